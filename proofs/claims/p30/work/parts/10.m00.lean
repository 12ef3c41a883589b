section
/-! An evaluator of bytecode over plain heaps: cells are numbered from 0 in the order in which they come; '.ref i' is cell i; '.retAddr _' stands for the law's script. -/
abbrev xE : Type := (FieldType × vp_A) ⊕ (Nat × List Value)
abbrev xL : Type := List (Nat × Value)
abbrev xH : Type := List xE
/-- an answer, the heap behind it, how many cells and slots came -/
abbrev xR : Type := Option Value × xH × Nat × Nat
/-- a method: its name, its code, its locals, what it answers -/
abbrev xM : Type := MethodName × ByteArray × Nat × Option FieldType
/-- a program: instructions; fields read (class, place); fields written (class, place, type); calls (kind, method, how many values, class); classes made; constants; a class's first values; methods -/
abbrev xG0 : Type := (Nat → Nat → Option Instr) × (Nat → Nat → Option (Nat × Nat)) × (Nat → Nat → Option (Nat × Nat × FieldType)) × (Nat → Nat → Option (Nat × Nat × Nat × Nat)) × (Nat → Nat → Option Nat) × (Nat → Nat → Option Value) × (Nat → List Value) × (Nat → xM)
/-- constant texts: which an ldc names; fields of theirs (0 value, 1 coder); statics; their bytes -/
abbrev xGx : Type := (Nat → Nat → Option Nat) × (Nat → Nat → Option Nat) × (Nat → Nat → Option Value) × List (List Int32)
abbrev xG : Type := xG0 × xGx
abbrev xIns (G : xG) : Nat → Nat → Option Instr := G.1.1
abbrev xFld (G : xG) : Nat → Nat → Option (Nat × Nat) := G.1.2.1
abbrev xPut (G : xG) : Nat → Nat → Option (Nat × Nat × FieldType) := G.1.2.2.1
abbrev xMth (G : xG) : Nat → Nat → Option (Nat × Nat × Nat × Nat) := G.1.2.2.2.1
abbrev xCls (G : xG) : Nat → Nat → Option Nat := G.1.2.2.2.2.1
abbrev xCon (G : xG) : Nat → Nat → Option Value := G.1.2.2.2.2.2.1
abbrev xDfl (G : xG) : Nat → List Value := G.1.2.2.2.2.2.2.1
abbrev xMet (G : xG) : Nat → xM := G.1.2.2.2.2.2.2.2
abbrev xStr (G : xG) : Nat → Nat → Option Nat := G.2.1
abbrev xExf (G : xG) : Nat → Nat → Option Nat := G.2.2.1
abbrev xSta (G : xG) : Nat → Nat → Option Value := G.2.2.2.1
abbrev xByt (G : xG) : List (List Int32) := G.2.2.2.2
/-- the script: its length, its ints -/
abbrev xS : Type := Nat × (Nat → Int32)
def xst1 (L : xL) (i : Nat) (v : Value) : xL := (i, v) :: L.filter (fun q => !(q.1 == i) && !(q.1 + 1 == i && q.2.category == 2))
def xst2 (L : xL) (i : Nat) (v : Value) : xL := (i, v) :: L.filter (fun q => !(q.1 == i) && (!(q.1 == i + 1) && !(q.1 + 1 == i && q.2.category == 2)))
/-- the operand stack alone -/
def xs1 (i : Instr) (st : List Value) : Option (List Value) := match i, st with
  | .iadd, .int y :: .int x :: r => some (.int (x + y) :: r)
  | .isub, .int y :: .int x :: r => some (.int (x - y) :: r)
  | .imul, .int y :: .int x :: r => some (.int (x * y) :: r)
  | .idiv, .int y :: .int x :: r => if y = 0 then none else some (.int (x / y) :: r)
  | .irem, .int y :: .int x :: r => if y = 0 then none else some (.int (x - x / y * y) :: r)
  | .ineg, .int x :: r => some (.int (-x) :: r)
  | .iand, .int y :: .int x :: r => some (.int (x &&& y) :: r)
  | .ior, .int y :: .int x :: r => some (.int (x ||| y) :: r)
  | .ixor, .int y :: .int x :: r => some (.int (x ^^^ y) :: r)
  | .ishl, .int y :: .int x :: r => some (.int (x <<< (y &&& 31)) :: r)
  | .ishr, .int y :: .int x :: r => some (.int (x >>> (y &&& 31)) :: r)
  | .iushr, .int y :: .int x :: r => some (.int (x.toUInt32 >>> (y.toUInt32 &&& Int32.toUInt32 31)).toInt32 :: r)
  | .ladd, .long y :: .long x :: r => some (.long (x + y) :: r)
  | .lsub, .long y :: .long x :: r => some (.long (x - y) :: r)
  | .lmul, .long y :: .long x :: r => some (.long (x * y) :: r)
  | .ldiv, .long y :: .long x :: r => if y = 0 then none else some (.long (x / y) :: r)
  | .lrem, .long y :: .long x :: r => if y = 0 then none else some (.long (x - x / y * y) :: r)
  | .lneg, .long x :: r => some (.long (-x) :: r)
  | .land, .long y :: .long x :: r => some (.long (x &&& y) :: r)
  | .lor, .long y :: .long x :: r => some (.long (x ||| y) :: r)
  | .lxor, .long y :: .long x :: r => some (.long (x ^^^ y) :: r)
  | .lshl, .int y :: .long x :: r => some (.long (x <<< (y.toInt64 &&& 63)) :: r)
  | .lshr, .int y :: .long x :: r => some (.long (x >>> (y.toInt64 &&& 63)) :: r)
  | .lushr, .int y :: .long x :: r => some (.long (x.toUInt64 >>> (y.toInt64.toUInt64 &&& Int64.toUInt64 63)).toInt64 :: r)
  | .lcmp, .long y :: .long x :: r => some (.int (lg_cmp x y) :: r)
  | .i2l, .int x :: r => some (.long x.toInt64 :: r)
  | .l2i, .long x :: r => some (.int x.toInt32 :: r)
  | .i2b, .int x :: r => some (.int x.toInt8.toInt32 :: r)
  | .i2s, .int x :: r => some (.int x.toInt16.toInt32 :: r)
  | .i2c, .int x :: r => some (.int (x.toUInt32 % 65536).toInt32 :: r)
  | _, _ => none
def xs1d (i : Instr) (st : List Value) : Option (List Value) := match i, st with
  | .dup, u :: r => if u.category = 1 then some (u :: u :: r) else none
  | .pop, u :: r => if u.category = 1 then some r else none
  | .pop2, u :: r => if u.category = 2 then some r else none
  | .dup_x1, u :: w :: r => if u.category = 1 ∧ w.category = 1 then some (u :: w :: u :: r) else none
  | .dup_x2, u :: w :: z :: r => if u.category = 1 ∧ w.category = 1 ∧ z.category = 1 then some (u :: w :: z :: u :: r) else none
  | .dup2, u :: w :: r => if u.category = 2 then some (u :: u :: w :: r) else if w.category = 1 then some (u :: w :: u :: w :: r) else none
  | .dup2, [u] => if u.category = 2 then some [u, u] else none
  | .dup2_x1, u :: w :: r => if u.category = 2 ∧ w.category = 1 then some (u :: w :: u :: r) else none
  | .dup2_x2, u :: w :: z :: r => if u.category = 2 ∧ w.category = 1 ∧ z.category = 1 then some (u :: w :: z :: u :: r) else none
  | _, _ => none
/-- constants and locals -/
def xs2 (con : Nat → Option Value) (str : Nat → Option Nat) (nL : Nat) (i : Instr) (L : xL) (st : List Value) : Option (xL × List Value) := match i with
  | .iconst n => some (L, .int (Int32.ofInt n) :: st)
  | .bipush n => some (L, .int (Int8.ofInt n).toInt32 :: st)
  | .sipush n => some (L, .int (Int16.ofInt n).toInt32 :: st)
  | .lconst n => some (L, .long (Int64.ofNat (n : Nat)) :: st)
  | .aconst_null => some (L, .null :: st)
  | .ldc k => match con k with
    | some (.int v) => some (L, .int v :: st)
    | some _ => none
    | none => match str k with
      | some i => some (L, .retAddr (2 * i + 1) :: st)
      | none => none
  | .ldc2_w k => match con k with
    | some (.long v) => some (L, .long v :: st)
    | _ => none
  | .iload k => match L.lookup k with
    | some (.int x) => some (L, .int x :: st)
    | _ => none
  | .iload_n k => match L.lookup k.val with
    | some (.int x) => some (L, .int x :: st)
    | _ => none
  | .lload k => match L.lookup k with
    | some (.long x) => some (L, .long x :: st)
    | _ => none
  | .lload_n k => match L.lookup k.val with
    | some (.long x) => some (L, .long x :: st)
    | _ => none
  | .aload k => match L.lookup k with
    | some (.ref x) => some (L, .ref x :: st)
    | some (.retAddr x) => if x = 1000 then none else some (L, .retAddr x :: st)
    | some .null => some (L, .null :: st)
    | _ => none
  | .aload_n k => match L.lookup k.val with
    | some (.ref x) => some (L, .ref x :: st)
    | some (.retAddr x) => if x = 1000 then none else some (L, .retAddr x :: st)
    | some .null => some (L, .null :: st)
    | _ => none
  | .istore k => match st with
    | .int x :: r => if k < nL then some (xst1 L k (.int x), r) else none
    | _ => none
  | .istore_n k => match st with
    | .int x :: r => if k.val < nL then some (xst1 L k.val (.int x), r) else none
    | _ => none
  | .lstore k => match st with
    | .long x :: r => if k + 1 < nL then some (xst2 L k (.long x), r) else none
    | _ => none
  | .lstore_n k => match st with
    | .long x :: r => if k.val + 1 < nL then some (xst2 L k.val (.long x), r) else none
    | _ => none
  | .astore k => match st with
    | .ref x :: r => if k < nL then some (xst1 L k (.ref x), r) else none
    | .retAddr x :: r => if k < nL ∧ ¬ x = 1000 then some (xst1 L k (.retAddr x), r) else none
    | _ => none
  | .astore_n k => match st with
    | .ref x :: r => if k.val < nL then some (xst1 L k.val (.ref x), r) else none
    | .retAddr x :: r => if k.val < nL ∧ ¬ x = 1000 then some (xst1 L k.val (.retAddr x), r) else none
    | _ => none
  | .iinc k n => match L.lookup k with
    | some (.int x) => if k < nL then some (xst1 L k (.int (x + Int32.ofInt n)), st) else none
    | _ => none
  | _ => none
def xjmp (pc : Nat) (off : Int) : Option Nat := if 0 ≤ (pc : Int) + off then some ((pc : Int) + off).toNat else none
def xcond (q : ClassFile.Cond) (x y : Int32) : Bool := match q with
  | .eq => decide (x = y)
  | .ne => decide (¬ x = y)
  | .lt => decide (x < y)
  | .ge => decide (y ≤ x)
  | .gt => decide (y < x)
  | .le => decide (x ≤ y)
/-- jumps -/
def xs3 (pc : Nat) (i : Instr) (st : List Value) : Option (Nat × List Value) := match i, st with
  | .goto off, r => (xjmp pc off).map (fun t => (t, r))
  | .ifCond q off, .int x :: r => match xjmp pc off with
    | some t => if xcond q x 0 = true then some (t, r) else some (pc + 3, r)
    | none => none
  | .if_icmp q off, .int y :: .int x :: r => match xjmp pc off with
    | some t => if xcond q x y = true then some (t, r) else some (pc + 3, r)
    | none => none
  | .tableswitch d lo hi offs, .int x :: r => if x.toInt < lo ∨ hi < x.toInt then (xjmp pc d).map (fun t => (t, r)) else match offs[(x.toInt - lo).toNat]? with
    | some off => (xjmp pc off).map (fun t => (t, r))
    | none => none
  | .lookupswitch d ps, .int x :: r => if (ps.toList.zip (ps.toList.drop 1)).all (fun (a, next) => a.1 < next.1) = true then (xjmp pc (Op.lookupswitch.offset ps.toList d x.toInt)).map (fun t => (t, r)) else none
  | _, _ => none
def xprim : FieldType → Bool
  | .int | .long | .byte | .boolean => true
  | _ => false
/-- the heap, nothing new -/
def xs4 (fld : Nat → Option (Nat × Nat)) (put : Nat → Option (Nat × Nat × FieldType)) (exf : Nat → Option Nat) (sta : Nat → Option Value) (byt : List (List Int32)) (sc : xS) (i : Instr) (st : List Value) (h : xH) : Option (List Value × xH) := match i, st with
  | .getfield k, .ref a :: r => match fld k, h[a]? with
    | some (ci, j), some (.inr (cj, fs)) => if ci = cj then match fs[j]? with
      | some v => some (v :: r, h)
      | none => none else none
    | _, _ => none
  | .getfield k, .retAddr e :: r => if e % 2 = 1 ∧ e / 2 < byt.length then match exf k with
    | some 0 => if e = 999 then none else some (.retAddr (2 * (e / 2) + 2) :: r, h)
    | some 1 => some (.int 0 :: r, h)
    | _ => none else none
  | .getstatic k, r => match sta k with
    | some v => some (v :: r, h)
    | none => none
  | .putfield k, v :: .ref a :: r => match put k, h[a]? with
    | some (ci, j, ty), some (.inr (cj, fs)) => if ci = cj ∧ j < fs.length ∧ narrow ty v = v ∧ fits ty v = true then some (r, h.set a (.inr (cj, fs.set j v))) else none
    | _, _ => none
  | .arraylength, .ref a :: r => match h[a]? with
    | some (.inl (ty, x)) => if xprim ty = true then some (.int (Int32.ofNat x.1) :: r, h) else none
    | _ => none
  | .arraylength, .retAddr e :: r => if e = 0 then some (.int (Int32.ofNat sc.1) :: r, h) else if (e % 2 = 0 ∧ ¬ e = 1000) ∧ e / 2 - 1 < byt.length then some (.int (Int32.ofNat (byt.getD (e / 2 - 1) []).length) :: r, h) else none
  | .iaload, .int j :: .ref a :: r => match h[a]? with
    | some (.inl (.int, n, .inl f)) => if j < 0 ∨ n ≤ j.toNatClampNeg then none else some (.int (f j.toNatClampNeg) :: r, h)
    | _ => none
  | .iaload, .int j :: .retAddr e :: r => if e ≠ 0 ∨ j < 0 ∨ sc.1 ≤ j.toNatClampNeg then none else some (.int (sc.2 j.toNatClampNeg) :: r, h)
  | .laload, .int j :: .ref a :: r => match h[a]? with
    | some (.inl (.long, n, .inr (.inl f))) => if j < 0 ∨ n ≤ j.toNatClampNeg then none else some (.long (f j.toNatClampNeg) :: r, h)
    | _ => none
  | .baload, .int j :: .ref a :: r => match h[a]? with
    | some (.inl (.byte, n, .inl f)) => if j < 0 ∨ n ≤ j.toNatClampNeg then none else some (.int (f j.toNatClampNeg) :: r, h)
    | some (.inl (.boolean, n, .inl f)) => if j < 0 ∨ n ≤ j.toNatClampNeg then none else some (.int (f j.toNatClampNeg) :: r, h)
    | _ => none
  | .baload, .int j :: .retAddr e :: r => if (e = 0 ∨ e % 2 = 1 ∨ e = 1000 ∨ byt.length ≤ e / 2 - 1) ∨ j < 0 ∨ (byt.getD (e / 2 - 1) []).length ≤ j.toNatClampNeg then none else some (.int ((byt.getD (e / 2 - 1) []).getD j.toNatClampNeg 0) :: r, h)
  | .iastore, .int x :: .int j :: .ref a :: r => match h[a]? with
    | some (.inl (.int, n, .inl f)) => if j < 0 ∨ n ≤ j.toNatClampNeg then none else some (r, h.set a (.inl (.int, n, .inl (upd f j.toNatClampNeg x))))
    | _ => none
  | .lastore, .long x :: .int j :: .ref a :: r => match h[a]? with
    | some (.inl (.long, n, .inr (.inl f))) => if j < 0 ∨ n ≤ j.toNatClampNeg then none else some (r, h.set a (.inl (.long, n, .inr (.inl (vp_updL f j.toNatClampNeg x)))))
    | _ => none
  | .bastore, .int x :: .int j :: .ref a :: r => match h[a]? with
    | some (.inl (.byte, n, .inl f)) => if j < 0 ∨ n ≤ j.toNatClampNeg then none else some (r, h.set a (.inl (.byte, n, .inl (upd f j.toNatClampNeg x.toInt8.toInt32))))
    | some (.inl (.boolean, n, .inl f)) => if j < 0 ∨ n ≤ j.toNatClampNeg then none else some (r, h.set a (.inl (.boolean, n, .inl (upd f j.toNatClampNeg (x &&& 1)))))
    | _ => none
  | _, _ => none
/-- may a method that answers ty end so? -/
def xret (i : Instr) (ty : Option FieldType) (v : Option Value) : Bool := match i, ty, v with
  | .return_, none, none => true
  | .ireturn, some ty, some (.int x) => decide (narrow ty (.int x) = .int x)
  | .lreturn, some .long, some (.long _) => true
  | .areturn, some (.object _), some (.retAddr e) => decide (¬ e = 1000)
  | _, _, _ => false
/-- a new array -/
def xnew (t : ArrayType) (n : Nat) : Option xE := match t with
  | .int => some (.inl (.int, n, .inl (fun _ => 0)))
  | .long => some (.inl (.long, n, .inr (.inl (fun _ => 0))))
  | .byte => some (.inl (.byte, n, .inl (fun _ => 0)))
  | .boolean => some (.inl (.boolean, n, .inl (fun _ => 0)))
  | _ => none
def xadd (k n : Nat) (r : Option xR) : Option xR := match r with
  | some (v, h, a, b) => some (v, h, k + a, n + b)
  | none => none
/-- which sort an instruction is: 1 stack, 2 dups, 3 locals, 4 jumps, 5 heap, 6 ends, 7 new, 8 newarray, 9 calls -/
def xsort : Instr → Nat
  | .dup | .pop | .pop2 | .dup_x1 | .dup_x2 | .dup2 | .dup2_x1 | .dup2_x2 => 2
  | .iconst _ | .bipush _ | .sipush _ | .lconst _ | .aconst_null | .ldc _ | .ldc2_w _ | .iload _ | .iload_n _ | .lload _ | .lload_n _ | .aload _ | .aload_n _ | .istore _ | .istore_n _ | .lstore _ | .lstore_n _ | .astore _ | .astore_n _ | .iinc _ _ => 3
  | .goto _ | .ifCond _ _ | .if_icmp _ _ | .tableswitch _ _ _ _ | .lookupswitch _ _ => 4
  | .getfield _ | .getstatic _ | .putfield _ | .arraylength | .iaload | .laload | .baload | .iastore | .lastore | .bastore => 5
  | .return_ | .ireturn | .lreturn | .areturn => 6
  | .new _ => 7
  | .newarray _ => 8
  | .invokevirtual _ | .invokespecial _ | .invokestatic _ => 9
  | _ => 1
/-- arrays copied: kind 7 -/
def xcopy (st : List Value) (h : xH) : Option (List Value × xH) := match st with
  | .int n :: .int dp :: .ref a1 :: .int sp :: .ref a0 :: r => if n < 0 ∨ dp < 0 ∨ sp < 0 ∨ 8 < (r.map (fun v => v.category)).sum then none else match h[a0]?, h[a1]? with
    | some (.inl (.int, n0, .inl f)), some (.inl (.int, n1, .inl g)) => if sp.toNatClampNeg + n.toNatClampNeg ≤ n0 ∧ dp.toNatClampNeg + n.toNatClampNeg ≤ n1 then some (r, h.set a1 (.inl (.int, n1, .inl (va_cpy f g sp.toNatClampNeg dp.toNatClampNeg n.toNatClampNeg)))) else none
    | some (.inl (.long, n0, .inr (.inl f))), some (.inl (.long, n1, .inr (.inl g))) => if sp.toNatClampNeg + n.toNatClampNeg ≤ n0 ∧ dp.toNatClampNeg + n.toNatClampNeg ≤ n1 then some (r, h.set a1 (.inl (.long, n1, .inr (.inl (va_cpy f g sp.toNatClampNeg dp.toNatClampNeg n.toNatClampNeg))))) else none
    | some (.inl (.byte, n0, .inl f)), some (.inl (.byte, n1, .inl g)) => if (sp.toNatClampNeg + n.toNatClampNeg ≤ n0 ∧ dp.toNatClampNeg + n.toNatClampNeg ≤ n1) ∧ (List.range n.toNatClampNeg).all (fun i => fits .byte (.int (f (sp.toNatClampNeg + i)))) = true then some (r, h.set a1 (.inl (.byte, n1, .inl (va_cpy f g sp.toNatClampNeg dp.toNatClampNeg n.toNatClampNeg)))) else none
    | _, _ => none
  | _ => none
/-- are the values as that kind of call wants them? -/
def xhead (nb kind ci : Nat) (as : List Value) (h : xH) : Bool := match kind, as with
  | 0, .retAddr e :: _ => ci == 98 && e % 2 == 1 && decide (e / 2 < nb)
  | 0, .ref a :: _ => match h[a]? with
    | some (.inr (cj, _)) => ci == cj && !(ci == 98)
    | _ => false
  | 1, _ => true
  | 4, .ref _ :: _ => true
  | 5, .ref _ :: _ => true
  | _, _ => false
/-- calls: 0 virtual, 1 static, 4 a constructor, 5 a nest mate's, 6 Object's, 7 arraycopy, 8 Math.max, 9 Math.min -/
def xlink (mth : Nat → Option (Nat × Nat × Nat × Nat)) (i : Instr) : Option (Nat × Nat × Nat × Nat) := match i with
  | .invokevirtual k => match mth k with
    | some (0, r) => some (0, r)
    | _ => none
  | .invokestatic k => match mth k with
    | some (1, r) => some (1, r)
    | some (7, r) => some (7, r)
    | some (8, r) => some (8, r)
    | some (9, r) => some (9, r)
    | _ => none
  | .invokespecial k => match mth k with
    | some (4, r) => some (4, r)
    | some (5, r) => some (5, r)
    | some (6, r) => some (6, r)
    | _ => none
  | _ => none
/-- THE EVALUATOR: at most n steps in a row, d calls deep; method M at pc with locals L, stack st, heap h -/
def xev (G : xG) (sc : xS) : Nat → Nat → Nat → Nat → xL → List Value → xH → Option xR
  | 0, _, _, _, _, _, _ => none
  | n + 1, d, M, pc, L, st, h => match xIns G M pc with
    | none => none
    | some i => match xsort i with
      | 1 => match xs1 i st with
        | some st' => xev G sc n d M (pc + 1) L st' h
        | none => none
      | 2 => match xs1d i st with
        | some st' => xev G sc n d M (pc + 1) L st' h
        | none => none
      | 3 => match xs2 (xCon G M) (xStr G M) (xMet G M).2.2.1 i L st with
        | some (L', st') => xev G sc n d M (pc + xlen i) L' st' h
        | none => none
      | 4 => match xs3 pc i st with
        | some (pc', st') => xev G sc n d M pc' L st' h
        | none => none
      | 5 => match xs4 (xFld G M) (xPut G M) (xExf G M) (xSta G M) (xByt G) sc i st h with
        | some (st', h') => xev G sc n d M (pc + xlen i) L st' h'
        | none => none
      | 6 => match st with
        | [] => if xret i (xMet G M).2.2.2 none = true then some (none, h, 0, 0) else none
        | [v] => if xret i (xMet G M).2.2.2 (some v) = true then some (some v, h, 0, 0) else none
        | _ => none
      | 7 => match i with
        | .new k => match xCls G M k with
          | some ci => xadd 1 (xDfl G ci).length (xev G sc n d M (pc + 3) L (.ref h.length :: st) (h ++ [.inr (ci, xDfl G ci)]))
          | none => none
        | _ => none
      | 8 => match i, st with
        | .newarray t, .int k :: r => if k < 0 ∨ 1000000 < k.toNatClampNeg then none else match xnew t k.toNatClampNeg with
          | some c => xadd 1 k.toNatClampNeg (xev G sc n d M (pc + 2) L (.ref h.length :: r) (h ++ [c]))
          | none => none
        | _, _ => none
      | 9 => match d, xlink (xMth G M) i with
        | d' + 1, some (kind, N, k, ci) => match kind with
          | 6 => match st with
            | .ref _ :: r => if 8 < (r.map (fun v => v.category)).sum then none else xev G sc n (d' + 1) M (pc + 3) L r h
            | _ => none
          | 7 => match xcopy st h with
            | some (st', h') => xev G sc n (d' + 1) M (pc + 3) L st' h'
            | none => none
          | 8 => match st with
            | .int y :: .int x :: r => if 8 < (r.map (fun v => v.category)).sum then none else xev G sc n (d' + 1) M (pc + 3) L (.int (if x < y then y else x) :: r) h
            | _ => none
          | 9 => match st with
            | .int y :: .int x :: r => if 8 < (r.map (fun v => v.category)).sum then none else xev G sc n (d' + 1) M (pc + 3) L (.int (if y < x then y else x) :: r) h
            | _ => none
          | _ => if st.length < k ∨ 8 < ((st.drop k).map (fun v => v.category)).sum ∨ (xMet G N).2.2.1 < (lg_sl (st.take k).reverse).length ∨ xhead (xByt G).length kind ci (st.take k).reverse h = false then none else match xev G sc n d' N 0 (lv_args 0 (st.take k).reverse) [] h with
            | some (v, h', a, b) => xadd a b (xev G sc n (d' + 1) M (pc + 3) L (v.toList ++ st.drop k) h')
            | none => none
        | _, _ => none
      | _ => none
end
section
/-! How the evaluator's heaps and values lie in the machine's: cell i is at base + i, the script at b. -/
def xv (base : Nat) (xa : Nat → Nat) : Value → Value
  | .ref i => .ref (base + i)
  | .retAddr k => if k = 1000 then va_rf (if xa 1000 = 0 then none else some (xa 1000 - 1)) else .ref (xa k)
  | v => v
abbrev xq (base : Nat) (xa : Nat → Nat) : Nat × Value → Nat × Value := fun q => (q.1, xv base xa q.2)
def xc (dA : FieldType → ClassId) (base : Nat) (xa : Nat → Nat) : xE → va_E
  | .inl (ty, x) => .inl (dA ty, x)
  | .inr (ci, fs) => .inr (ci, fs.map (xv base xa))
def xw (dA : FieldType → ClassId) (base : Nat) (xa : Nat → Nat) (h : xH) : va_W := h.mapIdx (fun i c => (base + i, xc dA base xa c))
def xtys (dA : FieldType → ClassId) : List (ClassId × FieldType) := [(dA .int, .int), (dA .long, .long), (dA .byte, .byte), (dA .boolean, .boolean)]
def xW (D : va_G) (cl : List vw_C) (dA : FieldType → ClassId) (base : Nat) (xa : Nat → Nat) (h : xH) (H : Heap) : Prop := H.size = base + h.length ∧ va_P D cl (xw dA base xa h) H
theorem xv_ext (base : Nat) (xa : Nat → Nat) {e : Nat} (h : ¬ e = 1000) : xv base xa (.retAddr e) = .ref (xa e) := by
  show (if e = 1000 then _ else _) = _
  rw [if_neg h]
theorem xv_txt (base : Nat) (xa : Nat → Nat) (i : Nat) : xv base xa (.retAddr (2 * i + 1)) = .ref (xa (2 * i + 1)) := xv_ext base xa (by omega)
theorem xv_cat (base : Nat) (xa : Nat → Nat) (v : Value) : (xv base xa v).category = v.category := by
  cases v with
  | retAddr k =>
    show (if k = 1000 then va_rf (if xa 1000 = 0 then none else some (xa 1000 - 1)) else Value.ref (xa k)).category = 1
    split
    · split <;> rfl
    · rfl
  | _ => rfl
theorem xw_at (dA : FieldType → ClassId) (base : Nat) (xa : Nat → Nat) {h : xH} {a : Nat} {c : xE} (hc : h[a]? = some c) : (xw dA base xa h)[a]? = some (base + a, xc dA base xa c) := by
  simp [xw, List.getElem?_mapIdx, hc]
theorem xw_set (dA : FieldType → ClassId) (base : Nat) (xa : Nat → Nat) (h : xH) (a : Nat) (c : xE) : xw dA base xa (h.set a c) = (xw dA base xa h).set a (base + a, xc dA base xa c) := by
  apply List.ext_getElem?
  intro i
  by_cases hi : i = a
  · subst hi
    by_cases hl : i < h.length
    · simp [xw, List.getElem?_mapIdx, List.getElem?_set_self, hl]
    · simp [xw, List.getElem?_mapIdx, hl]
  · simp [xw, List.getElem?_mapIdx, List.getElem?_set_ne (Ne.symm hi)]
theorem xw_push (dA : FieldType → ClassId) (base : Nat) (xa : Nat → Nat) (h : xH) (c : xE) : xw dA base xa (h ++ [c]) = xw dA base xa h ++ [(base + h.length, xc dA base xa c)] := by
  simp [xw, List.mapIdx_append]
theorem xw_len (dA : FieldType → ClassId) (base : Nat) (xa : Nat → Nat) (h : xH) : (xw dA base xa h).length = h.length := by simp [xw]
theorem xw_D (dA : FieldType → ClassId) (base : Nat) (xa : Nat → Nat) (h : xH) : va_D (fun q => base ≤ q) (xw dA base xa h) := by
  refine ⟨fun i j x y hi hj hxy => ?_, fun k q hk => ?_⟩
  · simp only [xw, List.getElem?_mapIdx] at hi hj
    cases h1 : h[i]? with
    | none => rw [h1] at hi; cases hi
    | some c1 =>
      cases h2 : h[j]? with
      | none => rw [h2] at hj; cases hj
      | some c2 =>
        rw [h1] at hi; rw [h2] at hj
        cases hi; cases hj
        have : base + i = base + j := hxy
        omega
  · simp only [xw, List.getElem?_mapIdx] at hk
    cases h1 : h[k]? with
    | none => rw [h1] at hk; cases hk
    | some c1 =>
      rw [h1] at hk; cases hk
      exact Nat.le_add_right _ _
theorem xst1_map (base : Nat) (xa : Nat → Nat) (L : xL) (i : Nat) (v : Value) : (xst1 L i v).map (xq base xa) = (i, xv base xa v) :: (L.map (xq base xa)).filter (fun q => !(q.1 == i) && !(q.1 + 1 == i && q.2.category == 2)) := by
  simp only [xst1, List.map_cons, List.filter_map]
  congr 2
  apply List.filter_congr
  intro q _
  simp only [Function.comp, xq, xv_cat]
theorem xst2_map (base : Nat) (xa : Nat → Nat) (L : xL) (i : Nat) (v : Value) : (xst2 L i v).map (xq base xa) = (i, xv base xa v) :: (L.map (xq base xa)).filter (fun q => !(q.1 == i) && (!(q.1 == i + 1) && !(q.1 + 1 == i && q.2.category == 2))) := by
  simp only [xst2, List.map_cons, List.filter_map]
  congr 2
  apply List.filter_congr
  intro q _
  simp only [Function.comp, xq, xv_cat]
theorem x_lookm {L : xL} {i : Nat} {v : Value} (h : L.lookup i = some v) : (i, v) ∈ L := by
  induction L with
  | nil => cases h
  | cons q r ih =>
    obtain ⟨j, w⟩ := q
    rw [List.lookup_cons] at h
    by_cases hj : (i == j) = true
    · rw [hj] at h
      cases h
      rw [beq_iff_eq.mp hj]
      exact List.mem_cons_self
    · have hj' : (i == j) = false := by simpa using hj
      rw [hj'] at h
      exact List.mem_cons_of_mem _ (ih h)
theorem x_look {base nL : Nat} {xa : Nat → Nat} {ls : Array Slot} {L : xL} {i : Nat} {v : Value} (hl : lv_has ls nL (L.map (xq base xa))) (h : L.lookup i = some v) : ls[i]? = some (.val (xv base xa v)) :=
  hl.2.2 (i, xv base xa v) (List.mem_map.mpr ⟨(i, v), x_lookm h, rfl⟩)
theorem x_lookn {base : Nat} {xa : Nat → Nat} {L : xL} {i : Nat} {v : Value} (h : L.lookup i = some v) : ∃ k : Nat, (L.map (xq base xa))[k]? = some (i, xv base xa v) := by
  obtain ⟨k, hk⟩ := List.getElem?_of_mem (x_lookm h)
  exact ⟨k, by rw [List.getElem?_map, hk]; rfl⟩
theorem x_args (base : Nat) (xa : Nat → Nat) : ∀ (vs : List Value) (i : Nat), lv_args i (vs.map (xv base xa)) = (lv_args i vs).map (xq base xa)
  | [], _ => rfl
  | v :: vs, i => by
    simp only [List.map_cons, lv_args, xv_cat]
    rw [x_args base xa vs]
theorem x_sl (base : Nat) (xa : Nat → Nat) (vs : List Value) : (lg_sl (vs.map (xv base xa))).length = (lg_sl vs).length := by
  induction vs with
  | nil => rfl
  | cons v t ih =>
    simp only [lg_sl, List.map_cons, List.flatMap_cons, List.length_append, xv_cat] at ih ⊢
    rw [ih]
    by_cases h : v.category = 2 <;> simp [h]
theorem x_fit (base : Nat) (xa : Nat → Nat) {ty : FieldType} {v : Value} (h : fits ty v = true) : fits ty (xv base xa v) = true := by
  cases v <;> first | exact h | (cases ty <;> first | rfl | cases h)
theorem x_nar (base : Nat) (xa : Nat → Nat) {ty : FieldType} {v : Value} (hf : fits ty v = true) (h : narrow ty v = v) : narrow ty (xv base xa v) = xv base xa v := by
  cases v <;> first | exact h | (cases ty <;> first | rfl | cases hf)
theorem x_jmp {pc t : Nat} {off : Int} (h : xjmp pc off = some t) : (pc : Int) + off = (t : Int) := by
  unfold xjmp at h
  split at h
  · cases h; omega
  · cases h
end
section
section XS
variable {p : Program} {l : Launch} {e : Env} {R : Room} {s : State} {m : MethodId} {args : Array Value} {below : List Frame} {meth : Method} {c : Code} {H : Heap} {locs : List Loc} {cells slots : Nat} {Q : State → Prop}
variable {cc : ByteArray} {pc : Nat} {ls : Array Slot} {base : Nat} {xa : Nat → Nat}
set_option maxHeartbeats 4000000 in
theorem xs1_ok (hx : p.tables.exec = Jvm.exec) (hb : c.code = cc) {i : Instr} {st st' : List Value} (hd : decode cc pc = .ok (i, 1)) (h : xs1 i st = some st') (k : W p l e R s m args below meth c H locs cells slots Q (F0 m (pc + 1) ls (st'.map (xv base xa)))) : W p l e R s m args below meth c H locs cells slots Q (F0 m pc ls (st.map (xv base xa))) := by
  unfold xs1 at h
  split at h
  · cases h; exact lv_iadd hx hb hd k
  · cases h; exact lv_isub hx hb hd k
  · cases h; exact lv_imul hx hb hd k
  · split at h
    · cases h
    · rename_i hne; cases h; exact lv_idiv hx hb hd hne k
  · split at h
    · cases h
    · rename_i hne; cases h; exact lv_irem hx hb hd hne k
  · cases h; exact lv_ineg hx hb hd k
  · cases h; exact lv_iand hx hb hd k
  · cases h; exact lv_ior hx hb hd k
  · cases h; exact lv_ixor hx hb hd k
  · cases h; exact lv_ishl hx hb hd k
  · cases h; exact lv_ishr hx hb hd k
  · cases h; exact lv_iushr hx hb hd rfl k
  · cases h; exact lv_ladd hx hb hd k
  · cases h; exact lv_lsub hx hb hd k
  · cases h; exact lv_lmul hx hb hd k
  · split at h
    · cases h
    · rename_i hne; cases h; exact lv_ldiv hx hb hd hne k
  · split at h
    · cases h
    · rename_i hne; cases h; exact lv_lrem hx hb hd hne k
  · cases h; exact lv_lneg hx hb hd k
  · cases h; exact lv_land hx hb hd k
  · cases h; exact lv_lor hx hb hd k
  · cases h; exact lv_lxor hx hb hd k
  · cases h; exact lv_lshl hx hb hd rfl k
  · cases h; exact lv_lshr hx hb hd rfl k
  · cases h; exact lv_lushr hx hb hd rfl k
  · cases h; exact W.lcmp hx hb hd k
  · cases h; exact lv_i2l hx hb hd rfl k
  · cases h; exact lv_l2i hx hb hd rfl k
  · cases h; exact lv_i2b hx hb hd rfl k
  · cases h; exact lv_i2s hx hb hd rfl k
  · cases h; exact lv_i2c hx hb hd rfl k
  · cases h
set_option maxHeartbeats 4000000 in
theorem xs1d_ok (hx : p.tables.exec = Jvm.exec) (hb : c.code = cc) {i : Instr} {st st' : List Value} (hd : decode cc pc = .ok (i, 1)) (h : xs1d i st = some st') (k : W p l e R s m args below meth c H locs cells slots Q (F0 m (pc + 1) ls (st'.map (xv base xa)))) : W p l e R s m args below meth c H locs cells slots Q (F0 m pc ls (st.map (xv base xa))) := by
  have cat : ∀ v : Value, (xv base xa v).category = v.category := xv_cat base xa
  unfold xs1d at h
  split at h
  · split at h
    · rename_i q; cases h; exact lv_dup hx hb hd (by rw [cat]; exact q) k
    · cases h
  · split at h
    · rename_i q; cases h; exact lv_pop hx hb hd (by rw [cat]; exact q) k
    · cases h
  · split at h
    · rename_i q; cases h; exact lv_pop2_2 hx hb hd (by rw [cat]; exact q) k
    · cases h
  · split at h
    · rename_i q; cases h; exact lv_dup_x1 hx hb hd (by rw [cat]; exact q.1) (by rw [cat]; exact q.2) k
    · cases h
  · split at h
    · rename_i q; cases h; exact lv_dup_x2 hx hb hd (by rw [cat]; exact q.1) (by rw [cat]; exact q.2.1) (by rw [cat]; exact q.2.2) k
    · cases h
  · split at h
    · rename_i q; cases h; exact lv_dup2_2 hx hb hd (by rw [cat]; exact q) k
    · split at h
      · rename_i u w r q q2
        cases h
        have q1 : u.category = 1 := by rcases lv_cat u with z | z; exact z; exact absurd z q
        exact lv_dup2_11 hx hb hd (by rw [cat]; exact q1) (by rw [cat]; exact q2) k
      · cases h
  · split at h
    · rename_i q; cases h; exact lv_dup2_2 hx hb hd (by rw [cat]; exact q) k
    · cases h
  · split at h
    · rename_i q; cases h; exact lv_dup2_x1_2 hx hb hd (by rw [cat]; exact q.1) (by rw [cat]; exact q.2) k
    · cases h
  · split at h
    · rename_i q; cases h; exact lv_dup2_x2_2 hx hb hd (by rw [cat]; exact q.1) (by rw [cat]; exact q.2.1) (by rw [cat]; exact q.2.2) k
    · cases h
  · cases h
set_option maxHeartbeats 4000000 in
theorem xs2_ok (hx : p.tables.exec = Jvm.exec) (hb : c.code = cc) {own : String} (hown : s.vm.findClass own = some m.cls) {con : Nat → Option Value} (hc1 : ∀ k v, con k = some (.int v) → (Jvm.Cond.constant own k v).before args s = true) (hc2 : ∀ k v, con k = some (.long v) → (Jvm.Cond.constantLong own k v).before args s = true) {str : Nat → Option Nat} (hstr : ∀ k i, str k = some i → ∃ tx, vk_R own k tx (xa (2 * i + 1)) s)
    {nL : Nat} {i : Instr} {L L' : xL} {st st' : List Value} (hd : decode cc pc = .ok (i, xlen i)) (hl : lv_has ls nL (L.map (xq base xa))) (h : xs2 con str nL i L st = some (L', st')) (k : ∀ ls' : Array Slot, lv_has ls' nL (L'.map (xq base xa)) → W p l e R s m args below meth c H locs cells slots Q (F0 m (pc + xlen i) ls' (st'.map (xv base xa)))) : W p l e R s m args below meth c H locs cells slots Q (F0 m pc ls (st.map (xv base xa))) := by
  unfold xs2 at h
  split at h
  · cases h; exact lv_iconst hx hb hd rfl (k ls hl)
  · cases h; exact lv_bipush hx hb hd rfl (k ls hl)
  · cases h; exact lv_sipush hx hb hd rfl (k ls hl)
  · cases h; exact lv_lconst hx hb hd rfl (k ls hl)
  · cases h; exact lv_null hx hb hd (k ls hl)
  · split at h
    · rename_i q; cases h; exact lv_ldc hx hb hown (hc1 _ _ q) hd (k ls hl)
    · cases h
    · split at h
      · rename_i q; cases h; obtain ⟨tx, hz⟩ := hstr _ _ q; have z := k ls hl; simp only [List.map_cons, xv_txt] at z; exact va_ldcS hx hb hown hz hd z
      · cases h
  · split at h
    · rename_i q; cases h; exact lv_ldc2 hx hb hown (hc2 _ _ q) hd (k ls hl)
    · cases h
  · split at h
    · rename_i q; cases h; exact lv_iload hx hb hd (x_look hl q) (k ls hl)
    · cases h
  · split at h
    · rename_i q; cases h; exact lv_iload_n hx hb hd rfl (x_look hl q) (k ls hl)
    · cases h
  · split at h
    · rename_i q; cases h; exact lv_lload hx hb hd (x_look hl q) (k ls hl)
    · cases h
  · split at h
    · rename_i q; cases h; exact lv_lload_n hx hb hd rfl (x_look hl q) (k ls hl)
    · cases h
  · split at h
    · rename_i q; cases h; exact lv_aload hx hb hd (x_look hl q) (k ls hl)
    · rename_i q
      split at h
      · cases h
      · rename_i q2
        cases h
        have z := k ls hl
        simp only [List.map_cons, xv_ext base xa q2] at z
        exact lv_aload hx hb hd (by rw [x_look hl q, xv_ext base xa q2]) z
    · rename_i q; cases h; exact lv_aloadN hx hb hd (x_look hl q) (k ls hl)
    · cases h
  · split at h
    · rename_i q; cases h; exact lv_aload_n hx hb hd rfl (x_look hl q) (k ls hl)
    · rename_i q
      split at h
      · cases h
      · rename_i q2
        cases h
        have z := k ls hl
        simp only [List.map_cons, xv_ext base xa q2] at z
        exact lv_aload_n hx hb hd rfl (by rw [x_look hl q, xv_ext base xa q2]) z
    · rename_i q; cases h; exact lv_aload_nN hx hb hd rfl (x_look hl q) (k ls hl)
    · cases h
  · split at h
    · split at h
      · rename_i q; cases h; exact lv_istore hx hb hd hl q (xst1_map base xa L _ (.int _)).symm k
      · cases h
    · cases h
  · split at h
    · split at h
      · rename_i q; cases h; exact lv_istore_n hx hb hd rfl hl q (xst1_map base xa L _ (.int _)).symm k
      · cases h
    · cases h
  · split at h
    · split at h
      · rename_i q; cases h; exact lv_lstore hx hb hd hl q (xst2_map base xa L _ (.long _)).symm k
      · cases h
    · cases h
  · split at h
    · split at h
      · rename_i q; cases h; exact lv_lstore_n hx hb hd rfl hl q (xst2_map base xa L _ (.long _)).symm k
      · cases h
    · cases h
  · split at h
    · split at h
      · rename_i q; cases h; exact lv_astore hx hb hd hl q (xst1_map base xa L _ (.ref _)).symm k
      · cases h
    · split at h
      · rename_i q
        cases h
        simp only [List.map_cons, xv_ext base xa q.2]
        exact lv_astore hx hb hd hl q.1 (by rw [xst1_map, xv_ext base xa q.2]) k
      · cases h
    · cases h
  · split at h
    · split at h
      · rename_i q; cases h; exact lv_astore_n hx hb hd rfl hl q (xst1_map base xa L _ (.ref _)).symm k
      · cases h
    · split at h
      · rename_i q
        cases h
        simp only [List.map_cons, xv_ext base xa q.2]
        exact lv_astore_n hx hb hd rfl hl q.1 (by rw [xst1_map, xv_ext base xa q.2]) k
      · cases h
    · cases h
  · split at h
    · rename_i q
      split at h
      · rename_i q2
        cases h
        obtain ⟨n, hn⟩ := x_lookn (base := base) (xa := xa) q
        exact lv_iinc hx hb hd hl hn rfl q2 (xst1_map base xa L _ (.int _)).symm k
      · cases h
    · cases h
  · cases h
set_option maxHeartbeats 4000000 in
theorem xs3_ok (hx : p.tables.exec = Jvm.exec) (hb : c.code = cc) {i : Instr} {n pc' : Nat} {st st' : List Value} (hd : decode cc pc = .ok (i, n)) (hn : xsw i = true ∨ n = xlen i) (h : xs3 pc i st = some (pc', st')) (k : W p l e R s m args below meth c H locs cells slots Q (F0 m pc' ls (st'.map (xv base xa)))) : W p l e R s m args below meth c H locs cells slots Q (F0 m pc ls (st.map (xv base xa))) := by
  unfold xs3 at h
  split at h
  · obtain rfl : n = 3 := by rcases hn with q | q; cases q; exact q
    obtain ⟨t, h1, h2⟩ := Option.map_eq_some_iff.mp h
    cases h2
    exact lv_goto hx hb hd (x_jmp h1) k
  · obtain rfl : n = 3 := by rcases hn with q | q; cases q; exact q
    rename_i q off x r
    split at h
    · rename_i t q1
      cases q
      · split at h
        · rename_i hq; cases h; have hc := of_decide_eq_true hq; exact lv_if_eq hx hb hd (x_jmp q1) (fun _ => k) (fun z => absurd hc z)
        · rename_i hq; cases h; have hc := fun z => hq (decide_eq_true z); exact lv_if_eq hx hb hd (x_jmp q1) (fun z => absurd z hc) (fun _ => k)
      · split at h
        · rename_i hq; cases h; have hc := of_decide_eq_true hq; exact lv_if_ne hx hb hd (x_jmp q1) (fun _ => k) (fun z => absurd z hc)
        · rename_i hq; cases h; have hc : x = 0 := Decidable.not_not.mp (fun z => hq (decide_eq_true z)); exact lv_if_ne hx hb hd (x_jmp q1) (fun z => absurd hc z) (fun _ => k)
      · split at h
        · rename_i hq; cases h; have hc := of_decide_eq_true hq; exact lv_if_lt hx hb hd (x_jmp q1) (fun _ => k) (fun z => absurd hc z)
        · rename_i hq; cases h; have hc := fun z => hq (decide_eq_true z); exact lv_if_lt hx hb hd (x_jmp q1) (fun z => absurd z hc) (fun _ => k)
      · split at h
        · rename_i hq; cases h; have hc := of_decide_eq_true hq; exact lv_if_ge hx hb hd (x_jmp q1) (fun _ => k) (fun z => absurd hc z)
        · rename_i hq; cases h; have hc := fun z => hq (decide_eq_true z); exact lv_if_ge hx hb hd (x_jmp q1) (fun z => absurd z hc) (fun _ => k)
      · split at h
        · rename_i hq; cases h; have hc := of_decide_eq_true hq; exact lv_if_gt hx hb hd (x_jmp q1) (fun _ => k) (fun z => absurd hc z)
        · rename_i hq; cases h; have hc := fun z => hq (decide_eq_true z); exact lv_if_gt hx hb hd (x_jmp q1) (fun z => absurd z hc) (fun _ => k)
      · split at h
        · rename_i hq; cases h; have hc := of_decide_eq_true hq; exact lv_if_le hx hb hd (x_jmp q1) (fun _ => k) (fun z => absurd hc z)
        · rename_i hq; cases h; have hc := fun z => hq (decide_eq_true z); exact lv_if_le hx hb hd (x_jmp q1) (fun z => absurd z hc) (fun _ => k)
    · cases h
  · obtain rfl : n = 3 := by rcases hn with q | q; cases q; exact q
    rename_i q off y x r
    split at h
    · rename_i t q1
      cases q
      · split at h
        · rename_i hq; cases h; have hc := of_decide_eq_true hq; exact lv_icmp_eq hx hb hd (x_jmp q1) (fun _ => k) (fun z => absurd hc z)
        · rename_i hq; cases h; have hc := fun z => hq (decide_eq_true z); exact lv_icmp_eq hx hb hd (x_jmp q1) (fun z => absurd z hc) (fun _ => k)
      · split at h
        · rename_i hq; cases h; have hc := of_decide_eq_true hq; exact lv_icmp_ne hx hb hd (x_jmp q1) (fun _ => k) (fun z => absurd z hc)
        · rename_i hq; cases h; have hc : x = y := Decidable.not_not.mp (fun z => hq (decide_eq_true z)); exact lv_icmp_ne hx hb hd (x_jmp q1) (fun z => absurd hc z) (fun _ => k)
      · split at h
        · rename_i hq; cases h; have hc := of_decide_eq_true hq; exact lv_icmp_lt hx hb hd (x_jmp q1) (fun _ => k) (fun z => absurd hc z)
        · rename_i hq; cases h; have hc := fun z => hq (decide_eq_true z); exact lv_icmp_lt hx hb hd (x_jmp q1) (fun z => absurd z hc) (fun _ => k)
      · split at h
        · rename_i hq; cases h; have hc := of_decide_eq_true hq; exact lv_icmp_ge hx hb hd (x_jmp q1) (fun _ => k) (fun z => absurd hc z)
        · rename_i hq; cases h; have hc := fun z => hq (decide_eq_true z); exact lv_icmp_ge hx hb hd (x_jmp q1) (fun z => absurd z hc) (fun _ => k)
      · split at h
        · rename_i hq; cases h; have hc := of_decide_eq_true hq; exact lv_icmp_gt hx hb hd (x_jmp q1) (fun _ => k) (fun z => absurd hc z)
        · rename_i hq; cases h; have hc := fun z => hq (decide_eq_true z); exact lv_icmp_gt hx hb hd (x_jmp q1) (fun z => absurd z hc) (fun _ => k)
      · split at h
        · rename_i hq; cases h; have hc := of_decide_eq_true hq; exact lv_icmp_le hx hb hd (x_jmp q1) (fun _ => k) (fun z => absurd hc z)
        · rename_i hq; cases h; have hc := fun z => hq (decide_eq_true z); exact lv_icmp_le hx hb hd (x_jmp q1) (fun z => absurd z hc) (fun _ => k)
    · cases h
  · split at h
    · rename_i q
      obtain ⟨t, h1, h2⟩ := Option.map_eq_some_iff.mp h
      cases h2
      exact lv_tableOut hx hb hd q (x_jmp h1) k
    · rename_i q
      split at h
      · rename_i off q2
        obtain ⟨t, h1, h2⟩ := Option.map_eq_some_iff.mp h
        cases h2
        exact lv_tableIn hx hb hd (fun z => q (Or.inl z)) (fun z => q (Or.inr z)) q2 (x_jmp h1) k
      · cases h
  · split at h
    · rename_i q
      obtain ⟨t, h1, h2⟩ := Option.map_eq_some_iff.mp h
      cases h2
      exact lv_lookup hx hb hd q rfl (x_jmp h1) k
    · cases h
  · cases h
end XS
end
section
/-- the script, the constant texts and the statics, where the evaluator has them -/
def xEx (G : xG) (sc : xS) (base : Nat) (xa : Nat → Nat) (U : State) (H : Heap) : Prop :=
  va_X (xa 0) sc.1 sc.2 U H ∧ (∀ i, i < (xByt G).length → va_O "java/lang/String" (xa (2 * i + 1)) (fun q => base ≤ q) U H ∧ va_OF "java/lang/String" "coder" "B" (.int 0) (xa (2 * i + 1)) (fun q => base ≤ q) U H ∧ va_OF "java/lang/String" "value" "[B" (.ref (xa (2 * i + 2))) (xa (2 * i + 1)) (fun q => base ≤ q) U H ∧ va_T .byte (xa (2 * i + 2)) ((xByt G).getD i []).length (fun j => .int (((xByt G).getD i []).getD j 0)) (fun q => base ≤ q) U H) ∧
  va_Z "java/lang/String" "COMPACT_STRINGS" "Z" (.int 1) (fun q => base ≤ q) U H ∧ va_Z "jdk/internal/util/Preconditions" "SIOOBE_FORMATTER" "Ljava/util/function/BiFunction;" (xv base xa (.retAddr 1000)) (fun q => base ≤ q) U H
theorem xEx.moved {G : xG} {sc : xS} {base : Nat} {xa : Nat → Nat} {u U : State} {H : Heap} (hvm : u.vm.Alike U.vm) (h : xEx G sc base xa u H) : xEx G sc base xa U H :=
  ⟨h.1.moved hvm, fun i hi => ⟨(h.2.1 i hi).1.moved hvm, (h.2.1 i hi).2.1.moved hvm, (h.2.1 i hi).2.2.1.moved hvm, (h.2.1 i hi).2.2.2.moved hvm⟩, h.2.2.1.moved hvm, h.2.2.2.moved hvm⟩
theorem xEx.kept {G : xG} {sc : xS} {base : Nat} {xa : Nat → Nat} {U : State} {H H1 : Heap} (h : xEx G sc base xa U H) (hb : xa 0 < base) (hge : base ≤ H.size) (hq : ∀ a : Nat, a < H.size → ¬ base ≤ a → H1[a]? = H[a]?) : xEx G sc base xa U H1 :=
  ⟨h.1.kept (hq _ (by omega) (by omega)), fun i hi => ⟨(h.2.1 i hi).1.kept hq, (h.2.1 i hi).2.1.kept hq, (h.2.1 i hi).2.2.1.kept hq, (h.2.1 i hi).2.2.2.kept hq⟩, h.2.2.1.kept hq, h.2.2.2.kept hq⟩
/-- what the tables must say of a program, so that the evaluator speaks of the machine -/
def xOK (G : xG) (cl : List vw_C) (Ts : List Cond) : Prop :=
  (∀ M pc i, xIns G M pc = some i → ∃ n, decode (xMet G M).2.1 pc = .ok (i, n) ∧ (xsw i = true ∨ n = xlen i)) ∧
  (∀ M k ci j, xFld G M k = some (ci, j) → ∃ (C : String) (T : u_T) (N : Nat), cl[ci]? = some (C, T, N) ∧ j < N ∧ (∀ w ∈ u_ws C T N, w ∈ Ts) ∧ Cond.fieldLink (xMet G M).1.cls k (T j).1 (T j).2.1 (T j).2.2.1 ∈ Ts) ∧
  (∀ M k ci j ty, xPut G M k = some (ci, j, ty) → ∃ (C : String) (T : u_T) (N : Nat) (ty0 : Nat → FieldType), cl[ci]? = some (C, T, N) ∧ j < N ∧ (∀ w ∈ u_ws C T N, w ∈ Ts) ∧ Cond.fieldLink (xMet G M).1.cls k (T j).1 (T j).2.1 (T j).2.2.1 ∈ Ts ∧ (∀ k, k < N → parseFieldDescriptor (T k).2.2.1 = some (ty0 k)) ∧ ty0 j = ty ∧ (∀ a, a < N → ∀ b, b < N → a ≠ b → (T a).2.1 ≠ (T b).2.1) ∧ ((T j).2.2.2 = false ∨ ((T j).2.2.2 = true ∧ (xMet G M).1.name = "<init>" ∧ (T j).1 = (xMet G M).1.cls))) ∧
  (∀ M k ci, xCls G M k = some ci → ∃ (C : String) (T : u_T) (N : Nat) (ty : Nat → FieldType), cl[ci]? = some (C, T, N) ∧ (∀ w ∈ u_ws C T N, w ∈ Ts) ∧ (∀ k, k < N → parseFieldDescriptor (T k).2.2.1 = some (ty k)) ∧ Cond.classLink (xMet G M).1.cls k C ∈ Ts ∧ Cond.instantiable C N ∈ Ts ∧ Cond.initialized C ∈ Ts ∧ (xDfl G ci).length = N ∧ (∀ base xa, (xDfl G ci).map (xv base xa) = xDfl G ci) ∧ ∀ j, j < N → defaultValue (ty j) = vp_V (xDfl G ci) j) ∧
  (∀ M k v, xCon G M k = some (.int v) → Jvm.Cond.constant (xMet G M).1.cls k v ∈ Ts) ∧
  (∀ M k v, xCon G M k = some (.long v) → Jvm.Cond.constantLong (xMet G M).1.cls k v ∈ Ts) ∧
  (Cond.arrayClass .int ∈ Ts ∧ Cond.arrayClass .long ∈ Ts ∧ Cond.arrayClass .byte ∈ Ts ∧ Cond.arrayClass .boolean ∈ Ts) ∧
  (∀ w ∈ Ts, goodWord w = true) ∧
  (∀ M k, xExf G M k = some 0 → Cond.fieldLink (xMet G M).1.cls k "java/lang/String" "value" "[B" ∈ Ts) ∧ (∀ M k, xExf G M k = some 1 → Cond.fieldLink (xMet G M).1.cls k "java/lang/String" "coder" "B" ∈ Ts) ∧
  (∀ M k v, xSta G M k = some v → (v = .int 1 ∧ Cond.fieldLink (xMet G M).1.cls k "java/lang/String" "COMPACT_STRINGS" "Z" ∈ Ts) ∨ (v = .retAddr 1000 ∧ Cond.fieldLink (xMet G M).1.cls k "jdk/internal/util/Preconditions" "SIOOBE_FORMATTER" "Ljava/util/function/BiFunction;" ∈ Ts))
section XH
variable {p : Program} {l : Launch} {e : Env} {R : Room} {s : State} {m : MethodId} {args : Array Value} {below : List Frame} {meth : Method} {c : Code} {H : Heap} {locs : List Loc} {cells slots : Nat} {Q : State → Prop}
variable {cc : ByteArray} {pc : Nat} {ls : Array Slot} {base : Nat} {xa : Nat → Nat} {D : va_G} {cl : List vw_C} {dA : FieldType → ClassId} {Ts : List Cond} {G : xG} {sc : xS}
theorem x_room {n : Nat} (hs : s.heap.size + cells = n) {g : JFrame} (k : H.size ≤ n → W p l e R s m args below meth c H locs cells slots Q g) : W p l e R s m args below meth c H locs cells slots Q g := by
  intro T hT X
  have h1 : (T.setVm s.vm).heap.size ≤ s.heap.size + cells := X.same.2.2.1
  have h2 : T.heap.size ≤ s.heap.size + cells := h1
  rw [hT, hs] at h2
  exact k h2 T hT X
theorem x_aft {h : xH} {a : Nat} {c1 : xE} {H1 : Heap} {locs1 : List Loc} (hw : xW D cl dA base xa h H) (hsz : H1.size ≤ base + h.length) (hP1 : va_P D cl ((xw dA base xa h).set a (base + a, xc dA base xa c1)) H1) (hS1 : va_S (fun q => base ≤ q) H H1 locs1) : xW D cl dA base xa (h.set a c1) H1 := by
  refine ⟨?_, by rw [xw_set]; exact hP1⟩
  have h1 := hS1.1
  have h2 := hw.1
  simp only [List.length_set]
  omega
theorem x_sS (hlc : ∀ q ∈ locs, base ≤ q.base) : va_S (fun q => base ≤ q) H H locs := ⟨Nat.le_refl _, fun _ _ _ => rfl, hlc⟩
theorem x_X {H1 : Heap} {locs1 : List Loc} (hX : xEx G sc base xa s H) (hbb : xa 0 < base) (hw : base ≤ H.size) (hS1 : va_S (fun q => base ≤ q) H H1 locs1) : xEx G sc base xa s H1 := hX.kept hbb hw (fun a h1 h2 => hS1.2.1 a h1 h2)
theorem x_ty {ty : FieldType} (h : xprim ty = true) : ∃ t0 : Nat, (xtys dA)[t0]? = some (dA ty, ty) := by
  cases ty <;> first | exact ⟨0, rfl⟩ | exact ⟨1, rfl⟩ | exact ⟨2, rfl⟩ | exact ⟨3, rfl⟩ | cases h
theorem x_in {j : Int32} {n : Nat} (h : ¬ (j < 0 ∨ n ≤ j.toNatClampNeg)) : vp_in j n := h
set_option maxHeartbeats 8000000 in
theorem xs4_ok (hG : xOK G cl Ts) {M : Nat} (hx : p.tables.exec = Jvm.exec) (hb : c.code = (xMet G M).2.1) (hown : s.vm.findClass (xMet G M).1.cls = some m.cls) (hts : ∀ w ∈ Ts, w.before args s = true) (hK : va_K D cl (xtys dA) s) (hin : (xMet G M).1.name = "<init>" → meth.name = "<init>") (hbb : xa 0 < base)
    {i : Instr} {st st' : List Value} {h h' : xH} (hd : decode (xMet G M).2.1 pc = .ok (i, xlen i)) (hX : xEx G sc base xa s H) (hs : s.heap.size + cells = base + h.length) (hw : xW D cl dA base xa h H) (hlc : ∀ q ∈ locs, base ≤ q.base) (hh : xs4 (xFld G M) (xPut G M) (xExf G M) (xSta G M) (xByt G) sc i st h = some (st', h'))
    (k : ∀ (H' : Heap) (locs' : List Loc), h'.length = h.length → xW D cl dA base xa h' H' → xEx G sc base xa s H' → (∀ q ∈ locs', base ≤ q.base) → W p l e R s m args below meth c H' locs' cells slots Q (F0 m (pc + xlen i) ls (st'.map (xv base xa)))) : W p l e R s m args below meth c H locs cells slots Q (F0 m pc ls (st.map (xv base xa))) := by
  have hge : base ≤ H.size := by have := hw.1; omega
  unfold xs4 at hh
  split at hh
  · split at hh
    · rename_i q1 q2
      split at hh
      · rename_i q3
        subst q3
        split at hh
        · rename_i q4
          cases hh
          obtain ⟨C, T, N, hc, hj, hwi, hlk⟩ := hG.2.1 _ _ _ _ q1
          exact va_get (D := D) (C := C) (T := T) (N := N) hx hb hts hwi hown hK hw.2 _ (xw_at dA base xa q2) hc _ hj (hts _ hlk) (fun _ z => z) (by rw [List.getElem?_map, q4]; rfl) hd (k H locs rfl hw hX hlc)
        · cases hh
      · cases hh
    · cases hh
  · split at hh
    · rename_i q0
      have hE := hX.2.1 _ q0.2
      have e2 : ∀ e : Nat, e % 2 = 1 → 2 * (e / 2) + 1 = e := fun e he => by omega
      have e9 : ∀ e : Nat, e % 2 = 1 → ¬ e = 1000 := fun e he => by omega
      simp only [List.map_cons, xv_ext base xa (e9 _ q0.1)]
      split at hh
      · rename_i q1
        split at hh
        · cases hh
        rename_i q9
        cases hh
        obtain ⟨cf, kk, fi, f, cell, h1, h2, h3, h4, h5, h6⟩ := hE.2.2.1
        rw [e2 _ q0.1] at h3
        have z := k H locs rfl hw hX hlc
        simp only [List.map_cons, xv_ext base xa ((fun e he h => by omega : ∀ e : Nat, e % 2 = 1 → ¬ e = 999 → ¬ 2 * (e / 2) + 2 = 1000) _ q0.1 q9)] at z
        exact W.getf hx hb hown (hts _ (hG.2.2.2.2.2.2.2.2.1 _ _ q1)) h1 h2 h3 h4 h5 rfl rfl hd z
      · rename_i q1
        cases hh
        obtain ⟨cf, kk, fi, f, cell, h1, h2, h3, h4, h5, h6⟩ := hE.2.1
        rw [e2 _ q0.1] at h3
        exact W.getf hx hb hown (hts _ (hG.2.2.2.2.2.2.2.2.2.1 _ _ q1)) h1 h2 h3 h4 h5 rfl rfl hd (k H locs rfl hw hX hlc)
      · cases hh
    · cases hh
  · split at hh
    · rename_i v q1
      cases hh
      rcases hG.2.2.2.2.2.2.2.2.2.2 _ _ _ q1 with ⟨rfl, z⟩ | ⟨rfl, z⟩
      · obtain ⟨cf, kf, fi, f, a, cell, h1, h2, h3, h4, h5, h6, h7, h8⟩ := hX.2.2.1
        exact W.gets hx hb hown (hts _ z) h1 h2 h3 h4 h5 (fun e => by rw [e] at h6; cases h6) h7 rfl hd (k H locs rfl hw hX hlc)
      · obtain ⟨cf, kf, fi, f, a, cell, h1, h2, h3, h4, h5, h6, h7, h8⟩ := hX.2.2.2
        exact W.gets hx hb hown (hts _ z) h1 h2 h3 h4 h5 (fun e => by rw [e] at h6; cases h6) h7 rfl hd (k H locs rfl hw hX hlc)
    · cases hh
  · split at hh
    · rename_i q1 q2
      split at hh
      · rename_i q3
        obtain ⟨q3, q4, q5, q6⟩ := q3
        subst q3
        cases hh
        obtain ⟨C, T, N, ty0, hc, hj, hwi, hlk, hty, hty2, hnm, hfi⟩ := hG.2.2.1 _ _ _ _ _ q1
        have hd1 := hty _ hj
        rw [hty2] at hd1
        rcases hfi with hfin | ⟨hfin, z1, z2⟩
        · exact va_put (D := D) (C := C) (T := T) (N := N) hx hb hts hwi ty0 hty hnm hown hK hw.2 (xw_D dA base xa h) (x_sS hlc) _ (xw_at dA base xa q2) hc _ hj (hts _ hlk) (fun _ z => z) hfin hd1 (x_nar base xa q6 q5) (x_fit base xa q6) (by simpa using q4) hd (fun H1 locs1 hP1 hD1 hS1 => x_room hs (fun hsz => k H1 locs1 (by simp) (x_aft hw hsz (by simp only [xc, List.map_set]; exact hP1) hS1) (x_X hX hbb hge hS1) hS1.2.2))
        · exact va_putF (D := D) (C := C) (T := T) (N := N) hx hb hts hwi ty0 hty hnm hown hK hw.2 (xw_D dA base xa h) (x_sS hlc) _ (xw_at dA base xa q2) hc _ hj (hts _ hlk) (fun _ z => z) hfin (hin z1) z2 hd1 (x_nar base xa q6 q5) (x_fit base xa q6) (by simpa using q4) hd (fun H1 locs1 hP1 hD1 hS1 => x_room hs (fun hsz => k H1 locs1 (by simp) (x_aft hw hsz (by simp only [xc, List.map_set]; exact hP1) hS1) (x_X hX hbb hge hS1) hS1.2.2))
      · cases hh
    · cases hh
  · split at hh
    · rename_i q1
      split at hh
      · rename_i q2
        cases hh
        obtain ⟨t0, ht⟩ := x_ty (dA := dA) q2
        exact va_alen hx hb hK hw.2 _ t0 (xw_at dA base xa q1) ht rfl hd (k H locs rfl hw hX hlc)
      · cases hh
    · cases hh
  · split at hh
    · rename_i q0
      subst q0
      cases hh
      exact va_slen hx hb hX.1 (A := fun q => base ≤ q) (H0 := H) (locs := locs) (by have := hbb; omega) (by show ¬ base ≤ xa 0; have := hbb; omega) (x_sS hlc) hd (k H locs rfl hw hX hlc)
    · split at hh
      · rename_i q0 q1
        cases hh
        obtain ⟨cell, h1, h2, h3, h4, h5, h6, h7⟩ := (hX.2.1 _ q1.2).2.2.2
        rw [show ∀ e : Nat, ¬ e = 0 → e % 2 = 0 → 2 * (e / 2 - 1) + 2 = e from fun e h0 he => by omega] at h1
        · simp only [List.map_cons, xv_ext base xa q1.1.2]
          exact W.alen hx hb h1 h2 h5 rfl rfl hd (k H locs rfl hw hX hlc)
        · exact q0
        · exact q1.1.1
      · cases hh
  · split at hh
    · rename_i q1
      split at hh
      · cases hh
      · rename_i q2
        cases hh
        exact va_iald hx hb hK hw.2 _ 0 (xw_at dA base xa q1) rfl (x_in q2) hd (k H locs rfl hw hX hlc)
    · cases hh
  · split at hh
    · cases hh
    · rename_i q2
      cases hh
      have q3 := Decidable.not_not.mp (fun z => q2 (Or.inl z))
      subst q3
      exact va_sld hx hb hX.1 (A := fun q => base ≤ q) (H0 := H) (locs := locs) (by have := hbb; omega) (by show ¬ base ≤ xa 0; have := hbb; omega) (x_sS hlc) (x_in (fun z => q2 (Or.inr z))) hd (k H locs rfl hw hX hlc)
  · split at hh
    · rename_i q1
      split at hh
      · cases hh
      · rename_i q2
        cases hh
        exact va_lald hx hb hK hw.2 _ 1 (xw_at dA base xa q1) rfl (x_in q2) hd (k H locs rfl hw hX hlc)
    · cases hh
  · split at hh
    · rename_i q1
      split at hh
      · cases hh
      · rename_i q2
        cases hh
        exact va_bald hx hb hK hw.2 _ 2 (xw_at dA base xa q1) rfl (x_in q2) hd (k H locs rfl hw hX hlc)
    · rename_i q1
      split at hh
      · cases hh
      · rename_i q2
        cases hh
        exact va_zald hx hb hK hw.2 _ 3 (xw_at dA base xa q1) rfl (x_in q2) hd (k H locs rfl hw hX hlc)
    · cases hh
  · split at hh
    · cases hh
    · rename_i q2
      cases hh
      rename_i j e r
      have n1 : ¬ e = 0 := fun z => q2 (Or.inl (Or.inl z))
      have n2 : ¬ e % 2 = 1 := fun z => q2 (Or.inl (Or.inr (Or.inl z)))
      have n6 : ¬ e = 1000 := fun z => q2 (Or.inl (Or.inr (Or.inr (Or.inl z))))
      have n3 : ¬ (xByt G).length ≤ e / 2 - 1 := fun z => q2 (Or.inl (Or.inr (Or.inr (Or.inr z))))
      have n4 : ¬ j < 0 := fun z => q2 (Or.inr (Or.inl z))
      have n5 : ¬ ((xByt G).getD (e / 2 - 1) []).length ≤ j.toNatClampNeg := fun z => q2 (Or.inr (Or.inr z))
      obtain ⟨cell, h1, h2, h3, h4, h5, h6, h7⟩ := (hX.2.1 (e / 2 - 1) (by omega)).2.2.2
      rw [show 2 * (e / 2 - 1) + 2 = e by omega] at h1
      simp only [List.map_cons, xv_ext base xa n6]
      exact W.bald hx hb h1 h2 h3 (by rintro (z | z); exact n4 z; omega) (h6 _ (by omega)) rfl rfl hd (k H locs rfl hw hX hlc)
  · split at hh
    · rename_i q1
      split at hh
      · cases hh
      · rename_i q2
        cases hh
        exact va_iast hx hb hK hw.2 (xw_D dA base xa h) (x_sS hlc) _ 0 (xw_at dA base xa q1) rfl (x_in q2) hd (fun H1 locs1 hP1 hD1 hS1 => x_room hs (fun hsz => k H1 locs1 (by simp) (x_aft hw hsz hP1 hS1) (x_X hX hbb hge hS1) hS1.2.2))
    · cases hh
  · split at hh
    · rename_i q1
      split at hh
      · cases hh
      · rename_i q2
        cases hh
        exact va_last hx hb hK hw.2 (xw_D dA base xa h) (x_sS hlc) _ 1 (xw_at dA base xa q1) rfl (x_in q2) hd (fun H1 locs1 hP1 hD1 hS1 => x_room hs (fun hsz => k H1 locs1 (by simp) (x_aft hw hsz hP1 hS1) (x_X hX hbb hge hS1) hS1.2.2))
    · cases hh
  · split at hh
    · rename_i q1
      split at hh
      · cases hh
      · rename_i q2
        cases hh
        exact va_bast hx hb hK hw.2 (xw_D dA base xa h) (x_sS hlc) _ 2 (xw_at dA base xa q1) rfl (x_in q2) hd (fun H1 locs1 hP1 hD1 hS1 => x_room hs (fun hsz => k H1 locs1 (by simp) (x_aft hw hsz hP1 hS1) (x_X hX hbb hge hS1) hS1.2.2))
    · rename_i q1
      split at hh
      · cases hh
      · rename_i q2
        cases hh
        exact va_zast hx hb hK hw.2 (xw_D dA base xa h) (x_sS hlc) _ 3 (xw_at dA base xa q1) rfl (x_in q2) hd (fun H1 locs1 hP1 hD1 hS1 => x_room hs (fun hsz => k H1 locs1 (by simp) (x_aft hw hsz hP1 hS1) (x_X hX hbb hge hS1) hS1.2.2))
    · cases hh
  · cases hh
end XH
end
section
/-- nest mates' links -/
abbrev xNs : Type := List (String × Nat × MethodName × String) × List (String × Nat × String × Nat)
def xN (Ns : xNs) (xa : Nat → Nat) (U : State) : Prop := (∀ q ∈ Ns.1, va_Nw (.methodLinkNest q.1 q.2.1 q.2.2.1 q.2.2.2) U) ∧ ∀ q ∈ Ns.2, vk_R q.1 q.2.1 q.2.2.1 (xa (2 * q.2.2.2 + 1)) U
theorem xN.warm {Ns : xNs} {xa : Nat → Nat} {s U : State} (hW : s.WarmedH U.vm) (h : xN Ns xa s) : xN Ns xa U := ⟨fun q hq => va_Nw.warmM hW (h.1 q hq), fun q hq => (h.2 q hq).warm hW⟩
/-- what the tables must say of a call -/
def xOKc (G : xG) (cl : List vw_C) (Ts : List Cond) (Ns : xNs) (own : String) (k kind N na ci : Nat) : Prop := match kind with
  | 6 => Cond.methodLink own k Lib.objectInit ∈ Ts ∧ Cond.instanceMethod Lib.objectInit ∈ Ts ∧ Cond.code Lib.objectInit ⟨#[0xb1]⟩ 1 none ∈ Ts
  | 7 => Cond.methodLink own k arraycopyName ∈ Ts ∧ Cond.native arraycopyName ∈ Ts ∧ Cond.static arraycopyName ∈ Ts ∧ Cond.initialized "java/lang/System" ∈ Ts
  | 8 => Cond.methodLink own k Lib.Math.max.name ∈ Ts ∧ Cond.static Lib.Math.max.name ∈ Ts ∧ Cond.initialized "java/lang/Math" ∈ Ts ∧ Cond.code Lib.Math.max.name Lib.Math.max.code 2 (some .int) ∈ Ts
  | 9 => Cond.methodLink own k Lib.Math.min.name ∈ Ts ∧ Cond.static Lib.Math.min.name ∈ Ts ∧ Cond.initialized "java/lang/Math" ∈ Ts ∧ Cond.code Lib.Math.min.name Lib.Math.min.code 2 (some .int) ∈ Ts
  | _ => (plainName (xMet G N).1.cls = true ∧ Cond.code (xMet G N).1 (xMet G N).2.1 (xMet G N).2.2.1 (xMet G N).2.2.2 ∈ Ts ∧ Cond.initialized (xMet G N).1.cls ∈ Ts ∧ ((xMet G N).1.cls ≠ "java/lang/invoke/MethodHandle" ∧ (xMet G N).1.cls ≠ "java/lang/invoke/VarHandle") ∧ (xMet G N).2.2.1 ≤ 40) ∧ match kind with
    | 0 => (parseMethodDescriptor (xMet G N).1.desc).map (fun d => d.parameters.length) = some (na - 1) ∧ 0 < na ∧ ((ci = 98 ∧ (xMet G N).1.cls = "java/lang/String") ∨ (¬ ci = 98 ∧ ∃ T NN, cl[ci]? = some ((xMet G N).1.cls, T, NN))) ∧ Cond.methodLink own k (xMet G N).1 ∈ Ts ∧ Cond.instanceMethod (xMet G N).1 ∈ Ts ∧ Cond.selects (xMet G N).1.cls (xMet G N).1 (xMet G N).1 ∈ Ts
    | 1 => (parseMethodDescriptor (xMet G N).1.desc).map (fun d => d.parameters.length) = some na ∧ Cond.methodLink own k (xMet G N).1 ∈ Ts ∧ Cond.static (xMet G N).1 ∈ Ts
    | 4 => (parseMethodDescriptor (xMet G N).1.desc).map (fun d => d.parameters.length) = some (na - 1) ∧ 0 < na ∧ Cond.methodLink own k (xMet G N).1 ∈ Ts ∧ (xMet G N).1.name = "<init>" ∧ Cond.instanceMethod (xMet G N).1 ∈ Ts ∧ (xMet G N).2.2.2 = none
    | 5 => (parseMethodDescriptor (xMet G N).1.desc).map (fun d => d.parameters.length) = some (na - 1) ∧ 0 < na ∧ (∃ host, (own, k, (xMet G N).1, host) ∈ Ns.1) ∧ (xMet G N).1.name = "<init>" ∧ Cond.instanceMethod (xMet G N).1 ∈ Ts ∧ (xMet G N).2.2.2 = none
    | _ => False
def xOKm (G : xG) (cl : List vw_C) (Ts : List Cond) (Ns : xNs) : Prop := (∀ M k i, xStr G M k = some i → ∃ tx, ((xMet G M).1.cls, k, tx, i) ∈ Ns.2) ∧ ∀ M k kind N na ci, xMth G M k = some (kind, N, na, ci) → xOKc G cl Ts Ns (xMet G M).1.cls k kind N na ci
section XC
variable {p : Program} {l : Launch} {e : Env} {R : Room} {s : State} {m : MethodId} {args : Array Value} {below : List Frame} {meth : Method} {c : Code} {H : Heap} {locs : List Loc} {cells slots : Nat} {Q : State → Prop}
variable {cc : ByteArray} {pc : Nat} {ls : Array Slot} {base : Nat} {xa : Nat → Nat} {D : va_G} {cl : List vw_C} {dA : FieldType → ClassId} {Ts : List Cond} {Ns : xNs} {G : xG} {sc : xS}
theorem x_fresh {h : xH} {q : Nat} {ce : va_E} {H1 : Heap} (hsz : H1.size ≤ base + (h.length + 1)) (hP1 : va_P D cl (xw dA base xa h ++ [(q, ce)]) H1) (hD1 : va_D (fun q => base ≤ q) (xw dA base xa h ++ [(q, ce)])) : q = base + h.length ∧ H1.size = base + (h.length + 1) := by
  have hq : (xw dA base xa h ++ [(q, ce)])[h.length]? = some (q, ce) := by
    rw [List.getElem?_append_right (by rw [xw_len]; exact Nat.le_refl _), xw_len, Nat.sub_self]; rfl
  have h1 : q < H1.size := (hP1 _ _ hq).lt
  have h2 : base ≤ q := hD1.2 _ _ hq
  have h3 : q = base + h.length := by
    rcases Nat.lt_or_ge q (base + h.length) with z | z
    · exfalso
      have hi : q - base < h.length := by omega
      have e1 : (xw dA base xa h ++ [(q, ce)])[q - base]? = some (base + (q - base), xc dA base xa h[q - base]) := by
        rw [List.getElem?_append_left (by rw [xw_len]; exact hi)]
        exact xw_at dA base xa (List.getElem?_eq_getElem hi)
      have := hD1.1 _ _ _ _ e1 hq (by show base + (q - base) = q; omega)
      omega
    · omega
  exact ⟨h3, by omega⟩
theorem x_arrEq {ty : FieldType} {cA : ClassId} (hp : xprim ty = true) (hK : va_K D cl (xtys dA) s) (hK2 : va_K D cl (xtys dA ++ [(cA, ty)]) s) : cA = dA ty := by
  have h1 := (hK2.2 4 (cA, ty) rfl).2
  obtain ⟨t0, ht⟩ := x_ty (dA := dA) hp
  have h2 := (hK.2 t0 _ ht).2
  cases ty <;> first | exact Option.some.inj (h1.symm.trans h2) | cases hp
theorem x_call {mc ms : Nat} {st0 rest : List Value} {Qa : State → Outcome → State → Prop} {free : Addr → Prop} (hr : va_Run p l e R s m args below meth c H locs cells slots mc ms (F0 m pc ls st0) rest Qa free) (hf : ∀ q, free q → base ≤ q) (hlc : ∀ q ∈ locs, base ≤ q.base)
    (kk : ∀ (v : Option Value) (st₀ t : State) (locs1 : List Loc), s.vm.Alike t.vm → Qa st₀ (.returned v) t → (∀ q ∈ locs1, base ≤ q.base) → W p l e R s m args below meth c t.heap locs1 (cells + mc) (slots + ms) Q (F0 m (pc + 3) ls (v.toList ++ rest))) : W p l e R s m args below meth c H locs cells slots Q (F0 m pc ls st0) := by
  intro T hT X
  obtain ⟨v, st₀, t, T', L, h0, X', hL, e1, e2, hq, st⟩ := hr T hT X
  obtain ⟨t2, a1, b1⟩ := kk v st₀ t (locs ++ L) (by rw [← e2]; exact X'.warmed.alike) hq (fun q hq => by
    rcases List.mem_append.mp hq with h | h
    · exact hlc q h
    · exact hf _ (hL q h)) T' e1 X'
  exact ⟨t2, st t2 a1, b1⟩
/-- what is known inside a method's body -/
def xAt (G : xG) (Ts : List Cond) (Ns : xNs) (D : va_G) (cl : List vw_C) (dA : FieldType → ClassId) (base : Nat) (xa : Nat → Nat) (M : Nat) (p : Program) (s : State) (m : MethodId) (args : Array Value) (meth : Method) (c : Code) : Prop :=
  p.tables.exec = Jvm.exec ∧ c.code = (xMet G M).2.1 ∧ c.maxLocals = (xMet G M).2.2.1 ∧ s.vm.findClass (xMet G M).1.cls = some m.cls ∧ (∀ w ∈ Ts, w.before args s = true) ∧ va_K D cl (xtys dA) s ∧ ((xMet G M).1.name = "<init>" → meth.name = "<init>") ∧ xa 0 < base ∧ xN Ns xa s
/-- the contract of a run of a method: what it starts from, what it leaves -/
def xPc (G : xG) (Ns : xNs) (D : va_G) (cl : List vw_C) (dA : FieldType → ClassId) (base : Nat) (xa : Nat → Nat) (sc : xS) (as : List Value) (h : xH) : Array Value → State → Prop := fun v U => v = (as.map (xv base xa)).toArray ∧ xW D cl dA base xa h U.heap ∧ xEx G sc base xa U U.heap ∧ va_K D cl (xtys dA) U ∧ xN Ns xa U
def xQc (G : xG) (D : va_G) (cl : List vw_C) (dA : FieldType → ClassId) (base : Nat) (xa : Nat → Nat) (sc : xS) (h : xH) (r : xR) : Array Value → State → Outcome → State → Prop := fun _ _ o t => o = .returned (r.1.map (xv base xa)) ∧ h.length + r.2.2.1 = r.2.1.length ∧ xW D cl dA base xa r.2.1 t.heap ∧ xEx G sc base xa t t.heap ∧ va_K D cl (xtys dA) t
theorem xPc_blind (as : List Value) (h : xH) : FrameBlind (xPc G Ns D cl dA base xa sc as h) := fun a U g mk q => by
  obtain ⟨q0, q1, q2, q3, q4⟩ := q
  exact ⟨q0, q1, xEx.moved (u := U) (U := U.calling g mk a) (Vm.Alike.refl U.vm) q2, va_K.moved (u := U) (U := U.calling g mk a) (Vm.Alike.refl U.vm) q3, ⟨fun q hq => va_Nw.same rfl rfl (q4.1 q hq), fun q hq => (q4.2 q hq).same rfl⟩⟩
/-- a body is sound at fuel n: any run that the evaluator makes is the machine's -/
def xSnd (G : xG) (Ts : List Cond) (Ns : xNs) (D : va_G) (cl : List vw_C) (dA : FieldType → ClassId) (base : Nat) (xa : Nat → Nat) (sc : xS) (l : Launch) (n : Nat) : Prop :=
  ∀ (d M pc : Nat) (L : xL) (st : List Value) (h : xH) (r : xR), xev G sc n d M pc L st h = some r →
  ∀ (p : Program) (e : Env) (s : State) (m : MethodId) (args : Array Value) (below : List Frame) (meth : Method) (c : Code) (R : Room) (H : Heap) (locs : List Loc) (cells slots : Nat) (Q : State → Prop) (ls : Array Slot),
    xAt G Ts Ns D cl dA base xa M p s m args meth c → s.heap.size + cells = base + h.length → xW D cl dA base xa h H → xEx G sc base xa s H → (∀ q ∈ locs, base ≤ q.base) → lv_has ls (xMet G M).2.2.1 (L.map (xq base xa)) →
    cells + r.2.2.1 ≤ R.cells → slots + r.2.2.2 ≤ R.slots → d ≤ R.frames → 64 * d ≤ R.locals →
    (∀ (pc' : Nat) (ls' : Array Slot) (i : Instr) (H' : Heap) (locs' : List Loc), decode (xMet G M).2.1 pc' = .ok (i, 1) → xret i (xMet G M).2.2.2 r.1 = true → s.heap.size + (cells + r.2.2.1) = base + r.2.1.length → xW D cl dA base xa r.2.1 H' → xEx G sc base xa s H' → (∀ q ∈ locs', base ≤ q.base) → W p l e R s m args below meth c H' locs' (cells + r.2.2.1) (slots + r.2.2.2) Q (F0 m pc' ls' (r.1.map (xv base xa)).toList)) →
    W p l e R s m args below meth c H locs cells slots Q (F0 m pc ls (st.map (xv base xa)))
set_option maxHeartbeats 4000000 in
theorem x_met {n : Nat} (ih : xSnd G Ts Ns D cl dA base xa sc l n) (hbb : xa 0 < base) {d N : Nat} {as : List Value} {h : xH} {r : xR} (hr : xev G sc n d N 0 (lv_args 0 as) [] h = some r) (hl : (lg_sl as).length ≤ (xMet G N).2.2.1) (hy : plainName (xMet G N).1.cls = true) :
    Met l (xMet G N).1 (Cond.code (xMet G N).1 (xMet G N).2.1 (xMet G N).2.2.1 (xMet G N).2.2.2 :: Ts) { frames := d, cells := r.2.2.1, slots := r.2.2.2, locals := 64 * d } (xPc G Ns D cl dA base xa sc as h) (xQc G D cl dA base xa sc h r) r.2.2.1 r.2.2.2 (fun q => base ≤ q) := by
  refine Met.ofW (cc := (xMet G N).2.1) (maxL := (xMet G N).2.2.1) (ret := (xMet G N).2.2.2) hy rfl ?_
  intro p e s m args below meth c s₁ B hml hv
  obtain ⟨rfl, hw, hX, hK, hN⟩ := hv
  have hx := B.exec
  have hb := B.bytes
  have hr1 := B.returns
  have hts := atoms_spec B.pre
  have hown := findClass_of_methodNamed B.named
  have hlocks := B.notSynchronized
  have hname := (name_of_methodNamed B.named B.method).1
  have hle := lv_entry (as.map (xv base xa)) (n := (xMet G N).2.2.1) (by rw [x_sl]; exact hl)
  rw [lg_entry_eq]
  rw [x_args] at hle
  refine ih d N 0 (lv_args 0 as) [] h r hr p e s m _ below meth c _ s.heap [] 0 0 _ _ ⟨hx, hb, hml, hown, fun w hw => hts w (List.mem_cons_of_mem _ hw), hK, fun z => by rw [hname]; exact z, hbb, hN⟩ hw.1 hw hX (fun q hq => by cases hq) hle (by simp [headSpec]) (by simp [headSpec]) (Nat.le_refl _) (Nat.le_refl _) ?_
  intro pc' ls' i H' locs' hd hv hsz hw' hX' hlc
  obtain ⟨v, h', a1, a2⟩ := r
  have hsz2 : h.length + a1 = h'.length := by have := hw.1; simp only [Nat.zero_add] at hsz; omega
  simp only [Nat.zero_add]
  unfold xret at hv
  split at hv
  · rename_i q1 q2
    have q2 : v = none := q2
    subst q2
    refine W.vret hx hb (hr1.trans q1) (fun t ht hW => ⟨rfl, hsz2, by rw [ht]; exact hw', by rw [ht]; exact xEx.moved hW.alike hX', va_K.moved hW.alike hK⟩) hlc hd
  · rename_i ty x q1 q2
    have q2 : v = some (.int x) := q2
    subst q2
    exact W.zret hx hb (hr1.trans q1) (of_decide_eq_true hv) (fun t ht hW => ⟨rfl, hsz2, by rw [ht]; exact hw', by rw [ht]; exact xEx.moved hW.alike hX', va_K.moved hW.alike hK⟩) hlc hd
  · rename_i x q1 q2
    have q2 : v = some (.long x) := q2
    subst q2
    exact W.lret hx hb (hr1.trans q1) (fun t ht hW => ⟨rfl, hsz2, by rw [ht]; exact hw', by rw [ht]; exact xEx.moved hW.alike hX', va_K.moved hW.alike hK⟩) hlc hd
  · rename_i C e q1 q2
    have q2 : v = some (.retAddr e) := q2
    subst q2
    have q9 : ¬ e = 1000 := of_decide_eq_true hv
    show W _ _ _ _ _ _ _ _ _ _ _ _ _ _ _ (F0 m pc' ls' [xv base xa (.retAddr e)])
    rw [xv_ext base xa q9]
    exact W.aret hx hb (hr1.trans q1) (Or.inl ⟨C, rfl⟩) (Or.inr ⟨_, rfl⟩) (fun t ht hW => ⟨by show Outcome.returned _ = Outcome.returned (some (xv base xa (.retAddr e))); rw [xv_ext base xa q9], hsz2, by rw [ht]; exact hw', by rw [ht]; exact xEx.moved hW.alike hX', va_K.moved hW.alike hK⟩) hlc hd
  · cases hv
end XC
end
section
theorem xs1_len {i : Instr} {st st' : List Value} (h : xs1 i st = some st') : xsw i = false ∧ xlen i = 1 := by
  unfold xs1 at h
  split at h <;> first | exact ⟨rfl, rfl⟩ | cases h
theorem xs1d_len {i : Instr} {st st' : List Value} (h : xs1d i st = some st') : xsw i = false ∧ xlen i = 1 := by
  unfold xs1d at h
  split at h <;> first | exact ⟨rfl, rfl⟩ | cases h
theorem xs2_len {con : Nat → Option Value} {str : Nat → Option Nat} {nL : Nat} {i : Instr} {L : xL} {st : List Value} {r : xL × List Value} (h : xs2 con str nL i L st = some r) : xsw i = false := by
  unfold xs2 at h
  split at h <;> first | rfl | cases h
theorem xs4_len {fld : Nat → Option (Nat × Nat)} {put : Nat → Option (Nat × Nat × FieldType)} {exf : Nat → Option Nat} {sta : Nat → Option Value} {byt : List (List Int32)} {sc : xS} {i : Instr} {st : List Value} {h0 : xH} {r : List Value × xH} (h : xs4 fld put exf sta byt sc i st h0 = some r) : xsw i = false := by
  unfold xs4 at h
  split at h <;> first | rfl | cases h
theorem xret_len {i : Instr} {ty : Option FieldType} {v : Option Value} (h : xret i ty v = true) : xsw i = false ∧ xlen i = 1 := by
  unfold xret at h
  split at h <;> first | exact ⟨rfl, rfl⟩ | cases h
theorem xlink_len {mth : Nat → Option (Nat × Nat × Nat × Nat)} {i : Instr} {r : Nat × Nat × Nat × Nat} (h : xlink mth i = some r) : xsw i = false ∧ xlen i = 3 := by
  unfold xlink at h
  split at h <;> first | exact ⟨rfl, rfl⟩ | cases h
theorem x_n {i : Instr} {n k : Nat} (h : xsw i = true ∨ n = xlen i) (h1 : xsw i = false) (h2 : xlen i = k) : n = k := by
  rcases h with z | z
  · rw [h1] at z; cases z
  · exact z.trans h2
theorem xadd_some {k n : Nat} {o : Option xR} {r : xR} (h : xadd k n o = some r) : ∃ v h' a b, o = some (v, h', a, b) ∧ r = (v, h', k + a, n + b) := by
  unfold xadd at h
  split at h
  · cases h; exact ⟨_, _, _, _, rfl, rfl⟩
  · cases h
theorem xlink_in {mth : Nat → Option (Nat × Nat × Nat × Nat)} {i : Instr} {kind N k ci : Nat} (h : xlink mth i = some (kind, N, k, ci)) : (∃ idx, i = .invokevirtual idx ∧ kind = 0 ∧ mth idx = some (kind, N, k, ci)) ∨ (∃ idx, i = .invokestatic idx ∧ (kind = 1 ∨ kind = 7 ∨ kind = 8 ∨ kind = 9) ∧ mth idx = some (kind, N, k, ci)) ∨ (∃ idx, i = .invokespecial idx ∧ (kind = 4 ∨ kind = 5 ∨ kind = 6) ∧ mth idx = some (kind, N, k, ci)) := by
  unfold xlink at h
  split at h
  · split at h
    · rename_i q; cases h; exact Or.inl ⟨_, rfl, rfl, q⟩
    · cases h
  · split at h
    · rename_i q; cases h; exact Or.inr (Or.inl ⟨_, rfl, Or.inl rfl, q⟩)
    · rename_i q; cases h; exact Or.inr (Or.inl ⟨_, rfl, Or.inr (Or.inl rfl), q⟩)
    · rename_i q; cases h; exact Or.inr (Or.inl ⟨_, rfl, Or.inr (Or.inr (Or.inl rfl)), q⟩)
    · rename_i q; cases h; exact Or.inr (Or.inl ⟨_, rfl, Or.inr (Or.inr (Or.inr rfl)), q⟩)
    · cases h
  · split at h
    · rename_i q; cases h; exact Or.inr (Or.inr ⟨_, rfl, Or.inl rfl, q⟩)
    · rename_i q; cases h; exact Or.inr (Or.inr ⟨_, rfl, Or.inr (Or.inl rfl), q⟩)
    · rename_i q; cases h; exact Or.inr (Or.inr ⟨_, rfl, Or.inr (Or.inr rfl), q⟩)
    · cases h
  · cases h
theorem xhead_0 {nb ci : Nat} {as : List Value} {h : xH} (q : xhead nb 0 ci as h = true) : (∃ a r fs, as = .ref a :: r ∧ h[a]? = some (.inr (ci, fs)) ∧ ¬ ci = 98) ∨ ∃ e r, as = .retAddr e :: r ∧ ci = 98 ∧ e % 2 = 1 ∧ e / 2 < nb := by
  cases as with
  | nil => cases q
  | cons v r =>
    cases v with
    | ref a =>
      have q : (match h[a]? with | some (.inr (cj, _)) => ci == cj && !(ci == 98) | _ => false) = true := q
      split at q
      · rename_i cj fs q2
        simp only [Bool.and_eq_true, beq_iff_eq, Bool.not_eq_true', beq_eq_false_iff_ne, ne_eq] at q
        obtain ⟨rfl, q3⟩ := q
        exact Or.inl ⟨a, r, fs, rfl, q2, q3⟩
      · cases q
    | retAddr e =>
      have q : (ci == 98 && e % 2 == 1 && decide (e / 2 < nb)) = true := q
      simp only [Bool.and_eq_true, beq_iff_eq, decide_eq_true_eq] at q
      exact Or.inr ⟨e, r, rfl, q.1.1, q.1.2, q.2⟩
    | _ => cases q
theorem xhead_4 {nb kind ci : Nat} {as : List Value} {h : xH} (hk : kind = 4 ∨ kind = 5) (q : xhead nb kind ci as h = true) : ∃ a r, as = .ref a :: r := by
  cases as with
  | nil => rcases hk with rfl | rfl <;> cases q
  | cons v r =>
    cases v with
    | ref a => exact ⟨a, r, rfl⟩
    | _ => rcases hk with rfl | rfl <;> cases q
section XSD
variable {p : Program} {l : Launch} {e : Env} {R : Room} {s : State} {m : MethodId} {args : Array Value} {below : List Frame} {meth : Method} {c : Code} {H : Heap} {locs : List Loc} {cells slots : Nat} {Q : State → Prop}
variable {cc : ByteArray} {pc : Nat} {ls : Array Slot} {base : Nat} {xa : Nat → Nat} {D : va_G} {cl : List vw_C} {dA : FieldType → ClassId} {Ts : List Cond} {Ns : xNs} {G : xG} {sc : xS}
set_option maxHeartbeats 4000000 in
theorem xcopy_ok (hx : p.tables.exec = Jvm.exec) (hb : c.code = cc) (hml : c.maxLocals = ls.size) {own : String} {idx : Nat} (hown : s.vm.findClass own = some m.cls) (hlink : (Cond.methodLink own idx arraycopyName).before args s = true) (hnat : (Cond.native arraycopyName).before args s = true) (hstat : (Cond.static arraycopyName).before args s = true) (hini : (Cond.initialized "java/lang/System").before args s = true) (hK : va_K D cl (xtys dA) s) (hbb : xa 0 < base)
    {st st' : List Value} {h h' : xH} (hd : decode cc pc = .ok (.invokestatic idx, 3)) (hX : xEx G sc base xa s H) (hs : s.heap.size + cells = base + h.length) (hw : xW D cl dA base xa h H) (hlc : ∀ q ∈ locs, base ≤ q.base) (hfr : 1 ≤ R.frames) (hlo : 26 ≤ R.locals) (hh : xcopy st h = some (st', h'))
    (k : ∀ (H' : Heap) (locs' : List Loc), h'.length = h.length → xW D cl dA base xa h' H' → xEx G sc base xa s H' → (∀ q ∈ locs', base ≤ q.base) → W p l e R s m args below meth c H' locs' cells slots Q (F0 m (pc + 3) ls (st'.map (xv base xa)))) : W p l e R s m args below meth c H locs cells slots Q (F0 m pc ls (st.map (xv base xa))) := by
  have hge : base ≤ H.size := by have := hw.1; omega
  unfold xcopy at hh
  split at hh
  · split at hh
    · cases hh
    · rename_i n dp a1 sp a0 r q0
      have n1 : ¬ n < 0 := fun z => q0 (Or.inl z)
      have n2 : ¬ dp < 0 := fun z => q0 (Or.inr (Or.inl z))
      have n3 : ¬ sp < 0 := fun z => q0 (Or.inr (Or.inr (Or.inl z)))
      have n4 : (r.map (fun v => v.category)).sum ≤ 8 := by
        rcases Nat.lt_or_ge 8 (r.map (fun v => v.category)).sum with z | z
        · exact absurd (Or.inr (Or.inr (Or.inr z))) q0
        · exact z
      have n5 : ((r.map (xv base xa)).map (fun v => v.category)).sum + (nativeFrameWords "java/lang/System" "arraycopy" 5 + 11) ≤ R.locals := by
        have e1 : (r.map (xv base xa)).map (fun v => v.category) = r.map (fun v => v.category) := by
          rw [List.map_map]; apply List.map_congr_left; intro v _; exact xv_cat base xa v
        rw [e1]
        have e2 : nativeFrameWords "java/lang/System" "arraycopy" 5 = 7 := by decide +kernel
        rw [e2]
        omega
      split at hh
      · rename_i m0 f m1 g q1 q2
        split at hh
        · rename_i q3
          cases hh
          exact va_copyi hx hb hml hown hlink hnat hstat hini hK hw.2 (xw_D dA base xa h) (x_sS hlc) _ _ 0 0 (xw_at dA base xa q1) (xw_at dA base xa q2) rfl rfl rfl n3 n2 n1 q3.1 q3.2 (fun i _ => rfl) hfr n5 hd (fun H1 locs1 hP1 hD1 hS1 => x_room hs (fun hsz => k H1 locs1 (by simp) (x_aft hw hsz hP1 hS1) (x_X hX hbb hge hS1) hS1.2.2))
        · cases hh
      · rename_i m0 f m1 g q1 q2
        split at hh
        · rename_i q3
          cases hh
          exact va_copyl hx hb hml hown hlink hnat hstat hini hK hw.2 (xw_D dA base xa h) (x_sS hlc) _ _ 1 1 (xw_at dA base xa q1) (xw_at dA base xa q2) rfl rfl rfl n3 n2 n1 q3.1 q3.2 (fun i _ => rfl) hfr n5 hd (fun H1 locs1 hP1 hD1 hS1 => x_room hs (fun hsz => k H1 locs1 (by simp) (x_aft hw hsz hP1 hS1) (x_X hX hbb hge hS1) hS1.2.2))
        · cases hh
      · rename_i m0 f m1 g q1 q2
        split at hh
        · rename_i q3
          cases hh
          exact va_copyi hx hb hml hown hlink hnat hstat hini hK hw.2 (xw_D dA base xa h) (x_sS hlc) _ _ 2 2 (xw_at dA base xa q1) (xw_at dA base xa q2) rfl rfl rfl n3 n2 n1 q3.1.1 q3.1.2 (fun i hi => List.all_eq_true.mp q3.2 i (List.mem_range.mpr hi)) hfr n5 hd (fun H1 locs1 hP1 hD1 hS1 => x_room hs (fun hsz => k H1 locs1 (by simp) (x_aft hw hsz hP1 hS1) (x_X hX hbb hge hS1) hS1.2.2))
        · cases hh
      · cases hh
  · cases hh
theorem x_rest (r : List Value) (h : ¬ 8 < (r.map (fun v => v.category)).sum) : ((r.map (xv base xa)).map (fun v => v.category)).sum ≤ 8 := by
  have e1 : (r.map (xv base xa)).map (fun v => v.category) = r.map (fun v => v.category) := by
    rw [List.map_map]; apply List.map_congr_left; intro v _; exact xv_cat base xa v
  rw [e1]
  omega
set_option maxHeartbeats 4000000 in
/-- a call, whatever its kind: the callee's run is known -/
theorem xcall_ok (hG : xOK G cl Ts) (hM : xOKm G cl Ts Ns) {n : Nat} (ih : xSnd G Ts Ns D cl dA base xa sc l n) {M : Nat} (hA : xAt G Ts Ns D cl dA base xa M p s m args meth c) {i : Instr} {kind N k ci d : Nat} {st : List Value} {h : xH} {r1 : xR} (hd : decode (xMet G M).2.1 pc = .ok (i, 3)) (hlk : xlink (xMth G M) i = some (kind, N, k, ci))
    (h1 : ¬ st.length < k) (h2 : ¬ 8 < ((st.drop k).map (fun v => v.category)).sum) (h3 : ¬ (xMet G N).2.2.1 < (lg_sl (st.take k).reverse).length) (h4 : xhead (xByt G).length kind ci (st.take k).reverse h = true) (hr1 : xev G sc n d N 0 (lv_args 0 (st.take k).reverse) [] h = some r1)
    (hX : xEx G sc base xa s H) (hw : xW D cl dA base xa h H) (hlc : ∀ q ∈ locs, base ≤ q.base) (hl : ls.size = (xMet G M).2.2.1) (hfr : d + 1 ≤ R.frames) (hlo : 64 * (d + 1) ≤ R.locals) (hc : cells + r1.2.2.1 ≤ R.cells) (hsl : slots + r1.2.2.2 ≤ R.slots)
    (kk : ∀ (H' : Heap) (locs' : List Loc), h.length + r1.2.2.1 = r1.2.1.length → xW D cl dA base xa r1.2.1 H' → xEx G sc base xa s H' → (∀ q ∈ locs', base ≤ q.base) → W p l e R s m args below meth c H' locs' (cells + r1.2.2.1) (slots + r1.2.2.2) Q (F0 m (pc + 3) ls ((r1.1.toList ++ st.drop k).map (xv base xa)))) : W p l e R s m args below meth c H locs cells slots Q (F0 m pc ls (st.map (xv base xa))) := by
  obtain ⟨hx, hb, hml, hown, hts, hK, hin, hbb, hN⟩ := hA
  have good : ∀ w ∈ Ts, goodWord w = true := hG.2.2.2.2.2.2.2.1
  have h3' : (lg_sl (st.take k).reverse).length ≤ (xMet G N).2.2.1 := Nat.not_lt.mp h3
  have hrest := x_rest (base := base) (xa := xa) (st.drop k) h2
  have hroom := lv_room (m := m) (pc := pc) (ls := ls) (rest := st.map (xv base xa)) hrest
  have hsplit : st.map (xv base xa) = ((st.take k).reverse.map (xv base xa)).reverse ++ (st.drop k).map (xv base xa) := by
    rw [List.map_reverse, List.reverse_reverse, ← List.map_append, List.take_append_drop]
  have hlenas : (st.take k).reverse.length = k := by rw [List.length_reverse, List.length_take]; omega
  have fin : ∀ {a : Array Value}, va_Run p l e R s m args below meth c H locs cells slots r1.2.2.1 r1.2.2.2 (F0 m pc ls (st.map (xv base xa))) ((st.drop k).map (xv base xa)) (xQc G D cl dA base xa sc h r1 a) (fun q => base ≤ q) → W p l e R s m args below meth c H locs cells slots Q (F0 m pc ls (st.map (xv base xa))) := by
    intro a hrun
    refine x_call hrun (fun q z => z) hlc ?_
    intro v st₀ t locs1 hvm hq hlc1
    obtain ⟨e1, e2, e3, e4, e5⟩ := hq
    cases e1
    have := kk t.heap locs1 e2 e3 (xEx.moved hvm.symm e4) hlc1
    rw [List.map_append] at this
    cases hv : r1.1 with
    | none => rw [hv] at this; exact this
    | some z => rw [hv] at this; exact this
  have hgi : ∀ {y : MethodName} {bs : ByteArray} {mL : Nat} {rt : Option FieldType}, Cond.code y bs mL rt ∈ Ts → GoodIn Ts (Cond.code y bs mL rt :: Ts) := fun c2 w hw => by
    rcases List.mem_cons.mp hw with z | z
    · rw [z]; exact ⟨c2, good_of_word (good _ c2)⟩
    · exact ⟨z, good_of_word (good _ z)⟩
  rcases xlink_in hlk with ⟨idx, rfl, rfl, q1⟩ | ⟨idx, rfl, hk, q1⟩ | ⟨idx, rfl, hk, q1⟩
  · obtain ⟨⟨c1, c2, c3, c4, c5⟩, c6, c7, c8, c9, c10, c11⟩ := hM.2 _ _ _ _ _ _ q1
    have hmet := x_met ih hbb (d := d) hr1 h3' c1
    have hcw : CallW R s args (xMet G M).1.cls (xMet G N).1.cls idx (xMet G N).1 (xMet G N).2.1 (xMet G N).2.2.1 (xMet G N).2.2.2 (Cond.code (xMet G N).1 (xMet G N).2.1 (xMet G N).2.2.1 (xMet G N).2.2.2 :: Ts) { frames := d, cells := r1.2.2.1, slots := r1.2.2.2, locals := 64 * d } r1.2.2.1 r1.2.2.2 (k - 1) :=
      ⟨callB_of (k - 1) hts (hgi c2) rfl rfl rfl (hts _ c3) (hts _ c9) ⟨c4.1, c4.2, c6⟩ ⟨hfr, by show 8 + ((xMet G N).2.2.1 + 11) + 64 * d ≤ R.locals; omega⟩, hts _ c10, hts _ c11⟩
    rcases xhead_0 h4 with ⟨a, rest', fs, qz, q2, q3⟩ | ⟨e, rest', qz, q3, q4, q5⟩
    · obtain ⟨T, NN, c8⟩ : ∃ T NN, cl[ci]? = some ((xMet G N).1.cls, T, NN) := by
        rcases c8 with z | z
        · exact absurd z.1 q3
        · exact z.2
      have hw' := xw_at dA base xa q2
      rw [qz] at hmet hsplit hlenas
      exact fin (va_runV (As := rest'.map (xv base xa)) (b := base + a) (nL := (xMet G M).2.2.1) (Ts := Ts) ⟨hx, hb, hml, hown, hts⟩ hmet hcw ⟨xPc_blind _ _, va_recv hK hw.2 (q0 := a) c8 hw', fun U hU hW => ⟨rfl, by rw [hU]; exact hw, by rw [hU]; exact xEx.moved hW.alike hX, va_K.moved hW.alike hK, hN.warm hW⟩⟩ rfl (by rw [List.length_map]; simp only [List.length_cons] at hlenas; omega) hl (by rw [hsplit]; simp [xv]) hroom hd ⟨hc, hsl⟩)
    · have c8 : (xMet G N).1.cls = "java/lang/String" := by
        rcases c8 with z | z
        · exact z.2
        · exact absurd q3 z.1
      have hrc : ∃ cell : Cell, H[xa e]? = some cell ∧ cell.vm.isStatics = false ∧ s.vm.findClass (xMet G N).1.cls = some cell.cls := by
        obtain ⟨cell, h1, h2, h3, -⟩ := (hX.2.1 _ q5).1
        rw [show 2 * (e / 2) + 1 = e by omega] at h1
        exact ⟨cell, h1, h2, by rw [c8]; exact h3⟩
      rw [qz] at hmet hsplit hlenas
      exact fin (va_runV (As := rest'.map (xv base xa)) (b := xa e) (nL := (xMet G M).2.2.1) (Ts := Ts) ⟨hx, hb, hml, hown, hts⟩ hmet hcw ⟨xPc_blind _ _, hrc, fun U hU hW => ⟨by simp [xv_ext base xa (show ¬ e = 1000 by omega)], by rw [hU]; exact hw, by rw [hU]; exact xEx.moved hW.alike hX, va_K.moved hW.alike hK, hN.warm hW⟩⟩ rfl (by rw [List.length_map]; simp only [List.length_cons] at hlenas; omega) hl (by rw [hsplit]; simp [xv_ext base xa (show ¬ e = 1000 by omega)]) hroom hd ⟨hc, hsl⟩)
  · rcases hk with rfl | rfl | rfl | rfl
    · obtain ⟨⟨c1, c2, c3, c4, c5⟩, c6, c7, c8⟩ := hM.2 _ _ _ _ _ _ q1
      have hmet := x_met ih hbb (d := d) hr1 h3' c1
      exact fin (va_runS (As := (st.take k).reverse.map (xv base xa)) (nL := (xMet G M).2.2.1) (Ts := Ts) (n := k) ⟨hx, hb, hml, hown, hts⟩ hmet ⟨callB_of k hts (hgi c2) rfl rfl rfl (hts _ c3) (hts _ c7) ⟨c4.1, c4.2, c6⟩ ⟨hfr, by show 8 + ((xMet G N).2.2.1 + 11) + 64 * d ≤ R.locals; omega⟩, hts _ c8⟩ ⟨xPc_blind _ _, fun U hU hW => ⟨rfl, by rw [hU]; exact hw, by rw [hU]; exact xEx.moved hW.alike hX, va_K.moved hW.alike hK, hN.warm hW⟩⟩ rfl (by rw [List.length_map]; exact hlenas) hl hsplit hroom hd ⟨hc, hsl⟩)
    · cases h4
    · cases h4
    · cases h4
  · rcases hk with rfl | rfl | rfl
    · obtain ⟨⟨c1, c2, c3, c4, c5⟩, c6, c7, c8, c9, c10, c11⟩ := hM.2 _ _ _ _ _ _ q1
      have hmet := x_met ih hbb (d := d) hr1 h3' c1
      obtain ⟨a, rest', qz⟩ := xhead_4 (Or.inl rfl) h4
      rw [qz] at hmet hsplit hlenas
      rw [c11] at hmet c2
      exact fin (va_runI (As := rest'.map (xv base xa)) (b := base + a) (nL := (xMet G M).2.2.1) (Ts := Ts) (n := k - 1) ⟨hx, hb, hml, hown, hts⟩ hmet ⟨callB_of (k - 1) hts (hgi c2) rfl rfl rfl (hts _ c3) (hts _ c8) ⟨c4.1, c4.2, c6⟩ ⟨hfr, by show 8 + ((xMet G N).2.2.1 + 11) + 64 * d ≤ R.locals; omega⟩, c9, hts _ c10⟩ ⟨xPc_blind _ _, fun U hU hW => ⟨rfl, by rw [hU]; exact hw, by rw [hU]; exact xEx.moved hW.alike hX, va_K.moved hW.alike hK, hN.warm hW⟩⟩ rfl (by rw [List.length_map]; simp only [List.length_cons] at hlenas; omega) hl (by rw [hsplit]; simp [xv]) hroom hd ⟨hc, hsl⟩)
    · obtain ⟨⟨c1, c2, c3, c4, c5⟩, c6, c7, ⟨host, c8⟩, c9, c10, c11⟩ := hM.2 _ _ _ _ _ _ q1
      have hmet := x_met ih hbb (d := d) hr1 h3' c1
      obtain ⟨a, rest', qz⟩ := xhead_4 (Or.inr rfl) h4
      rw [qz] at hmet hsplit hlenas
      rw [c11] at hmet c2
      exact fin (va_runIN (As := rest'.map (xv base xa)) (b := base + a) (nL := (xMet G M).2.2.1) (Ts := Ts) (n := k - 1) ⟨hx, hb, hml, hown, hts⟩ hmet ⟨va_cnB (k - 1) hts (hgi c2) rfl rfl rfl (hN.1 _ c8) (hts _ c3) ⟨c4.1, c4.2, c6⟩ ⟨hfr, by show 8 + ((xMet G N).2.2.1 + 11) + 64 * d ≤ R.locals; omega⟩, c9, hts _ c10⟩ ⟨xPc_blind _ _, fun U hU hW => ⟨rfl, by rw [hU]; exact hw, by rw [hU]; exact xEx.moved hW.alike hX, va_K.moved hW.alike hK, hN.warm hW⟩⟩ rfl (by rw [List.length_map]; simp only [List.length_cons] at hlenas; omega) hl (by rw [hsplit]; simp [xv]) hroom hd ⟨hc, hsl⟩)
    · cases h4
end XSD
end
section
section XMN
variable {l : Launch} {base : Nat} {xa : Nat → Nat} {D : va_G} {cl : List vw_C} {dA : FieldType → ClassId} {Ts : List Cond} {Ns : xNs} {G : xG} {sc : xS}
set_option maxHeartbeats 8000000 in
/-- THE EVALUATOR IS SOUND -/
theorem x_sound (hG : xOK G cl Ts) (hM : xOKm G cl Ts Ns) : ∀ n, xSnd G Ts Ns D cl dA base xa sc l n := by
  intro n
  induction n with
  | zero =>
    intro d M pc L st h r hr
    cases hr
  | succ n ih =>
    intro d M pc L st h r hr p e s m args below meth c R H locs cells slots Q ls hA hs hw hX hlc hl hcR hsR hdR hlR hret
    obtain ⟨hx, hb, hml, hown, hts, hK, hin, hbb, hN⟩ := id hA
    rw [xev] at hr
    split at hr
    · cases hr
    · rename_i i hi
      obtain ⟨nn, hdec, hlen⟩ := hG.1 M pc i hi
      split at hr
      · split at hr
        · rename_i st' q
          obtain ⟨z1, z2⟩ := xs1_len q
          obtain rfl := x_n hlen z1 z2
          exact xs1_ok hx hb hdec q (ih d M _ L st' h r hr p e s m args below meth c R H locs cells slots Q ls hA hs hw hX hlc hl hcR hsR hdR hlR hret)
        · cases hr
      · split at hr
        · rename_i st' q
          obtain ⟨z1, z2⟩ := xs1d_len q
          obtain rfl := x_n hlen z1 z2
          exact xs1d_ok hx hb hdec q (ih d M _ L st' h r hr p e s m args below meth c R H locs cells slots Q ls hA hs hw hX hlc hl hcR hsR hdR hlR hret)
        · cases hr
      · split at hr
        · rename_i L' st' q
          have z1 := xs2_len q
          obtain rfl := x_n hlen z1 rfl
          exact xs2_ok hx hb hown (fun k v z => hts _ (hG.2.2.2.2.1 _ _ _ z)) (fun k v z => hts _ (hG.2.2.2.2.2.1 _ _ _ z)) (fun k i z => by obtain ⟨tx, hz⟩ := hM.1 _ _ _ z; exact ⟨tx, hN.2 _ hz⟩) hdec hl q (fun ls' hl' => ih d M _ L' st' h r hr p e s m args below meth c R H locs cells slots Q ls' hA hs hw hX hlc hl' hcR hsR hdR hlR hret)
        · cases hr
      · split at hr
        · rename_i pc' st' q
          exact xs3_ok hx hb hdec hlen q (ih d M pc' L st' h r hr p e s m args below meth c R H locs cells slots Q ls hA hs hw hX hlc hl hcR hsR hdR hlR hret)
        · cases hr
      · split at hr
        · rename_i st' h' q
          have z1 := xs4_len q
          obtain rfl := x_n hlen z1 rfl
          exact xs4_ok hG hx hb hown hts hK hin hbb hdec hX hs hw hlc q (fun H' locs' e1 hw' hX' hlc' => ih d M _ L st' h' r hr p e s m args below meth c R H' locs' cells slots Q ls hA (by rw [e1]; exact hs) hw' hX' hlc' hl hcR hsR hdR hlR hret)
        · cases hr
      · split at hr
        · split at hr
          · rename_i q
            obtain ⟨z1, z2⟩ := xret_len q
            obtain rfl := x_n hlen z1 z2
            cases hr
            exact hret pc ls i H locs hdec q hs hw hX hlc
          · cases hr
        · split at hr
          · rename_i q
            obtain ⟨z1, z2⟩ := xret_len q
            obtain rfl := x_n hlen z1 z2
            cases hr
            exact hret pc ls i H locs hdec q hs hw hX hlc
          · cases hr
        · cases hr
      · split at hr
        · rename_i k
          split at hr
          · rename_i ci q
            obtain rfl : nn = 3 := x_n hlen rfl rfl
            obtain ⟨v, h', a1, a2, e1, rfl⟩ := xadd_some hr
            obtain ⟨C, T, N, ty, hc, hwi, hty, hcl, hins, hini, hln, hmp, hdf⟩ := hG.2.2.2.1 _ _ _ q
            have k1 : cells + (1 + a1) ≤ R.cells := hcR
            have k2 : slots + ((xDfl G ci).length + a2) ≤ R.slots := hsR
            refine va_new (ci := ci) (fs := xDfl G ci) (C := C) (T := T) (N := N) hx hb hts hwi ty hty hown (hts _ hcl) (hts _ hins) (hts _ hini) hK hw.2 (xw_D dA base xa h) (x_sS hlc) (fun q z => by have := hw.1; show base ≤ q; omega) hc hdf (by omega) (by omega) hdec ?_
            intro q H1 hP1 hD1 hS1
            refine x_room (n := base + (h.length + 1)) (by omega) (fun hsz => ?_)
            obtain ⟨e2, e3⟩ := x_fresh hsz hP1 hD1
            subst e2
            have hw1 : xW D cl dA base xa (h ++ [.inr (ci, xDfl G ci)]) H1 := ⟨by rw [e3]; simp, by rw [xw_push]; simp only [xc, hmp]; exact hP1⟩
            have := ih d M (pc + 3) L (.ref h.length :: st) (h ++ [.inr (ci, xDfl G ci)]) _ e1 p e s m args below meth c R H1 locs (cells + 1) (slots + N) Q ls hA (by simp; omega) hw1 (x_X hX hbb (by have := hw.1; omega) hS1) hlc hl (by show cells + 1 + a1 ≤ _; omega) (by show slots + N + a2 ≤ _; omega) hdR hlR (fun pc' ls' i H' locs' u1 u2 u3 u4 u5 u6 => by
              have k3 := hret pc' ls' i H' locs' u1 u2 (by rw [← u3]; show s.heap.size + (cells + (1 + a1)) = s.heap.size + (cells + 1 + a1); omega) u4 u5 u6
              have f1 : cells + (1 + a1) = cells + 1 + a1 := by omega
              have f2 : slots + ((xDfl G ci).length + a2) = slots + N + a2 := by omega
              simp only [f1, f2] at k3
              exact k3)
            exact this
          · cases hr
        · cases hr
      · split at hr
        · rename_i t k r0 hq9
          split at hr
          · cases hr
          · rename_i q0
            have q1 : ¬ k < 0 := fun z => q0 (Or.inl z)
            have q2 : k.toNatClampNeg ≤ 1000000 := Nat.not_lt.mp (fun z => q0 (Or.inr z))
            split at hr
            · rename_i c0 qn
              obtain rfl : nn = 2 := x_n hlen rfl rfl
              obtain ⟨v, h', a1, a2, e1, rfl⟩ := xadd_some hr
              have k1 : cells + (1 + a1) ≤ R.cells := hcR
              have k2 : slots + (k.toNatClampNeg + a2) ≤ R.slots := hsR
              have fin : ∀ (ty : FieldType) (x : vp_A), c0 = .inl (ty, x) → xprim ty = true → newarray.typeOf t = ty → (∀ cA : ClassId, vp_cell cA x = arrV cA k.toNatClampNeg (fun _ => defaultValue ty)) → k.toNatClampNeg * componentBytes ty ≤ 536870912 → Cond.arrayClass ty ∈ Ts → W p l e R s m args below meth c H locs cells slots Q (F0 m pc ls ((.int k :: r0).map (xv base xa))) := by
                intro ty x hc0 hpr hty hcell hby hac
                subst hc0
                refine va_newa (atype := t) (ty := ty) (n := k) (N' := k.toNatClampNeg) (a0 := x) hx hb (by rw [hty]; exact hts _ hac) hty hK hw.2 (xw_D dA base xa h) (x_sS hlc) (fun q z => by have := hw.1; show base ≤ q; omega) hcell q1 rfl hby (by omega) (by omega) hdec ?_
                intro q cA H1 hK1 hP1 hD1 hS1
                obtain rfl := x_arrEq hpr hK hK1
                refine x_room (n := base + (h.length + 1)) (by omega) (fun hsz => ?_)
                obtain ⟨e2, e3⟩ := x_fresh hsz hP1 hD1
                subst e2
                have hw1 : xW D cl dA base xa (h ++ [.inl (ty, x)]) H1 := ⟨by rw [e3]; simp, by rw [xw_push]; exact hP1⟩
                exact ih d M (pc + 2) L (.ref h.length :: r0) (h ++ [.inl (ty, x)]) _ e1 p e s m args below meth c R H1 locs (cells + 1) (slots + k.toNatClampNeg) Q ls hA (by simp; omega) hw1 (x_X hX hbb (by have := hw.1; omega) hS1) hlc hl (by show cells + 1 + a1 ≤ _; omega) (by show slots + k.toNatClampNeg + a2 ≤ _; omega) hdR hlR (fun pc' ls' i H' locs' u1 u2 u3 u4 u5 u6 => by
                  have k3 := hret pc' ls' i H' locs' u1 u2 (by rw [← u3]; show s.heap.size + (cells + (1 + a1)) = s.heap.size + (cells + 1 + a1); omega) u4 u5 u6
                  have f1 : cells + (1 + a1) = cells + 1 + a1 := by omega
                  have f2 : slots + (k.toNatClampNeg + a2) = slots + k.toNatClampNeg + a2 := by omega
                  simp only [f1, f2] at k3
                  exact k3)
              obtain ⟨w1, w2, w3, w4⟩ := hG.2.2.2.2.2.2.1
              cases t with
              | int => cases qn; exact fin .int _ rfl rfl rfl (fun cA => rfl) (by show _ * 4 ≤ _; omega) w1
              | long => cases qn; exact fin .long _ rfl rfl rfl (fun cA => rfl) (by show _ * 8 ≤ _; omega) w2
              | byte => cases qn; exact fin .byte _ rfl rfl rfl (fun cA => rfl) (by show _ * 1 ≤ _; omega) w3
              | boolean => cases qn; exact fin .boolean _ rfl rfl rfl (fun cA => rfl) (by show _ * 1 ≤ _; omega) w4
              | _ => cases qn
            · cases hr
        · cases hr
      · split at hr
        · rename_i d' kind N k ci qk
          obtain ⟨z1, z2⟩ := xlink_len qk
          obtain rfl := x_n hlen z1 z2
          split at hr
          · split at hr
            · rename_i a0 r0
              split at hr
              · cases hr
              · rename_i q8
                rcases xlink_in qk with ⟨idx, _, zk, _⟩ | ⟨idx, _, zk, _⟩ | ⟨idx, rfl, _, q1⟩
                · cases zk
                · rcases zk with zk | zk | zk | zk <;> cases zk
                · obtain ⟨c1, c2, c3⟩ := hM.2 _ _ _ _ _ _ q1
                  exact W.objInit hx hb hown (hts _ c1) (hts _ c2) (hts _ c3) rfl (by rw [hml]; exact hl.1) rfl hdec (by omega) (by have := lv_room (m := m) (pc := pc) (ls := ls) (rest := ((.ref a0 :: r0).map (xv base xa))) (x_rest (base := base) (xa := xa) r0 q8); omega) (ih (d' + 1) M (pc + 3) L r0 h r hr p e s m args below meth c R H locs cells slots Q ls hA hs hw hX hlc hl hcR hsR hdR hlR hret)
            · cases hr
          · split at hr
            · rename_i st' h' q
              rcases xlink_in qk with ⟨idx, _, zk, _⟩ | ⟨idx, rfl, _, q1⟩ | ⟨idx, _, zk, _⟩
              · cases zk
              · obtain ⟨c1, c2, c3, c4⟩ := hM.2 _ _ _ _ _ _ q1
                exact xcopy_ok hx hb (by rw [hml]; exact hl.1.symm) hown (hts _ c1) (hts _ c2) (hts _ c3) (hts _ c4) hK hbb hdec hX hs hw hlc (by omega) (by omega) q (fun H' locs' e1 hw' hX' hlc' => ih (d' + 1) M _ L st' h' r hr p e s m args below meth c R H' locs' cells slots Q ls hA (by rw [e1]; exact hs) hw' hX' hlc' hl hcR hsR hdR hlR hret)
              · rcases zk with zk | zk | zk <;> cases zk
            · cases hr
          · split at hr
            · rename_i y x r0
              split at hr
              · cases hr
              · rename_i q8
                rcases xlink_in qk with ⟨idx, _, zk, _⟩ | ⟨idx, rfl, _, q1⟩ | ⟨idx, _, zk, _⟩
                · cases zk
                · obtain ⟨c1, c2, c3, c4⟩ := hM.2 _ _ _ _ _ _ q1
                  have q9 := x_rest (base := base) (xa := xa) r0 q8
                  exact va_mmax hx hb (by rw [hml]; exact hl.1.symm) hown (hts _ c1) (hts _ c2) (hts _ c3) (hts _ c4) (by omega) (by omega) (by omega) (by omega) hdec (ih (d' + 1) M (pc + 3) L (.int (if x < y then y else x) :: r0) h r hr p e s m args below meth c R H locs cells slots Q ls hA hs hw hX hlc hl hcR hsR hdR hlR hret)
                · rcases zk with zk | zk | zk <;> cases zk
            · cases hr
          · split at hr
            · rename_i y x r0
              split at hr
              · cases hr
              · rename_i q8
                rcases xlink_in qk with ⟨idx, _, zk, _⟩ | ⟨idx, rfl, _, q1⟩ | ⟨idx, _, zk, _⟩
                · cases zk
                · obtain ⟨c1, c2, c3, c4⟩ := hM.2 _ _ _ _ _ _ q1
                  have q9 := x_rest (base := base) (xa := xa) r0 q8
                  exact va_mmin hx hb (by rw [hml]; exact hl.1.symm) hown (hts _ c1) (hts _ c2) (hts _ c3) (hts _ c4) (by omega) (by omega) (by omega) (by omega) hdec (ih (d' + 1) M (pc + 3) L (.int (if y < x then y else x) :: r0) h r hr p e s m args below meth c R H locs cells slots Q ls hA hs hw hX hlc hl hcR hsR hdR hlR hret)
                · rcases zk with zk | zk | zk <;> cases zk
            · cases hr
          · split at hr
            · cases hr
            · rename_i q0
              split at hr
              · rename_i v h' a1 a2 qe
                obtain ⟨v2, h2, b1, b2, e2, rfl⟩ := xadd_some hr
                have k1 : cells + (a1 + b1) ≤ R.cells := hcR
                have k2 : slots + (a2 + b2) ≤ R.slots := hsR
                refine xcall_ok hG hM ih hA hdec qk (fun z => q0 (Or.inl z)) (fun z => q0 (Or.inr (Or.inl z))) (fun z => q0 (Or.inr (Or.inr (Or.inl z)))) ?_ qe hX hw hlc hl.1 hdR hlR (by show cells + a1 ≤ _; omega) (by show slots + a2 ≤ _; omega) ?_
                · cases zz : xhead (xByt G).length kind ci (st.take k).reverse h with
                  | true => rfl
                  | false => exact absurd (Or.inr (Or.inr (Or.inr zz))) q0
                · intro H' locs' e1 hw' hX' hlc'
                  have e1' : h.length + a1 = h'.length := e1
                  refine ih (d' + 1) M (pc + 3) L (v.toList ++ st.drop k) h' _ e2 p e s m args below meth c R H' locs' (cells + a1) (slots + a2) Q ls hA (by omega) hw' hX' hlc' hl (by show cells + a1 + b1 ≤ _; omega) (by show slots + a2 + b2 ≤ _; omega) hdR hlR (fun pc' ls' i H' locs' u1 u2 u3 u4 u5 u6 => ?_)
                  have k3 := hret pc' ls' i H' locs' u1 u2 (by rw [← u3]; show s.heap.size + (cells + (a1 + b1)) = s.heap.size + (cells + a1 + b1); omega) u4 u5 u6
                  have f1 : cells + (a1 + b1) = cells + a1 + b1 := by omega
                  have f2 : slots + (a2 + b2) = slots + a2 + b2 := by omega
                  simp only [f1, f2] at k3
                  exact k3
              · cases hr
        · cases hr
      · cases hr
end XMN
end
section
section XMO
variable {G : xG} {sc : xS}
set_option maxHeartbeats 4000000 in
/-- more fuel, the same run -/
theorem xev_mono : ∀ (n d M pc : Nat) (L : xL) (st : List Value) (h : xH) (r : xR), xev G sc n d M pc L st h = some r → xev G sc (n + 1) d M pc L st h = some r := by
  intro n
  induction n with
  | zero =>
    intro d M pc L st h r hr
    cases hr
  | succ n ih =>
    intro d M pc L st h r hr
    rw [xev] at hr
    rw [xev]
    split at hr
    · cases hr
    · rename_i i hi
      split at hr
      · rename_i hs
        split at hr
        · rename_i st' q
          try simp only [hs, q]
          exact ih _ _ _ _ _ _ _ hr
        · cases hr
      · rename_i hs
        split at hr
        · rename_i st' q
          try simp only [hs, q]
          exact ih _ _ _ _ _ _ _ hr
        · cases hr
      · rename_i hs
        split at hr
        · rename_i L' st' q
          try simp only [hs, q]
          exact ih _ _ _ _ _ _ _ hr
        · cases hr
      · rename_i hs
        split at hr
        · rename_i pc' st' q
          try simp only [hs, q]
          exact ih _ _ _ _ _ _ _ hr
        · cases hr
      · rename_i hs
        split at hr
        · rename_i st' h' q
          try simp only [hs, q]
          exact ih _ _ _ _ _ _ _ hr
        · cases hr
      · rename_i hs
        try simp only [hs]
        exact hr
      · rename_i hs
        try simp only [hs]
        split at hr
        · split at hr
          · rename_i ci q
            obtain ⟨v, h', a1, a2, e1, rfl⟩ := xadd_some hr
            try simp only [q, ih _ _ _ _ _ _ _ e1]
            rfl
          · cases hr
        · cases hr
      · rename_i hs
        try simp only [hs]
        split at hr
        · split at hr
          · cases hr
          · rename_i q0
            split at hr
            · rename_i c0 qn
              obtain ⟨v, h', a1, a2, e1, rfl⟩ := xadd_some hr
              try simp only [q0, if_false, qn, ih _ _ _ _ _ _ _ e1]
              rfl
            · cases hr
        · cases hr
      · rename_i hs
        try simp only [hs]
        split at hr
        · rename_i d' kind N k ci qk
          try simp only [qk]
          split at hr
          · split at hr
            · split at hr
              · cases hr
              · rename_i q8
                try simp only [q8, if_false]
                exact ih _ _ _ _ _ _ _ hr
            · cases hr
          · split at hr
            · rename_i st' h' q
              try simp only [q]
              exact ih _ _ _ _ _ _ _ hr
            · cases hr
          · split at hr
            · split at hr
              · cases hr
              · rename_i q8
                try simp only [q8, if_false]
                exact ih _ _ _ _ _ _ _ hr
            · cases hr
          · split at hr
            · split at hr
              · cases hr
              · rename_i q8
                try simp only [q8, if_false]
                exact ih _ _ _ _ _ _ _ hr
            · cases hr
          · split at hr
            · cases hr
            · rename_i q0
              split at hr
              · rename_i v h' a1 a2 qe
                obtain ⟨v2, h2, b1, b2, e2, rfl⟩ := xadd_some hr
                try simp only [q0, if_false, ih _ _ _ _ _ _ _ qe, ih _ _ _ _ _ _ _ e2]
                rfl
              · cases hr
        · cases hr
      · cases hr
theorem xev_le {n k d M pc : Nat} {L : xL} {st : List Value} {h : xH} {r : xR} (hr : xev G sc n d M pc L st h = some r) (hk : n ≤ k) : xev G sc k d M pc L st h = some r := by
  induction k with
  | zero => rw [Nat.le_zero.mp hk] at hr; exact hr
  | succ k ih =>
    rcases Nat.lt_or_ge n (k + 1) with z | z
    · exact xev_mono _ _ _ _ _ _ _ _ (ih (by omega))
    · rw [show k + 1 = n by omega]; exact hr
end XMO
/-- there is a run from here, and what it leaves is so -/
def xT (G : xG) (sc : xS) (d M pc : Nat) (L : xL) (st : List Value) (h : xH) (Q : xR → Prop) : Prop := ∃ n r, xev G sc n d M pc L st h = some r ∧ Q r
section XTR
variable {G : xG} {sc : xS} {d M pc : Nat} {L : xL} {st : List Value} {h : xH} {Q : xR → Prop}
theorem tPost {Q' : xR → Prop} (k : xT G sc d M pc L st h Q') (hq : ∀ r, Q' r → Q r) : xT G sc d M pc L st h Q := by
  obtain ⟨n, r, h1, h2⟩ := k
  exact ⟨n, r, h1, hq r h2⟩
theorem tS1 {i : Instr} (hi : xIns G M pc = some i) (hs : xsort i = 1) {st' : List Value} (h1 : xs1 i st = some st') (k : xT G sc d M (pc + 1) L st' h Q) : xT G sc d M pc L st h Q := by
  obtain ⟨n, r, k1, k2⟩ := k
  exact ⟨n + 1, r, by rw [xev]; simp only [hi, hs, h1]; exact k1, k2⟩
theorem tS1d {i : Instr} (hi : xIns G M pc = some i) (hs : xsort i = 2) {st' : List Value} (h1 : xs1d i st = some st') (k : xT G sc d M (pc + 1) L st' h Q) : xT G sc d M pc L st h Q := by
  obtain ⟨n, r, k1, k2⟩ := k
  exact ⟨n + 1, r, by rw [xev]; simp only [hi, hs, h1]; exact k1, k2⟩
theorem tS2 {i : Instr} (hi : xIns G M pc = some i) (hs : xsort i = 3) {L' : xL} {st' : List Value} (h1 : xs2 (xCon G M) (xStr G M) (xMet G M).2.2.1 i L st = some (L', st')) {pc' : Nat} (hp : pc + xlen i = pc') (k : xT G sc d M pc' L' st' h Q) : xT G sc d M pc L st h Q := by
  obtain ⟨n, r, k1, k2⟩ := k
  subst hp
  exact ⟨n + 1, r, by rw [xev]; simp only [hi, hs, h1]; exact k1, k2⟩
theorem tS3 {i : Instr} (hi : xIns G M pc = some i) (hs : xsort i = 4) {pc' : Nat} {st' : List Value} (h1 : xs3 pc i st = some (pc', st')) (k : xT G sc d M pc' L st' h Q) : xT G sc d M pc L st h Q := by
  obtain ⟨n, r, k1, k2⟩ := k
  exact ⟨n + 1, r, by rw [xev]; simp only [hi, hs, h1]; exact k1, k2⟩
theorem tS4 {i : Instr} (hi : xIns G M pc = some i) (hs : xsort i = 5) {st' : List Value} {h' : xH} (h1 : xs4 (xFld G M) (xPut G M) (xExf G M) (xSta G M) (xByt G) sc i st h = some (st', h')) {pc' : Nat} (hp : pc + xlen i = pc') (k : xT G sc d M pc' L st' h' Q) : xT G sc d M pc L st h Q := by
  obtain ⟨n, r, k1, k2⟩ := k
  subst hp
  exact ⟨n + 1, r, by rw [xev]; simp only [hi, hs, h1]; exact k1, k2⟩
theorem tR0 {i : Instr} (hi : xIns G M pc = some i) (hs : xsort i = 6) (h1 : xret i (xMet G M).2.2.2 none = true) (k : Q (none, h, 0, 0)) : xT G sc d M pc L [] h Q :=
  ⟨1, _, by rw [xev]; simp only [hi, hs, h1, if_true], k⟩
theorem tR1 {i : Instr} (hi : xIns G M pc = some i) (hs : xsort i = 6) {v : Value} (h1 : xret i (xMet G M).2.2.2 (some v) = true) (k : Q (some v, h, 0, 0)) : xT G sc d M pc L [v] h Q :=
  ⟨1, _, by rw [xev]; simp only [hi, hs, h1, if_true], k⟩
/-- an if: both ways -/
theorem tIf0 {q : ClassFile.Cond} {off : Int} {t : Nat} {x : Int32} (hi : xIns G M pc = some (.ifCond q off)) (hj : xjmp pc off = some t) (kt : xcond q x 0 = true → xT G sc d M t L st h Q) (kf : xcond q x 0 = false → xT G sc d M (pc + 3) L st h Q) : xT G sc d M pc L (.int x :: st) h Q := by
  cases hc : xcond q x 0 with
  | true => exact tS3 hi rfl (by simp only [xs3, hj, hc, if_true]) (kt hc)
  | false => exact tS3 hi rfl (by simp only [xs3, hj, hc, Bool.false_eq_true, if_false]) (kf hc)
theorem tIf2 {q : ClassFile.Cond} {off : Int} {t : Nat} {x y : Int32} (hi : xIns G M pc = some (.if_icmp q off)) (hj : xjmp pc off = some t) (kt : xcond q x y = true → xT G sc d M t L st h Q) (kf : xcond q x y = false → xT G sc d M (pc + 3) L st h Q) : xT G sc d M pc L (.int y :: .int x :: st) h Q := by
  cases hc : xcond q x y with
  | true => exact tS3 hi rfl (by simp only [xs3, hj, hc, if_true]) (kt hc)
  | false => exact tS3 hi rfl (by simp only [xs3, hj, hc, Bool.false_eq_true, if_false]) (kf hc)
theorem tIf0T {q : ClassFile.Cond} {off : Int} {t : Nat} {x : Int32} (hi : xIns G M pc = some (.ifCond q off)) (hj : xjmp pc off = some t) (hc : xcond q x 0 = true) (kt : xT G sc d M t L st h Q) : xT G sc d M pc L (.int x :: st) h Q := tS3 hi rfl (by simp only [xs3, hj, hc, if_true]) kt
theorem tIf0F {q : ClassFile.Cond} {off : Int} {t : Nat} {x : Int32} (hi : xIns G M pc = some (.ifCond q off)) (hj : xjmp pc off = some t) (hc : xcond q x 0 = false) (kt : xT G sc d M (pc + 3) L st h Q) : xT G sc d M pc L (.int x :: st) h Q := tS3 hi rfl (by simp only [xs3, hj, hc, Bool.false_eq_true, if_false]) kt
theorem tIf2T {q : ClassFile.Cond} {off : Int} {t : Nat} {x y : Int32} (hi : xIns G M pc = some (.if_icmp q off)) (hj : xjmp pc off = some t) (hc : xcond q x y = true) (kt : xT G sc d M t L st h Q) : xT G sc d M pc L (.int y :: .int x :: st) h Q := tS3 hi rfl (by simp only [xs3, hj, hc, if_true]) kt
theorem tIf2F {q : ClassFile.Cond} {off : Int} {t : Nat} {x y : Int32} (hi : xIns G M pc = some (.if_icmp q off)) (hj : xjmp pc off = some t) (hc : xcond q x y = false) (kt : xT G sc d M (pc + 3) L st h Q) : xT G sc d M pc L (.int y :: .int x :: st) h Q := tS3 hi rfl (by simp only [xs3, hj, hc, Bool.false_eq_true, if_false]) kt
theorem tGo {off : Int} {t : Nat} (hi : xIns G M pc = some (.goto off)) (hj : xjmp pc off = some t) (k : xT G sc d M t L st h Q) : xT G sc d M pc L st h Q := tS3 hi rfl (by simp only [xs3, hj, Option.map_some]) k
theorem tNew {k0 ci : Nat} {n : Nat} (hi : xIns G M pc = some (.new k0)) (hc : xCls G M k0 = some ci) (hn : h.length = n) (k : xT G sc d M (pc + 3) L (.ref n :: st) (h ++ [.inr (ci, xDfl G ci)]) (fun r => Q (r.1, r.2.1, 1 + r.2.2.1, (xDfl G ci).length + r.2.2.2))) : xT G sc d M pc L st h Q := by
  obtain ⟨n', ⟨v, h', a, b⟩, k1, k2⟩ := k
  subst hn
  exact ⟨n' + 1, _, by rw [xev]; simp only [hi, xsort, hc, k1, xadd], k2⟩
theorem tNewA {t : ArrayType} {k0 : Int32} {n N : Nat} {c : xE} (hi : xIns G M pc = some (.newarray t)) (hk : ¬ (k0 < 0 ∨ 1000000 < k0.toNatClampNeg)) (hN : k0.toNatClampNeg = N) (hc : xnew t N = some c) (hn : h.length = n) (k : xT G sc d M (pc + 2) L (.ref n :: st) (h ++ [c]) (fun r => Q (r.1, r.2.1, 1 + r.2.2.1, N + r.2.2.2))) : xT G sc d M pc L (.int k0 :: st) h Q := by
  obtain ⟨n', ⟨v, h', a, b⟩, k1, k2⟩ := k
  subst hn
  subst hN
  exact ⟨n' + 1, _, by rw [xev]; simp only [hi, xsort, hk, if_false, hc, k1, xadd], k2⟩
/-- a call: the callee's run, then the rest -/
theorem tCall {i : Instr} {kind N k0 ci : Nat} {as rest : List Value} (hi : xIns G M pc = some i) (hs : xsort i = 9) (hl : xlink (xMth G M) i = some (kind, N, k0, ci)) (hk : kind = 0 ∨ kind = 1 ∨ kind = 4 ∨ kind = 5) (ha : (st.take k0).reverse = as) (hr : st.drop k0 = rest) (h1 : k0 ≤ st.length) (h2 : (rest.map (fun v => v.category)).sum ≤ 8) (h3 : (lg_sl as).length ≤ (xMet G N).2.2.1) (h4 : xhead (xByt G).length kind ci as h = true)
    (k : xT G sc d N 0 (lv_args 0 as) [] h (fun r => xT G sc (d + 1) M (pc + 3) L (r.1.toList ++ rest) r.2.1 (fun r2 => Q (r2.1, r2.2.1, r.2.2.1 + r2.2.2.1, r.2.2.2 + r2.2.2.2)))) : xT G sc (d + 1) M pc L st h Q := by
  obtain ⟨n1, ⟨v, h', a, b⟩, k1, n2, ⟨v2, h2', a2, b2⟩, k2, k3⟩ := k
  subst ha
  subst hr
  have e1 := xev_le k1 (Nat.le_max_left n1 n2)
  have e2 := xev_le k2 (Nat.le_max_right n1 n2)
  have hno : ¬ (st.length < k0 ∨ 8 < ((st.drop k0).map (fun v => v.category)).sum ∨ (xMet G N).2.2.1 < (lg_sl (st.take k0).reverse).length ∨ xhead (xByt G).length kind ci (st.take k0).reverse h = false) := by
    rintro (z | z | z | z)
    · omega
    · omega
    · omega
    · rw [h4] at z; cases z
  refine ⟨max n1 n2 + 1, _, ?_, k3⟩
  rw [xev]
  simp only [hi, hs, hl]
  rcases hk with rfl | rfl | rfl | rfl <;> simp only [hno, if_false, e1, e2, xadd]
theorem tObj {k0 N na ci a : Nat} (hi : xIns G M pc = some (.invokespecial k0)) (hl : xMth G M k0 = some (6, N, na, ci)) (h2 : (st.map (fun v => v.category)).sum ≤ 8) (k : xT G sc (d + 1) M (pc + 3) L st h Q) : xT G sc (d + 1) M pc L (.ref a :: st) h Q := by
  obtain ⟨n, r, k1, k2⟩ := k
  have hno : ¬ 8 < (st.map (fun v => v.category)).sum := by omega
  exact ⟨n + 1, r, by rw [xev]; simp only [hi, xsort, xlink, hl, hno, if_false]; exact k1, k2⟩
theorem tCopy {k0 N na ci : Nat} (hi : xIns G M pc = some (.invokestatic k0)) (hl : xMth G M k0 = some (7, N, na, ci)) {st' : List Value} {h' : xH} (hc : xcopy st h = some (st', h')) (k : xT G sc (d + 1) M (pc + 3) L st' h' Q) : xT G sc (d + 1) M pc L st h Q := by
  obtain ⟨n, r, k1, k2⟩ := k
  exact ⟨n + 1, r, by rw [xev]; simp only [hi, xsort, xlink, hl, hc]; exact k1, k2⟩
theorem tMax {k0 N na ci : Nat} {x y : Int32} (hi : xIns G M pc = some (.invokestatic k0)) (hl : xMth G M k0 = some (8, N, na, ci)) (h2 : (st.map (fun v => v.category)).sum ≤ 8) (k : xT G sc (d + 1) M (pc + 3) L (.int (if x < y then y else x) :: st) h Q) : xT G sc (d + 1) M pc L (.int y :: .int x :: st) h Q := by
  obtain ⟨n, r, k1, k2⟩ := k
  have hno : ¬ 8 < (st.map (fun v => v.category)).sum := by omega
  exact ⟨n + 1, r, by rw [xev]; simp only [hi, xsort, xlink, hl, hno, if_false]; exact k1, k2⟩
theorem tMin {k0 N na ci : Nat} {x y : Int32} (hi : xIns G M pc = some (.invokestatic k0)) (hl : xMth G M k0 = some (9, N, na, ci)) (h2 : (st.map (fun v => v.category)).sum ≤ 8) (k : xT G sc (d + 1) M (pc + 3) L (.int (if y < x then y else x) :: st) h Q) : xT G sc (d + 1) M pc L (.int y :: .int x :: st) h Q := by
  obtain ⟨n, r, k1, k2⟩ := k
  have hno : ¬ 8 < (st.map (fun v => v.category)).sum := by omega
  exact ⟨n + 1, r, by rw [xev]; simp only [hi, xsort, xlink, hl, hno, if_false]; exact k1, k2⟩
theorem tTop {x v : Int32} (e : x = v) (k : xT G sc d M pc L (.int v :: st) h Q) : xT G sc d M pc L (.int x :: st) h Q := e ▸ k
theorem tTopL {x v : Int64} (e : x = v) (k : xT G sc d M pc L (.long v :: st) h Q) : xT G sc d M pc L (.long x :: st) h Q := e ▸ k
theorem tLoc {L' : xL} (e : L = L') (k : xT G sc d M pc L' st h Q) : xT G sc d M pc L st h Q := e ▸ k
theorem tHeap {h' : xH} (e : h = h') (k : xT G sc d M pc L st h' Q) : xT G sc d M pc L st h Q := e ▸ k
end XTR
end
