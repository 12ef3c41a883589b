/-! An evaluator of bytecode over plain heaps: cells are numbered from 0 in the order in which they come; '.ref i' is cell i; '.retAddr _' stands for the law's script. -/
abbrev xE : Type := (FieldType × vp_A) ⊕ (Nat × List Value)
abbrev xL : Type := List (Nat × Value)
abbrev xH : Type := List xE
/-- an answer, the heap behind it, how many cells and slots came -/
abbrev xR : Type := Option Value × xH × Nat × Nat
/-- a method: its name, its code, its locals, what it answers -/
abbrev xM : Type := MethodName × ByteArray × Nat × Option FieldType
/-- a program: instructions; fields read (class, place); fields written (class, place, type); calls (kind, method, how many values, class); classes made; constants; a class's first values; methods -/
abbrev xG0 : Type := (Nat → Nat → Option Instr) × (Nat → Nat → Option (Nat × Nat)) × (Nat → Nat → Option (Nat × Nat × FieldType)) × (Nat → Nat → Option (Nat × Nat × Nat × Nat)) × (Nat → Nat → Option Nat) × (Nat → Nat → Option Value) × (Nat → List Value) × (Nat → xM)
/-- constant texts: which an ldc names; fields of theirs (0 value, 1 coder); statics; their bytes -/
abbrev xGx : Type := (Nat → Nat → Option Nat) × (Nat → Nat → Option Nat) × (Nat → Nat → Option Value) × List (List Int32)
abbrev xG : Type := xG0 × xGx
abbrev xIns (G : xG) : Nat → Nat → Option Instr := G.1.1
abbrev xFld (G : xG) : Nat → Nat → Option (Nat × Nat) := G.1.2.1
abbrev xPut (G : xG) : Nat → Nat → Option (Nat × Nat × FieldType) := G.1.2.2.1
abbrev xMth (G : xG) : Nat → Nat → Option (Nat × Nat × Nat × Nat) := G.1.2.2.2.1
abbrev xCls (G : xG) : Nat → Nat → Option Nat := G.1.2.2.2.2.1
abbrev xCon (G : xG) : Nat → Nat → Option Value := G.1.2.2.2.2.2.1
abbrev xDfl (G : xG) : Nat → List Value := G.1.2.2.2.2.2.2.1
abbrev xMet (G : xG) : Nat → xM := G.1.2.2.2.2.2.2.2
abbrev xStr (G : xG) : Nat → Nat → Option Nat := G.2.1
abbrev xExf (G : xG) : Nat → Nat → Option Nat := G.2.2.1
abbrev xSta (G : xG) : Nat → Nat → Option Value := G.2.2.2.1
abbrev xByt (G : xG) : List (List Int32) := G.2.2.2.2
/-- the script: its length, its ints -/
abbrev xS : Type := Nat × (Nat → Int32)
def xst1 (L : xL) (i : Nat) (v : Value) : xL := (i, v) :: L.filter (fun q => !(q.1 == i) && !(q.1 + 1 == i && q.2.category == 2))
def xst2 (L : xL) (i : Nat) (v : Value) : xL := (i, v) :: L.filter (fun q => !(q.1 == i) && (!(q.1 == i + 1) && !(q.1 + 1 == i && q.2.category == 2)))
/-- the operand stack alone -/
def xs1 (i : Instr) (st : List Value) : Option (List Value) := match i, st with
  | .iadd, .int y :: .int x :: r => some (.int (x + y) :: r)
  | .isub, .int y :: .int x :: r => some (.int (x - y) :: r)
  | .imul, .int y :: .int x :: r => some (.int (x * y) :: r)
  | .idiv, .int y :: .int x :: r => if y = 0 then none else some (.int (x / y) :: r)
  | .irem, .int y :: .int x :: r => if y = 0 then none else some (.int (x - x / y * y) :: r)
  | .ineg, .int x :: r => some (.int (-x) :: r)
  | .iand, .int y :: .int x :: r => some (.int (x &&& y) :: r)
  | .ior, .int y :: .int x :: r => some (.int (x ||| y) :: r)
  | .ixor, .int y :: .int x :: r => some (.int (x ^^^ y) :: r)
  | .ishl, .int y :: .int x :: r => some (.int (x <<< (y &&& 31)) :: r)
  | .ishr, .int y :: .int x :: r => some (.int (x >>> (y &&& 31)) :: r)
  | .iushr, .int y :: .int x :: r => some (.int (x.toUInt32 >>> (y.toUInt32 &&& Int32.toUInt32 31)).toInt32 :: r)
  | .ladd, .long y :: .long x :: r => some (.long (x + y) :: r)
  | .lsub, .long y :: .long x :: r => some (.long (x - y) :: r)
  | .lmul, .long y :: .long x :: r => some (.long (x * y) :: r)
  | .ldiv, .long y :: .long x :: r => if y = 0 then none else some (.long (x / y) :: r)
  | .lrem, .long y :: .long x :: r => if y = 0 then none else some (.long (x - x / y * y) :: r)
  | .lneg, .long x :: r => some (.long (-x) :: r)
  | .land, .long y :: .long x :: r => some (.long (x &&& y) :: r)
  | .lor, .long y :: .long x :: r => some (.long (x ||| y) :: r)
  | .lxor, .long y :: .long x :: r => some (.long (x ^^^ y) :: r)
  | .lshl, .int y :: .long x :: r => some (.long (x <<< (y.toInt64 &&& 63)) :: r)
  | .lshr, .int y :: .long x :: r => some (.long (x >>> (y.toInt64 &&& 63)) :: r)
  | .lushr, .int y :: .long x :: r => some (.long (x.toUInt64 >>> (y.toInt64.toUInt64 &&& Int64.toUInt64 63)).toInt64 :: r)
  | .lcmp, .long y :: .long x :: r => some (.int (lg_cmp x y) :: r)
  | .i2l, .int x :: r => some (.long x.toInt64 :: r)
  | .l2i, .long x :: r => some (.int x.toInt32 :: r)
  | .i2b, .int x :: r => some (.int x.toInt8.toInt32 :: r)
  | .i2s, .int x :: r => some (.int x.toInt16.toInt32 :: r)
  | .i2c, .int x :: r => some (.int (x.toUInt32 % 65536).toInt32 :: r)
  | _, _ => none
def xs1d (i : Instr) (st : List Value) : Option (List Value) := match i, st with
  | .dup, u :: r => if u.category = 1 then some (u :: u :: r) else none
  | .pop, u :: r => if u.category = 1 then some r else none
  | .pop2, u :: r => if u.category = 2 then some r else none
  | .dup_x1, u :: w :: r => if u.category = 1 ∧ w.category = 1 then some (u :: w :: u :: r) else none
  | .dup_x2, u :: w :: z :: r => if u.category = 1 ∧ w.category = 1 ∧ z.category = 1 then some (u :: w :: z :: u :: r) else none
  | .dup2, u :: w :: r => if u.category = 2 then some (u :: u :: w :: r) else if w.category = 1 then some (u :: w :: u :: w :: r) else none
  | .dup2, [u] => if u.category = 2 then some [u, u] else none
  | .dup2_x1, u :: w :: r => if u.category = 2 ∧ w.category = 1 then some (u :: w :: u :: r) else none
  | .dup2_x2, u :: w :: z :: r => if u.category = 2 ∧ w.category = 1 ∧ z.category = 1 then some (u :: w :: z :: u :: r) else none
  | _, _ => none
/-- constants and locals -/
def xs2 (con : Nat → Option Value) (str : Nat → Option Nat) (nL : Nat) (i : Instr) (L : xL) (st : List Value) : Option (xL × List Value) := match i with
  | .iconst n => some (L, .int (Int32.ofInt n) :: st)
  | .bipush n => some (L, .int (Int8.ofInt n).toInt32 :: st)
  | .sipush n => some (L, .int (Int16.ofInt n).toInt32 :: st)
  | .lconst n => some (L, .long (Int64.ofNat (n : Nat)) :: st)
  | .aconst_null => some (L, .null :: st)
  | .ldc k => match con k with
    | some (.int v) => some (L, .int v :: st)
    | some _ => none
    | none => match str k with
      | some i => some (L, .retAddr (2 * i + 1) :: st)
      | none => none
  | .ldc2_w k => match con k with
    | some (.long v) => some (L, .long v :: st)
    | _ => none
  | .iload k => match L.lookup k with
    | some (.int x) => some (L, .int x :: st)
    | _ => none
  | .iload_n k => match L.lookup k.val with
    | some (.int x) => some (L, .int x :: st)
    | _ => none
  | .lload k => match L.lookup k with
    | some (.long x) => some (L, .long x :: st)
    | _ => none
  | .lload_n k => match L.lookup k.val with
    | some (.long x) => some (L, .long x :: st)
    | _ => none
  | .aload k => match L.lookup k with
    | some (.ref x) => some (L, .ref x :: st)
    | some (.retAddr x) => if x = 1000 then none else some (L, .retAddr x :: st)
    | some .null => some (L, .null :: st)
    | _ => none
  | .aload_n k => match L.lookup k.val with
    | some (.ref x) => some (L, .ref x :: st)
    | some (.retAddr x) => if x = 1000 then none else some (L, .retAddr x :: st)
    | some .null => some (L, .null :: st)
    | _ => none
  | .istore k => match st with
    | .int x :: r => if k < nL then some (xst1 L k (.int x), r) else none
    | _ => none
  | .istore_n k => match st with
    | .int x :: r => if k.val < nL then some (xst1 L k.val (.int x), r) else none
    | _ => none
  | .lstore k => match st with
    | .long x :: r => if k + 1 < nL then some (xst2 L k (.long x), r) else none
    | _ => none
  | .lstore_n k => match st with
    | .long x :: r => if k.val + 1 < nL then some (xst2 L k.val (.long x), r) else none
    | _ => none
  | .astore k => match st with
    | .ref x :: r => if k < nL then some (xst1 L k (.ref x), r) else none
    | .retAddr x :: r => if k < nL ∧ ¬ x = 1000 then some (xst1 L k (.retAddr x), r) else none
    | _ => none
  | .astore_n k => match st with
    | .ref x :: r => if k.val < nL then some (xst1 L k.val (.ref x), r) else none
    | .retAddr x :: r => if k.val < nL ∧ ¬ x = 1000 then some (xst1 L k.val (.retAddr x), r) else none
    | _ => none
  | .iinc k n => match L.lookup k with
    | some (.int x) => if k < nL then some (xst1 L k (.int (x + Int32.ofInt n)), st) else none
    | _ => none
  | _ => none
def xjmp (pc : Nat) (off : Int) : Option Nat := if 0 ≤ (pc : Int) + off then some ((pc : Int) + off).toNat else none
def xcond (q : ClassFile.Cond) (x y : Int32) : Bool := match q with
  | .eq => decide (x = y)
  | .ne => decide (¬ x = y)
  | .lt => decide (x < y)
  | .ge => decide (y ≤ x)
  | .gt => decide (y < x)
  | .le => decide (x ≤ y)
/-- jumps -/
def xs3 (pc : Nat) (i : Instr) (st : List Value) : Option (Nat × List Value) := match i, st with
  | .goto off, r => (xjmp pc off).map (fun t => (t, r))
  | .ifCond q off, .int x :: r => match xjmp pc off with
    | some t => if xcond q x 0 = true then some (t, r) else some (pc + 3, r)
    | none => none
  | .if_icmp q off, .int y :: .int x :: r => match xjmp pc off with
    | some t => if xcond q x y = true then some (t, r) else some (pc + 3, r)
    | none => none
  | .tableswitch d lo hi offs, .int x :: r => if x.toInt < lo ∨ hi < x.toInt then (xjmp pc d).map (fun t => (t, r)) else match offs[(x.toInt - lo).toNat]? with
    | some off => (xjmp pc off).map (fun t => (t, r))
    | none => none
  | .lookupswitch d ps, .int x :: r => if (ps.toList.zip (ps.toList.drop 1)).all (fun (a, next) => a.1 < next.1) = true then (xjmp pc (Op.lookupswitch.offset ps.toList d x.toInt)).map (fun t => (t, r)) else none
  | _, _ => none
def xprim : FieldType → Bool
  | .int | .long | .byte | .boolean => true
  | _ => false
/-- the heap, nothing new -/
def xs4 (fld : Nat → Option (Nat × Nat)) (put : Nat → Option (Nat × Nat × FieldType)) (exf : Nat → Option Nat) (sta : Nat → Option Value) (byt : List (List Int32)) (sc : xS) (i : Instr) (st : List Value) (h : xH) : Option (List Value × xH) := match i, st with
  | .getfield k, .ref a :: r => match fld k, h[a]? with
    | some (ci, j), some (.inr (cj, fs)) => if ci = cj then match fs[j]? with
      | some v => some (v :: r, h)
      | none => none else none
    | _, _ => none
  | .getfield k, .retAddr e :: r => if e % 2 = 1 ∧ e / 2 < byt.length then match exf k with
    | some 0 => if e = 999 then none else some (.retAddr (2 * (e / 2) + 2) :: r, h)
    | some 1 => some (.int 0 :: r, h)
    | _ => none else none
  | .getstatic k, r => match sta k with
    | some v => some (v :: r, h)
    | none => none
  | .putfield k, v :: .ref a :: r => match put k, h[a]? with
    | some (ci, j, ty), some (.inr (cj, fs)) => if ci = cj ∧ j < fs.length ∧ narrow ty v = v ∧ fits ty v = true then some (r, h.set a (.inr (cj, fs.set j v))) else none
    | _, _ => none
  | .arraylength, .ref a :: r => match h[a]? with
    | some (.inl (ty, x)) => if xprim ty = true then some (.int (Int32.ofNat x.1) :: r, h) else none
    | _ => none
  | .arraylength, .retAddr e :: r => if e = 0 then some (.int (Int32.ofNat sc.1) :: r, h) else if (e % 2 = 0 ∧ ¬ e = 1000) ∧ e / 2 - 1 < byt.length then some (.int (Int32.ofNat (byt.getD (e / 2 - 1) []).length) :: r, h) else none
  | .iaload, .int j :: .ref a :: r => match h[a]? with
    | some (.inl (.int, n, .inl f)) => if j < 0 ∨ n ≤ j.toNatClampNeg then none else some (.int (f j.toNatClampNeg) :: r, h)
    | _ => none
  | .iaload, .int j :: .retAddr e :: r => if e ≠ 0 ∨ j < 0 ∨ sc.1 ≤ j.toNatClampNeg then none else some (.int (sc.2 j.toNatClampNeg) :: r, h)
  | .laload, .int j :: .ref a :: r => match h[a]? with
    | some (.inl (.long, n, .inr (.inl f))) => if j < 0 ∨ n ≤ j.toNatClampNeg then none else some (.long (f j.toNatClampNeg) :: r, h)
    | _ => none
  | .baload, .int j :: .ref a :: r => match h[a]? with
    | some (.inl (.byte, n, .inl f)) => if j < 0 ∨ n ≤ j.toNatClampNeg then none else some (.int (f j.toNatClampNeg) :: r, h)
    | some (.inl (.boolean, n, .inl f)) => if j < 0 ∨ n ≤ j.toNatClampNeg then none else some (.int (f j.toNatClampNeg) :: r, h)
    | _ => none
  | .baload, .int j :: .retAddr e :: r => if (e = 0 ∨ e % 2 = 1 ∨ e = 1000 ∨ byt.length ≤ e / 2 - 1) ∨ j < 0 ∨ (byt.getD (e / 2 - 1) []).length ≤ j.toNatClampNeg then none else some (.int ((byt.getD (e / 2 - 1) []).getD j.toNatClampNeg 0) :: r, h)
  | .iastore, .int x :: .int j :: .ref a :: r => match h[a]? with
    | some (.inl (.int, n, .inl f)) => if j < 0 ∨ n ≤ j.toNatClampNeg then none else some (r, h.set a (.inl (.int, n, .inl (upd f j.toNatClampNeg x))))
    | _ => none
  | .lastore, .long x :: .int j :: .ref a :: r => match h[a]? with
    | some (.inl (.long, n, .inr (.inl f))) => if j < 0 ∨ n ≤ j.toNatClampNeg then none else some (r, h.set a (.inl (.long, n, .inr (.inl (vp_updL f j.toNatClampNeg x)))))
    | _ => none
  | .bastore, .int x :: .int j :: .ref a :: r => match h[a]? with
    | some (.inl (.byte, n, .inl f)) => if j < 0 ∨ n ≤ j.toNatClampNeg then none else some (r, h.set a (.inl (.byte, n, .inl (upd f j.toNatClampNeg x.toInt8.toInt32))))
    | some (.inl (.boolean, n, .inl f)) => if j < 0 ∨ n ≤ j.toNatClampNeg then none else some (r, h.set a (.inl (.boolean, n, .inl (upd f j.toNatClampNeg (x &&& 1)))))
    | _ => none
  | _, _ => none
/-- may a method that answers ty end so? -/
def xret (i : Instr) (ty : Option FieldType) (v : Option Value) : Bool := match i, ty, v with
  | .return_, none, none => true
  | .ireturn, some ty, some (.int x) => decide (narrow ty (.int x) = .int x)
  | .lreturn, some .long, some (.long _) => true
  | .areturn, some (.object _), some (.retAddr e) => decide (¬ e = 1000)
  | _, _, _ => false
/-- a new array -/
def xnew (t : ArrayType) (n : Nat) : Option xE := match t with
  | .int => some (.inl (.int, n, .inl (fun _ => 0)))
  | .long => some (.inl (.long, n, .inr (.inl (fun _ => 0))))
  | .byte => some (.inl (.byte, n, .inl (fun _ => 0)))
  | .boolean => some (.inl (.boolean, n, .inl (fun _ => 0)))
  | _ => none
def xadd (k n : Nat) (r : Option xR) : Option xR := match r with
  | some (v, h, a, b) => some (v, h, k + a, n + b)
  | none => none
/-- which sort an instruction is: 1 stack, 2 dups, 3 locals, 4 jumps, 5 heap, 6 ends, 7 new, 8 newarray, 9 calls -/
def xsort : Instr → Nat
  | .dup | .pop | .pop2 | .dup_x1 | .dup_x2 | .dup2 | .dup2_x1 | .dup2_x2 => 2
  | .iconst _ | .bipush _ | .sipush _ | .lconst _ | .aconst_null | .ldc _ | .ldc2_w _ | .iload _ | .iload_n _ | .lload _ | .lload_n _ | .aload _ | .aload_n _ | .istore _ | .istore_n _ | .lstore _ | .lstore_n _ | .astore _ | .astore_n _ | .iinc _ _ => 3
  | .goto _ | .ifCond _ _ | .if_icmp _ _ | .tableswitch _ _ _ _ | .lookupswitch _ _ => 4
  | .getfield _ | .getstatic _ | .putfield _ | .arraylength | .iaload | .laload | .baload | .iastore | .lastore | .bastore => 5
  | .return_ | .ireturn | .lreturn | .areturn => 6
  | .new _ => 7
  | .newarray _ => 8
  | .invokevirtual _ | .invokespecial _ | .invokestatic _ => 9
  | _ => 1
/-- arrays copied: kind 7 -/
def xcopy (st : List Value) (h : xH) : Option (List Value × xH) := match st with
  | .int n :: .int dp :: .ref a1 :: .int sp :: .ref a0 :: r => if n < 0 ∨ dp < 0 ∨ sp < 0 ∨ 8 < (r.map (fun v => v.category)).sum then none else match h[a0]?, h[a1]? with
    | some (.inl (.int, n0, .inl f)), some (.inl (.int, n1, .inl g)) => if sp.toNatClampNeg + n.toNatClampNeg ≤ n0 ∧ dp.toNatClampNeg + n.toNatClampNeg ≤ n1 then some (r, h.set a1 (.inl (.int, n1, .inl (va_cpy f g sp.toNatClampNeg dp.toNatClampNeg n.toNatClampNeg)))) else none
    | some (.inl (.long, n0, .inr (.inl f))), some (.inl (.long, n1, .inr (.inl g))) => if sp.toNatClampNeg + n.toNatClampNeg ≤ n0 ∧ dp.toNatClampNeg + n.toNatClampNeg ≤ n1 then some (r, h.set a1 (.inl (.long, n1, .inr (.inl (va_cpy f g sp.toNatClampNeg dp.toNatClampNeg n.toNatClampNeg))))) else none
    | some (.inl (.byte, n0, .inl f)), some (.inl (.byte, n1, .inl g)) => if (sp.toNatClampNeg + n.toNatClampNeg ≤ n0 ∧ dp.toNatClampNeg + n.toNatClampNeg ≤ n1) ∧ (List.range n.toNatClampNeg).all (fun i => fits .byte (.int (f (sp.toNatClampNeg + i)))) = true then some (r, h.set a1 (.inl (.byte, n1, .inl (va_cpy f g sp.toNatClampNeg dp.toNatClampNeg n.toNatClampNeg)))) else none
    | _, _ => none
  | _ => none
/-- are the values as that kind of call wants them? -/
def xhead (nb kind ci : Nat) (as : List Value) (h : xH) : Bool := match kind, as with
  | 0, .retAddr e :: _ => ci == 98 && e % 2 == 1 && decide (e / 2 < nb)
  | 0, .ref a :: _ => match h[a]? with
    | some (.inr (cj, _)) => ci == cj && !(ci == 98)
    | _ => false
  | 1, _ => true
  | 4, .ref _ :: _ => true
  | 5, .ref _ :: _ => true
  | _, _ => false
/-- calls: 0 virtual, 1 static, 4 a constructor, 5 a nest mate's, 6 Object's, 7 arraycopy, 8 Math.max, 9 Math.min -/
def xlink (mth : Nat → Option (Nat × Nat × Nat × Nat)) (i : Instr) : Option (Nat × Nat × Nat × Nat) := match i with
  | .invokevirtual k => match mth k with
    | some (0, r) => some (0, r)
    | _ => none
  | .invokestatic k => match mth k with
    | some (1, r) => some (1, r)
    | some (7, r) => some (7, r)
    | some (8, r) => some (8, r)
    | some (9, r) => some (9, r)
    | _ => none
  | .invokespecial k => match mth k with
    | some (4, r) => some (4, r)
    | some (5, r) => some (5, r)
    | some (6, r) => some (6, r)
    | _ => none
  | _ => none
/-- THE EVALUATOR: at most n steps in a row, d calls deep; method M at pc with locals L, stack st, heap h -/
def xev (G : xG) (sc : xS) : Nat → Nat → Nat → Nat → xL → List Value → xH → Option xR
  | 0, _, _, _, _, _, _ => none
  | n + 1, d, M, pc, L, st, h => match xIns G M pc with
    | none => none
    | some i => match xsort i with
      | 1 => match xs1 i st with
        | some st' => xev G sc n d M (pc + 1) L st' h
        | none => none
      | 2 => match xs1d i st with
        | some st' => xev G sc n d M (pc + 1) L st' h
        | none => none
      | 3 => match xs2 (xCon G M) (xStr G M) (xMet G M).2.2.1 i L st with
        | some (L', st') => xev G sc n d M (pc + xlen i) L' st' h
        | none => none
      | 4 => match xs3 pc i st with
        | some (pc', st') => xev G sc n d M pc' L st' h
        | none => none
      | 5 => match xs4 (xFld G M) (xPut G M) (xExf G M) (xSta G M) (xByt G) sc i st h with
        | some (st', h') => xev G sc n d M (pc + xlen i) L st' h'
        | none => none
      | 6 => match st with
        | [] => if xret i (xMet G M).2.2.2 none = true then some (none, h, 0, 0) else none
        | [v] => if xret i (xMet G M).2.2.2 (some v) = true then some (some v, h, 0, 0) else none
        | _ => none
      | 7 => match i with
        | .new k => match xCls G M k with
          | some ci => xadd 1 (xDfl G ci).length (xev G sc n d M (pc + 3) L (.ref h.length :: st) (h ++ [.inr (ci, xDfl G ci)]))
          | none => none
        | _ => none
      | 8 => match i, st with
        | .newarray t, .int k :: r => if k < 0 ∨ 1000000 < k.toNatClampNeg then none else match xnew t k.toNatClampNeg with
          | some c => xadd 1 k.toNatClampNeg (xev G sc n d M (pc + 2) L (.ref h.length :: r) (h ++ [c]))
          | none => none
        | _, _ => none
      | 9 => match d, xlink (xMth G M) i with
        | d' + 1, some (kind, N, k, ci) => match kind with
          | 6 => match st with
            | .ref _ :: r => if 8 < (r.map (fun v => v.category)).sum then none else xev G sc n (d' + 1) M (pc + 3) L r h
            | _ => none
          | 7 => match xcopy st h with
            | some (st', h') => xev G sc n (d' + 1) M (pc + 3) L st' h'
            | none => none
          | 8 => match st with
            | .int y :: .int x :: r => if 8 < (r.map (fun v => v.category)).sum then none else xev G sc n (d' + 1) M (pc + 3) L (.int (if x < y then y else x) :: r) h
            | _ => none
          | 9 => match st with
            | .int y :: .int x :: r => if 8 < (r.map (fun v => v.category)).sum then none else xev G sc n (d' + 1) M (pc + 3) L (.int (if y < x then y else x) :: r) h
            | _ => none
          | _ => if st.length < k ∨ 8 < ((st.drop k).map (fun v => v.category)).sum ∨ (xMet G N).2.2.1 < (lg_sl (st.take k).reverse).length ∨ xhead (xByt G).length kind ci (st.take k).reverse h = false then none else match xev G sc n d' N 0 (lv_args 0 (st.take k).reverse) [] h with
            | some (v, h', a, b) => xadd a b (xev G sc n (d' + 1) M (pc + 3) L (v.toList ++ st.drop k) h')
            | none => none
        | _, _ => none
      | _ => none
