/-! what a zrun is: the instructions over cells that are places in a list -/
def putL : Lc → Nat → Option Value → Lc
  | [], _, _ => []
  | _ :: l, 0, v => v :: l
  | a :: l, n + 1, v => a :: putL l n v
/-- no long's second half is at place i -/
def okSt (L : Lc) (i : Nat) : Bool := match i with
  | 0 => true
  | j + 1 => match nth L j with
    | some (some (.long _)) => false
    | _ => true
def st1 (L : Lc) (i : Nat) (v : Value) : Lc := putL L i (some v)
def st2 (L : Lc) (i : Nat) (v : Value) : Lc := putL (putL L i (some v)) (i + 1) none
def ci (n : Nat) (neg : Bool) : Int32 := match neg with
  | false => nI n
  | true => -(nI n)
def cl8 (n : Nat) (neg : Bool) : Int64 := match neg with
  | false => lN n
  | true => -(lN n)
def setH : Hp → Nat → Cl → Hp
  | [], _, _ => []
  | _ :: h, 0, c => c :: h
  | a :: h, n + 1, c => a :: setH h n c
def setV : List Value → Nat → Value → List Value
  | [], _, _ => []
  | _ :: h, 0, c => c :: h
  | a :: h, n + 1, c => a :: setV h n c
def catS : List Value → Nat
  | [] => 0
  | .long _ :: r => catS r + 2
  | .double _ :: r => catS r + 2
  | _ :: r => catS r + 1
abbrev Rs : Type := Option (Nat × Lc × List Value × Hp)
def s_ldi (i nx : Nat) (L : Lc) (st : List Value) (h : Hp) : Rs := match nth L i with
  | some (some (.int x)) => some (nx, L, .int x :: st, h)
  | _ => none
def s_ldl (i nx : Nat) (L : Lc) (st : List Value) (h : Hp) : Rs := match nth L i with
  | some (some (.long x)) => some (nx, L, .long x :: st, h)
  | _ => none
def s_lda (i nx : Nat) (L : Lc) (st : List Value) (h : Hp) : Rs := match nth L i with
  | some (some (.ref x)) => some (nx, L, .ref x :: st, h)
  | some (some .null) => some (nx, L, .null :: st, h)
  | _ => none
def s_sti (i nx : Nat) (L : Lc) (st : List Value) (h : Hp) : Rs := match st with
  | .int x :: r => bif Nat.blt i L.length && okSt L i then some (nx, st1 L i (.int x), r, h) else none
  | _ => none
def s_stl (i nx : Nat) (L : Lc) (st : List Value) (h : Hp) : Rs := match st with
  | .long x :: r => bif Nat.blt (i + 1) L.length && okSt L i then some (nx, st2 L i (.long x), r, h) else none
  | _ => none
def s_sta (i nx : Nat) (L : Lc) (st : List Value) (h : Hp) : Rs := match st with
  | .ref x :: r => bif Nat.blt i L.length && okSt L i then some (nx, st1 L i (.ref x), r, h) else none
  | .null :: r => bif Nat.blt i L.length && okSt L i then some (nx, st1 L i .null, r, h) else none
  | _ => none
def s_inc (i nx : Nat) (neg : Bool) (sw : List (Nat × Nat)) (L : Lc) (st : List Value) (h : Hp) : Rs := match nth L i, sw with
  | some (some (.int x)), (n, _) :: _ => bif okSt L i then some (nx, st1 L i (.int (x + ci n neg)), st, h) else none
  | _, _ => none
def s_ii (f : Int32 → Int32 → Int32) (nx : Nat) (L : Lc) (st : List Value) (h : Hp) : Rs := match st with
  | .int y :: .int x :: r => some (nx, L, .int (f x y) :: r, h)
  | _ => none
def s_iid (f : Int32 → Int32 → Int32) (nx : Nat) (L : Lc) (st : List Value) (h : Hp) : Rs := match st with
  | .int y :: .int x :: r => if y = 0 then none else some (nx, L, .int (f x y) :: r, h)
  | _ => none
def s_i (f : Int32 → Value) (nx : Nat) (L : Lc) (st : List Value) (h : Hp) : Rs := match st with
  | .int x :: r => some (nx, L, f x :: r, h)
  | _ => none
def s_ll (f : Int64 → Int64 → Value) (nx : Nat) (L : Lc) (st : List Value) (h : Hp) : Rs := match st with
  | .long y :: .long x :: r => some (nx, L, f x y :: r, h)
  | _ => none
def s_lld (f : Int64 → Int64 → Value) (nx : Nat) (L : Lc) (st : List Value) (h : Hp) : Rs := match st with
  | .long y :: .long x :: r => if y = 0 then none else some (nx, L, f x y :: r, h)
  | _ => none
def s_l (f : Int64 → Value) (nx : Nat) (L : Lc) (st : List Value) (h : Hp) : Rs := match st with
  | .long x :: r => some (nx, L, f x :: r, h)
  | _ => none
def s_li (f : Int64 → Int32 → Value) (nx : Nat) (L : Lc) (st : List Value) (h : Hp) : Rs := match st with
  | .int y :: .long x :: r => some (nx, L, f x y :: r, h)
  | _ => none
def s_k (v : Value) (nx : Nat) (L : Lc) (st : List Value) (h : Hp) : Rs := some (nx, L, v :: st, h)
def cat1 : Value → Bool
  | .long _ => false
  | .double _ => false
  | _ => true
def s_dup (nx : Nat) (L : Lc) (st : List Value) (h : Hp) : Rs := match st with
  | v :: r => bif cat1 v then some (nx, L, v :: v :: r, h) else none
  | _ => none
def s_pop (nx : Nat) (L : Lc) (st : List Value) (h : Hp) : Rs := match st with
  | v :: r => bif cat1 v then some (nx, L, r, h) else none
  | _ => none
def s_dup2 (nx : Nat) (L : Lc) (st : List Value) (h : Hp) : Rs := match st with
  | v :: w :: r => bif cat1 v && cat1 w then some (nx, L, v :: w :: v :: w :: r, h) else none
  | _ => none
def b_icmp (o : Jvm.ClassFile.Cond) (nx tg : Nat) (x y : Int32) : Nat := match o with
  | .eq => if x = y then tg else nx
  | .ne => if x = y then nx else tg
  | .lt => if x < y then tg else nx
  | .ge => if x < y then nx else tg
  | .gt => if y < x then tg else nx
  | .le => if y < x then nx else tg
def s_icmp (o : Jvm.ClassFile.Cond) (nx tg : Nat) (L : Lc) (st : List Value) (h : Hp) : Rs := match st with
  | .int y :: .int x :: r => some (b_icmp o nx tg x y, L, r, h)
  | _ => none
def s_if (o : Jvm.ClassFile.Cond) (nx tg : Nat) (L : Lc) (st : List Value) (h : Hp) : Rs := match st with
  | .int x :: r => some (b_icmp o nx tg x (nI 0), L, r, h)
  | _ => none
def s_ifnull (nx tg : Nat) (L : Lc) (st : List Value) (h : Hp) : Rs := match st with
  | .null :: r => some (tg, L, r, h)
  | .ref _ :: r => some (nx, L, r, h)
  | _ => none
def s_ifnn (nx tg : Nat) (L : Lc) (st : List Value) (h : Hp) : Rs := match st with
  | .null :: r => some (nx, L, r, h)
  | .ref _ :: r => some (tg, L, r, h)
  | _ => none
def b_sw (x : Int32) (d : Nat) : List (Nat × Nat) → Nat
  | [] => d
  | (k, t) :: l => if x = nI k then t else b_sw x d l
def s_sw (d : Nat) (sw : List (Nat × Nat)) (L : Lc) (st : List Value) (h : Hp) : Rs := match st with
  | .int x :: r => some (b_sw x d sw, L, r, h)
  | _ => none
/-- a field's value is of its type -/
def okf (ty : FieldType) (v : Value) : Bool := match ty, v with
  | .int, .int _ => true
  | .boolean, .int x => decide (x = 0) || decide (x = 1)
  | .long, .long _ => true
  | .object _, .ref _ => true
  | .array _, .ref _ => true
  | _, _ => false
def s_get (k nx : Nat) (sw : List (Nat × Nat)) (L : Lc) (st : List Value) (h : Hp) : Rs := match st, sw with
  | .ref a :: r, (c, _) :: _ => match nth h a with
    | some (t, fs) => bif Nat.beq t c then (match nth fs k with
      | some v => some (nx, L, v :: r, h)
      | none => none) else none
    | none => none
  | _, _ => none
def s_put (tys : Nat → Nat → FieldType) (k nx : Nat) (sw : List (Nat × Nat)) (L : Lc) (st : List Value) (h : Hp) : Rs := match st, sw with
  | v :: .ref a :: r, (c, _) :: _ => match nth h a with
    | some (t, fs) => bif Nat.beq t c && (Nat.blt k fs.length && okf (tys c k) v) then some (nx, L, r, setH h a (t, setV fs k v)) else none
    | none => none
  | _, _ => none
def ix (x : Int32) (n : Nat) : Option Nat := if x < 0 then none else if x.toNatClampNeg < n then some x.toNatClampNeg else none
def s_ald (tags : List Nat) (nx : Nat) (L : Lc) (st : List Value) (h : Hp) : Rs := match st with
  | .int i :: .ref a :: r => match nth h a with
    | some (t, fs) => bif tags.any (fun q => Nat.beq t q) then (match ix i fs.length with
      | some j => (match nth fs j with
        | some v => some (nx, L, v :: r, h)
        | none => none)
      | none => none) else none
    | none => none
  | _ => none
def s_ast (tag : Nat) (ok : Hp → Value → Bool) (nx : Nat) (L : Lc) (st : List Value) (h : Hp) : Rs := match st with
  | v :: .int i :: .ref a :: r => match nth h a with
    | some (t, fs) => bif Nat.beq t tag && ok h v then (match ix i fs.length with
      | some j => some (nx, L, r, setH h a (t, setV fs j v))
      | none => none) else none
    | none => none
  | _ => none
def s_len (nx : Nat) (L : Lc) (st : List Value) (h : Hp) : Rs := match st with
  | .ref a :: r => match nth h a with
    | some (t, fs) => bif Nat.ble 100 t then some (nx, L, .int (nI fs.length) :: r, h) else none
    | none => none
  | _ => none
def rep (n : Nat) (v : Value) : List Value := match n with
  | 0 => []
  | n + 1 => v :: rep n v
def s_newa (tag : Nat) (v : Value) (nx : Nat) (L : Lc) (st : List Value) (h : Hp) : Rs := match st with
  | .int n :: r => if n < 0 then none else bif Nat.ble n.toNatClampNeg 65536 then some (nx, L, .ref h.length :: r, h ++ [(tag, rep n.toNatClampNeg v)]) else none
  | _ => none
def dfl (ty : FieldType) : Value := match ty with
  | .int => .int 0
  | .boolean => .int 0
  | .long => .long 0
  | _ => .null
def s_new (c n nx : Nat) (tys : Nat → Nat → FieldType) (L : Lc) (st : List Value) (h : Hp) : Rs := some (nx, L, .ref h.length :: st, h ++ [(c, (List.range n).map (fun k => dfl (tys c k)))])
def s_obj (nx : Nat) (L : Lc) (st : List Value) (h : Hp) : Rs := match st with
  | .ref _ :: r => bif Nat.ble (catS r) 8 then some (nx, L, r, h) else none
  | _ => none
def cpyV (src : List Value) (sp dp : Nat) : Nat → List Value → List Value
  | 0, d => d
  | n + 1, d => match nth src (sp + n) with
    | some v => setV (cpyV src sp dp n d) (dp + n) v
    | none => cpyV src sp dp n d
def s_copy (nx : Nat) (L : Lc) (st : List Value) (h : Hp) : Rs := match st with
  | .int n :: .int dp :: .ref b :: .int sp :: .ref a :: r => match nth h a, nth h b with
    | some (ta, fa), some (tb, fb) => bif Nat.beq ta 101 && (Nat.beq tb 101 && Nat.ble (catS r) 8) then
        (if n < 0 ∨ sp < 0 ∨ dp < 0 then none else bif Nat.ble (sp.toNatClampNeg + n.toNatClampNeg) fa.length && Nat.ble (dp.toNatClampNeg + n.toNatClampNeg) fb.length then
          some (nx, L, r, setH h b (tb, cpyV fa sp.toNatClampNeg dp.toNatClampNeg n.toNatClampNeg fb)) else none) else none
    | _, _ => none
  | _ => none
def ft0 : List FieldType := [.array (.long), .array (.long), .int]
def ft1 : List FieldType := [.array (.int), .int, .int]
def ft2 : List FieldType := [.object "MinorTables$Grid", .object "MinorTables$Rows", .array (.long), .object "MinorTables$Rows", .object "MinorTables$Rows", .object "MinorTables$Rows", .object "MinorTables$Rows"]
def ft3 : List FieldType := [.array (.long), .array (.long), .int]
def ft4 : List FieldType := [.array (.long), .int, .int]
def ft5 : List FieldType := [.array (.int), .object "MinorTables$Rows", .int, .int, .int]
def ft6 : List FieldType := [.object "MinorTables$Scene", .object "MinorTables$Scene", .boolean, .object "MinorTables$Grid", .object "MinorTables$Straights", .object "MinorTables$Text", .array (.object "MinorTables$Tape"), .array (.long), .array (.long), .array (.long)]
def ft7 : List FieldType := [.int, .array (.int), .array (.int), .array (.int), .array (.int), .int, .array (.long), .array (.long), .int, .array (.int), .array (.int), .array (.int), .array (.long), .array (.long), .array (.int), .int, .int, .boolean, .array (.int), .array (.int), .array (.int), .array (.int), .int, .array (.int), .array (.int), .array (.int), .int, .array (.int), .array (.int), .int, .array (.int), .array (.int), .int, .array (.int), .array (.int), .array (.long), .array (.long), .int, .array (.int), .array (.int), .array (.int), .array (.int), .array (.int), .array (.int), .array (.int), .int, .int, .int, .int, .int]
def ftall : List (List FieldType) := [ft0, ft1, ft2, ft3, ft4, ft5, ft6, ft7]
def fty (c k : Nat) : FieldType := match nth ftall c with
  | some l => (match nth l k with
    | some t => t
    | none => .int)
  | none => .int
def nfs (c : Nat) : Nat := match nth ftall c with
  | some l => l.length
  | none => 0
def lcm (x y : Int64) : Int32 := lg_cmp x y
def s_nat (w nx : Nat) (L : Lc) (st : List Value) (h : Hp) : Rs := bif Nat.beq w 999 then s_copy nx L st h else match st with
  | .int y :: .int x :: r => bif Nat.ble (catS r) 8 then (bif Nat.beq w 990 then some (nx, L, .int (if x < y then y else x) :: r, h) else bif Nat.beq w 991 then some (nx, L, .int (if y < x then y else x) :: r, h) else none) else none
  | .long y :: .long x :: r => bif Nat.ble (catS r) 8 then (bif Nat.beq w 992 then some (nx, L, .long (if y < x then x else y) :: r, h) else bif Nat.beq w 993 then some (nx, L, .long (if y < x then y else x) :: r, h) else bif Nat.beq w 994 then some (nx, L, .long (if 0 < y then y else -y) :: .long x :: r, h) else none) else none
  | .long y :: r => bif Nat.ble (catS r) 8 && Nat.beq w 994 then some (nx, L, .long (if 0 < y then y else -y) :: r, h) else none
  | _ => none
def isTape (h : Hp) (v : Value) : Bool := match v with
  | .ref b => (match nth h b with
    | some (t, _) => Nat.beq t 4
    | none => false)
  | _ => false
def isI (_ : Hp) (v : Value) : Bool := match v with
  | .int _ => true
  | _ => false
def isJ (_ : Hp) (v : Value) : Bool := match v with
  | .long _ => true
  | _ => false
def kI (n : Nat) (neg : Bool) : Value := match neg with
  | false => .int (nI n)
  | true => .int (-(nI n))
def kJ (n : Nat) (neg : Bool) : Value := match neg with
  | false => .long (lN n)
  | true => .long (-(lN n))
def shlI (x y : Int32) : Int32 := x <<< (y &&& 31)
def shrI (x y : Int32) : Int32 := x >>> (y &&& 31)
def ushI (x y : Int32) : Int32 := (x.toUInt32 >>> (y.toUInt32 &&& Int32.toUInt32 31)).toInt32
def remI (x y : Int32) : Int32 := x - x / y * y
def stepI : AI → Lc → List Value → Hp → Rs
  | (ins, nx, aux, neg, sw), L, st, h => match ins with
  | .aload_n _ => s_lda aux nx L st h
  | .aload _ => s_lda aux nx L st h
  | .iload_n _ => s_ldi aux nx L st h
  | .iload _ => s_ldi aux nx L st h
  | .lload_n _ => s_ldl aux nx L st h
  | .lload _ => s_ldl aux nx L st h
  | .istore_n _ => s_sti aux nx L st h
  | .istore _ => s_sti aux nx L st h
  | .lstore_n _ => s_stl aux nx L st h
  | .lstore _ => s_stl aux nx L st h
  | .astore_n _ => s_sta aux nx L st h
  | .astore _ => s_sta aux nx L st h
  | .iinc _ _ => s_inc aux nx neg sw L st h
  | .iconst _ => s_k (kI aux neg) nx L st h
  | .bipush _ => s_k (kI aux neg) nx L st h
  | .sipush _ => s_k (kI aux neg) nx L st h
  | .ldc_w _ => s_k (kI aux neg) nx L st h
  | .lconst _ => s_k (kJ aux neg) nx L st h
  | .ldc2_w _ => s_k (kJ aux neg) nx L st h
  | .aconst_null => s_k .null nx L st h
  | .iadd => s_ii HAdd.hAdd nx L st h
  | .isub => s_ii HSub.hSub nx L st h
  | .imul => s_ii HMul.hMul nx L st h
  | .iand => s_ii HAnd.hAnd nx L st h
  | .ixor => s_ii HXor.hXor nx L st h
  | .ishl => s_ii shlI nx L st h
  | .ishr => s_ii shrI nx L st h
  | .iushr => s_ii ushI nx L st h
  | .idiv => s_iid HDiv.hDiv nx L st h
  | .irem => s_iid remI nx L st h
  | .ineg => s_i (fun x => .int (-x)) nx L st h
  | .i2l => s_i (fun x => .long x.toInt64) nx L st h
  | .i2b => s_i (fun x => .int x.toInt8.toInt32) nx L st h
  | .i2s => s_i (fun x => .int x.toInt16.toInt32) nx L st h
  | .ladd => s_ll (fun x y => .long (x + y)) nx L st h
  | .lsub => s_ll (fun x y => .long (x - y)) nx L st h
  | .lmul => s_ll (fun x y => .long (x * y)) nx L st h
  | .land => s_ll (fun x y => .long (x &&& y)) nx L st h
  | .lor => s_ll (fun x y => .long (x ||| y)) nx L st h
  | .ldiv => s_lld (fun x y => .long (x / y)) nx L st h
  | .lrem => s_lld (fun x y => .long (x - x / y * y)) nx L st h
  | .lneg => s_l (fun x => .long (-x)) nx L st h
  | .l2i => s_l (fun x => .int x.toInt32) nx L st h
  | .lshl => s_li (fun x y => .long (x <<< (y.toInt64 &&& 63))) nx L st h
  | .lcmp => s_ll (fun x y => .int (lcm x y)) nx L st h
  | .dup => s_dup nx L st h
  | .dup2 => s_dup2 nx L st h
  | .pop => s_pop nx L st h
  | .goto _ => some (aux, L, st, h)
  | .if_icmp o _ => s_icmp o nx aux L st h
  | .ifCond o _ => s_if o nx aux L st h
  | .ifnull _ => s_ifnull nx aux L st h
  | .ifnonnull _ => s_ifnn nx aux L st h
  | .tableswitch _ _ _ _ => s_sw aux sw L st h
  | .getfield _ => s_get aux nx sw L st h
  | .putfield _ => s_put fty aux nx sw L st h
  | .iaload => s_ald [100, 103] nx L st h
  | .laload => s_ald [101] nx L st h
  | .aaload => s_ald [102] nx L st h
  | .iastore => s_ast 100 isI nx L st h
  | .lastore => s_ast 101 isJ nx L st h
  | .aastore => s_ast 102 isTape nx L st h
  | .arraylength => s_len nx L st h
  | .newarray _ => s_newa aux (bif Nat.beq aux 100 then .int 0 else .long 0) nx L st h
  | .anewarray _ => s_newa 102 .null nx L st h
  | .new _ => s_new aux (nfs aux) nx fty L st h
  | .invokespecial _ => s_obj nx L st h
  | .invokestatic _ => s_nat aux nx L st h
  | _ => none
/-- 0 a step, 1 a call, 2 an end -/
def kindI (a : AI) : Nat := match a.1 with
  | .invokevirtual _ => 1
  | .invokespecial _ => bif Nat.beq a.2.2.1 998 then 0 else 1
  | .invokestatic _ => bif Nat.ble 990 a.2.2.1 then 0 else 1
  | .ireturn => 2
  | .lreturn => 2
  | .areturn => 2
  | .return_ => 2
  | _ => 0
def popN : Nat → List Value → List Value → Option (List Value × List Value)
  | 0, st, acc => some (acc, st)
  | _ + 1, [], _ => none
  | n + 1, v :: st, acc => popN n st (v :: acc)
def padL : Nat → Lc
  | 0 => []
  | n + 1 => none :: padL n
def argL : List Value → Lc
  | [] => []
  | .long x :: r => some (.long x) :: none :: argL r
  | v :: r => some v :: argL r
def fitL (n : Nat) (L : Lc) : Option Lc := bif Nat.ble L.length n then some (L ++ padL (n - L.length)) else none
def entL (u : Nat) (args : List Value) : Option Lc := match mi u with
  | some (_, n, _) => fitL n (argL args)
  | none => none
def recvOk (tags : List Nat) (args : List Value) (h : Hp) : Bool := match tags with
  | [] => true
  | t :: _ => match args with
    | .ref a :: _ => (match nth h a with
      | some (q, _) => Nat.beq q t
      | none => false)
    | _ => false
def zcall (a : AI) (st : List Value) (h : Hp) : Option (List Value × List Value) := match mi a.2.2.1 with
  | some (n, _, tags) => (match popN n st [] with
    | some (args, rest) => bif recvOk tags args h && Nat.ble (catS rest) 8 then some (args, rest) else none
    | none => none)
  | none => none
def retI (a : AI) (st : List Value) : Option (Option Value) := match a.1, st with
  | .ireturn, [.int x] => bif Nat.beq a.2.2.1 0 || (decide (x = 0) || decide (x = 1)) then some (some (.int x)) else none
  | .lreturn, [.long x] => some (some (.long x))
  | .areturn, [.ref x] => some (some (.ref x))
  | .areturn, [.null] => some (some .null)
  | .return_, [] => some none
  | _, _ => none
def pushV (v : Option Value) (r : List Value) : List Value := match v with
  | some x => x :: r
  | none => r
def zrun : Nat → Nat → Nat → Nat → Lc → List Value → Hp → Option (Option Value × Hp)
  | 0, _, _, _, _, _, _ => none
  | k + 1, d, u, pc, L, st, h => match codeAt u pc with
    | none => none
    | some a => match kindI a with
      | 0 => (match stepI a L st h with
        | some (pc', L', st', h') => zrun k d u pc' L' st' h'
        | none => none)
      | 1 => (match d, zcall a st h with
        | d' + 1, some (args, rest) => (match entL a.2.2.1 args with
          | some L' => (match zrun k d' a.2.2.1 0 L' [] h with
            | some (v, h') => zrun k (d' + 1) u a.2.1 L (pushV v rest) h'
            | none => none)
          | none => none)
        | _, _ => none)
      | _ => (match retI a st with
        | some v => some (v, h)
        | none => none)
