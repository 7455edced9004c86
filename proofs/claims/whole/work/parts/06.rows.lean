/-! every row of the code tables is what the bytes say, and what it names is in the tables -/
def zrOf (r : Option FieldType) : Nat := match r with
  | none => 0
  | some .int => 1
  | some .boolean => 2
  | some .long => 3
  | some (.object _) => 4
  | _ => 5
def swOk (pc : Nat) (lo hi : Int) (offs : Array Int) (sw : List (Nat × Nat)) : Bool := decide (0 ≤ lo) && (decide (hi < 1000) && (decide (sw.map (fun q => ((q.1 : Int), (q.2 : Int))) = (List.range sw.length).map (fun (i : Nat) => (lo + (i : Int), (pc : Int) + offs.toList.getD i 0))) && (decide (offs.toList.length = sw.length) && decide (hi - lo + 1 = (sw.length : Int)))))
def opOk (oc : Nat) (ini : Bool) (zr pc len : Nat) (ins : Jvm.ClassFile.Instr) (aux : Nat) (neg : Bool) (sw : List (Nat × Nat)) : Bool := match ins with
  | .aload_n n => Nat.beq aux n.val && Nat.beq len 1
  | .iload_n n => Nat.beq aux n.val && Nat.beq len 1
  | .lload_n n => Nat.beq aux n.val && Nat.beq len 1
  | .istore_n n => Nat.beq aux n.val && Nat.beq len 1
  | .lstore_n n => Nat.beq aux n.val && Nat.beq len 1
  | .astore_n n => Nat.beq aux n.val && Nat.beq len 1
  | .aload n => Nat.beq aux n && Nat.beq len 2
  | .iload n => Nat.beq aux n && Nat.beq len 2
  | .lload n => Nat.beq aux n && Nat.beq len 2
  | .istore n => Nat.beq aux n && Nat.beq len 2
  | .lstore n => Nat.beq aux n && Nat.beq len 2
  | .astore n => Nat.beq aux n && Nat.beq len 2
  | .iinc n c => Nat.beq aux n && Nat.beq len 3 && (match sw with
    | (k, _) :: _ => decide (Int32.ofInt c = ci k neg)
    | [] => false)
  | .iconst n => Nat.beq len 1 && decide (Int32.ofInt n = ci aux neg)
  | .bipush n => Nat.beq len 2 && decide ((Int8.ofInt n).toInt32 = ci aux neg)
  | .sipush n => Nat.beq len 3 && decide ((Int16.ofInt n).toInt32 = ci aux neg)
  | .lconst n => Nat.beq len 1 && decide (Int64.ofNat n.val = cl8 aux neg)
  | .ldc_w i => Nat.beq len 3 && decide (Cond.constant (cn oc) i (ci aux neg) ∈ zt)
  | .ldc2_w i => Nat.beq len 3 && decide (Cond.constantLong (cn oc) i (cl8 aux neg) ∈ zt)
  | .goto o => Nat.beq len 3 && decide ((pc : Int) + o = (aux : Int))
  | .if_icmp _ o => Nat.beq len 3 && decide ((pc : Int) + o = (aux : Int))
  | .ifCond _ o => Nat.beq len 3 && decide ((pc : Int) + o = (aux : Int))
  | .ifnull o => Nat.beq len 3 && decide ((pc : Int) + o = (aux : Int))
  | .ifnonnull o => Nat.beq len 3 && decide ((pc : Int) + o = (aux : Int))
  | .tableswitch d lo hi offs => decide ((pc : Int) + d = (aux : Int)) && swOk pc lo hi offs sw
  | .getfield i => Nat.beq len 3 && (match sw with
    | (c, _) :: _ => decide (frl oc i frt = some (c, aux))
    | [] => false)
  | .putfield i => Nat.beq len 3 && (match sw with
    | (c, _) :: _ => decide (frl oc i frt = some (c, aux)) && (!(fT c aux).2.2.2 || (ini && Nat.beq c oc))
    | [] => false)
  | .newarray t => Nat.beq len 2 && ((decide (t = .int) && Nat.beq aux 100) || (decide (t = .long) && Nat.beq aux 101))
  | .anewarray i => Nat.beq len 3 && decide (Cond.classLink (cn oc) i "MinorTables$Tape" ∈ zt)
  | .new i => Nat.beq len 3 && Nat.blt aux 8 && decide (Cond.classLink (cn oc) i (cn aux) ∈ zt)
  | .invokevirtual i => Nat.beq len 3 && decide (mrl oc i mrt = some (aux, false)) && (match sg aux with
    | some q => Nat.beq q.2.2.2.2.1 1
    | none => false)
  | .invokespecial i => Nat.beq len 3 && (decide (nrl oc i nrt = some aux) && Nat.beq aux 998 || ((decide (mrl oc i mrt = some (aux, false)) || decide (mrl oc i mrt = some (aux, true))) && (match sg aux with
    | some q => Nat.beq q.2.2.2.2.1 2
    | none => false)))
  | .invokestatic i => Nat.beq len 3 && (decide (nrl oc i nrt = some aux) && Nat.ble 990 aux && Nat.ble aux 999 || ((decide (mrl oc i mrt = some (aux, false)) || decide (mrl oc i mrt = some (aux, true))) && (match sg aux with
    | some q => Nat.beq q.2.2.2.2.1 0
    | none => false)))
  | .ireturn => Nat.beq len 1 && (Nat.beq zr 1 && Nat.beq aux 0 || Nat.beq zr 2 && Nat.beq aux 1)
  | .lreturn => Nat.beq len 1 && Nat.beq zr 3
  | .areturn => Nat.beq len 1 && Nat.beq zr 4
  | .return_ => Nat.beq len 1 && Nat.beq zr 0
  | _ => Nat.beq len 1
def rowOk (oc : Nat) (ini : Bool) (zr : Nat) (b : ByteArray) (q : Nat × AI) : Bool := match q with
  | (pc, ins, nx, aux, neg, sw) => match decode b pc with
    | .ok (i, len) => decide (i = ins) && (Nat.beq (pc + len) nx && opOk oc ini zr pc len ins aux neg sw)
    | _ => false
def ocOf (y : MethodName) : Nat := cnm.findIdx (fun z => z == y.cls)
def rowsU (u : Nat) : List (Nat × AI) := match nth kall (u / 16) with
  | some g => (match nth g (u % 16) with
    | some c => c.flatten
    | none => [])
  | none => []
def methOk (u : Nat) : Bool := match sg u with
  | some (y, b, _, r, _) => decide (cn (ocOf y) = y.cls) && (rowsU u).all (rowOk (ocOf y) (y.name == "<init>") (zrOf r) b)
  | none => false
theorem m_ok0 : (List.range 8).all (fun i => methOk (0 + i)) = true := by decide +kernel
theorem m_ok1 : (List.range 8).all (fun i => methOk (8 + i)) = true := by decide +kernel
theorem m_ok2 : (List.range 8).all (fun i => methOk (16 + i)) = true := by decide +kernel
theorem m_ok3 : (List.range 8).all (fun i => methOk (24 + i)) = true := by decide +kernel
theorem m_ok4 : (List.range 8).all (fun i => methOk (32 + i)) = true := by decide +kernel
theorem m_ok5 : (List.range 8).all (fun i => methOk (40 + i)) = true := by decide +kernel
theorem m_ok6 : (List.range 8).all (fun i => methOk (48 + i)) = true := by decide +kernel
theorem m_ok7 : (List.range 8).all (fun i => methOk (56 + i)) = true := by decide +kernel
theorem m_ok8 : (List.range 8).all (fun i => methOk (64 + i)) = true := by decide +kernel
theorem m_ok9 : (List.range 8).all (fun i => methOk (72 + i)) = true := by decide +kernel
theorem m_ok10 : (List.range 8).all (fun i => methOk (80 + i)) = true := by decide +kernel
theorem m_ok11 : (List.range 8).all (fun i => methOk (88 + i)) = true := by decide +kernel
theorem m_ok12 : (List.range 8).all (fun i => methOk (96 + i)) = true := by decide +kernel
theorem m_ok13 : (List.range 8).all (fun i => methOk (104 + i)) = true := by decide +kernel
theorem m_ok14 : (List.range 8).all (fun i => methOk (112 + i)) = true := by decide +kernel
theorem m_ok15 : (List.range 8).all (fun i => methOk (120 + i)) = true := by decide +kernel
theorem m_ok16 : (List.range 8).all (fun i => methOk (128 + i)) = true := by decide +kernel
theorem m_ok17 : (List.range 8).all (fun i => methOk (136 + i)) = true := by decide +kernel
theorem m_ok18 : (List.range 8).all (fun i => methOk (144 + i)) = true := by decide +kernel
theorem m_ok19 : (List.range 8).all (fun i => methOk (152 + i)) = true := by decide +kernel
theorem m_ok20 : (List.range 8).all (fun i => methOk (160 + i)) = true := by decide +kernel
theorem m_ok21 : (List.range 8).all (fun i => methOk (168 + i)) = true := by decide +kernel
theorem m_ok22 : (List.range 8).all (fun i => methOk (176 + i)) = true := by decide +kernel
theorem m_ok23 : (List.range 8).all (fun i => methOk (184 + i)) = true := by decide +kernel
theorem m_ok24 : (List.range 8).all (fun i => methOk (192 + i)) = true := by decide +kernel
theorem m_ok25 : (List.range 8).all (fun i => methOk (200 + i)) = true := by decide +kernel
theorem m_ok26 : (List.range 5).all (fun i => methOk (208 + i)) = true := by decide +kernel
theorem m_law0 : k213_0.all (rowOk 8 false 2 code) = true := by decide +kernel
theorem m_law1 : k213_1.all (rowOk 8 false 2 code) = true := by decide +kernel
theorem m_law2 : k213_2.all (rowOk 8 false 2 code) = true := by decide +kernel
theorem m_law3 : k213_3.all (rowOk 8 false 2 code) = true := by decide +kernel
theorem m_law4 : k213_4.all (rowOk 8 false 2 code) = true := by decide +kernel
theorem m_law5 : k213_5.all (rowOk 8 false 2 code) = true := by decide +kernel
theorem m_law6 : k213_6.all (rowOk 8 false 2 code) = true := by decide +kernel
theorem m_law7 : k213_7.all (rowOk 8 false 2 code) = true := by decide +kernel
theorem m_law8 : k213_8.all (rowOk 8 false 2 code) = true := by decide +kernel
theorem m_law9 : k213_9.all (rowOk 8 false 2 code) = true := by decide +kernel
theorem m_law10 : k213_10.all (rowOk 8 false 2 code) = true := by decide +kernel
theorem m_law11 : k213_11.all (rowOk 8 false 2 code) = true := by decide +kernel
theorem m_law12 : k213_12.all (rowOk 8 false 2 code) = true := by decide +kernel
theorem m_law13 : k213_13.all (rowOk 8 false 2 code) = true := by decide +kernel
theorem m_law14 : k213_14.all (rowOk 8 false 2 code) = true := by decide +kernel
theorem m_law15 : k213_15.all (rowOk 8 false 2 code) = true := by decide +kernel
theorem m_law16 : k213_16.all (rowOk 8 false 2 code) = true := by decide +kernel
theorem m_law17 : k213_17.all (rowOk 8 false 2 code) = true := by decide +kernel
theorem m_law18 : k213_18.all (rowOk 8 false 2 code) = true := by decide +kernel
theorem m_law19 : k213_19.all (rowOk 8 false 2 code) = true := by decide +kernel
theorem m_law20 : k213_20.all (rowOk 8 false 2 code) = true := by decide +kernel
theorem m_law21 : k213_21.all (rowOk 8 false 2 code) = true := by decide +kernel
theorem m_law22 : k213_22.all (rowOk 8 false 2 code) = true := by decide +kernel
theorem m_law23 : k213_23.all (rowOk 8 false 2 code) = true := by decide +kernel
theorem m_law24 : k213_24.all (rowOk 8 false 2 code) = true := by decide +kernel
theorem m_law25 : k213_25.all (rowOk 8 false 2 code) = true := by decide +kernel
theorem m_law26 : k213_26.all (rowOk 8 false 2 code) = true := by decide +kernel
theorem m_law27 : k213_27.all (rowOk 8 false 2 code) = true := by decide +kernel
theorem m_law28 : k213_28.all (rowOk 8 false 2 code) = true := by decide +kernel
theorem m_law29 : k213_29.all (rowOk 8 false 2 code) = true := by decide +kernel
theorem m_law30 : k213_30.all (rowOk 8 false 2 code) = true := by decide +kernel
theorem m_law31 : k213_31.all (rowOk 8 false 2 code) = true := by decide +kernel
theorem m_law32 : k213_32.all (rowOk 8 false 2 code) = true := by decide +kernel
theorem m_law33 : k213_33.all (rowOk 8 false 2 code) = true := by decide +kernel
theorem m_law34 : k213_34.all (rowOk 8 false 2 code) = true := by decide +kernel
theorem m_law35 : k213_35.all (rowOk 8 false 2 code) = true := by decide +kernel
theorem m_law36 : k213_36.all (rowOk 8 false 2 code) = true := by decide +kernel
theorem m_law37 : k213_37.all (rowOk 8 false 2 code) = true := by decide +kernel
theorem m_law38 : k213_38.all (rowOk 8 false 2 code) = true := by decide +kernel
theorem m_law39 : k213_39.all (rowOk 8 false 2 code) = true := by decide +kernel
theorem m_law40 : k213_40.all (rowOk 8 false 2 code) = true := by decide +kernel
theorem m_law41 : k213_41.all (rowOk 8 false 2 code) = true := by decide +kernel
theorem m_law : k213.all (fun c => c.all (rowOk 8 false 2 code)) = true := by
  simp only [k213, List.all_cons, List.all_nil, Bool.and_eq_true, and_true]
  exact ⟨m_law0, m_law1, m_law2, m_law3, m_law4, m_law5, m_law6, m_law7, m_law8, m_law9, m_law10, m_law11, m_law12, m_law13, m_law14, m_law15, m_law16, m_law17, m_law18, m_law19, m_law20, m_law21, m_law22, m_law23, m_law24, m_law25, m_law26, m_law27, m_law28, m_law29, m_law30, m_law31, m_law32, m_law33, m_law34, m_law35, m_law36, m_law37, m_law38, m_law39, m_law40, m_law41⟩
