/-! THE SMALL MACHINE: what a method does, over a heap of numbered cells (0 the script, 1 the row of kinds, 2 .. what is made, in its order) -/
abbrev zA : Type := (Nat → Int32) ⊕ ((Nat → Int64) ⊕ (Nat → Option Nat))
abbrev zC : Type := (Nat × Nat × zA) ⊕ (Nat × List Value)
abbrev zH : Type := Nat × Nat × (Nat → zC)
abbrev zI : Type := Instr × Nat × Nat × Nat × Nat × Value
abbrev zR : Type := Option Value × zH
abbrev zO : Type := (Bool × Nat × List Value × List Value × zH) ⊕ ((Bool × Nat × Nat × List Value) ⊕ ((Bool × Nat × List Value × Nat × List Value) ⊕ ((Bool × Option Value) ⊕ Unit)))
abbrev zNx (b : Bool) (pc : Nat) (ls st : List Value) (h : zH) : zO := .inl (b, pc, ls, st, h)
abbrev zBr (c : Bool) (p1 p2 : Nat) (st : List Value) : zO := .inr (.inl (c, p1, p2, st))
abbrev zCl (b : Bool) (mi : Nat) (as : List Value) (pc : Nat) (st : List Value) : zO := .inr (.inr (.inl (b, mi, as, pc, st)))
abbrev zRt (b : Bool) (v : Option Value) : zO := .inr (.inr (.inr (.inl (b, v))))
abbrev zNo : zO := .inr (.inr (.inr (.inr ())))
def zset (h : zH) (k : Nat) (c : zC) : zH := (h.1, h.2.1, fun j => if j = k then c else h.2.2 j)
def znew (h : zH) (c : zC) (n : Nat) : zH := (h.1 + 1, h.2.1 + n, fun j => if j = h.1 then c else h.2.2 j)
def zin (i : Int32) (n : Nat) : Bool := decide (0 ≤ i.toInt) && decide (i.toInt < n)
def zrf (r : Option Nat) : Value := match r with
  | none => .null
  | some a => .ref a
/-- the sorts of arrays -/
def zty : Nat → FieldType
  | 0 => .int
  | 1 => .long
  | 2 => .byte
  | 3 => .boolean
  | 4 => .object "NestedPoints$Space"
  | 5 => .object "NestedPoints$Sheet"
  | _ => .array .int
/-- classes: name, fields, how many -/
def zcl (ci : Nat) : vw_C := vwCl.getD ci ("", (fun _ => ("", "", "", false)), 0)
def ztf : Nat → Nat → FieldType
  | 0 => tyX0 | 1 => tyX1 | 2 => tyX2 | 3 => tyX3 | 4 => tyX4 | 5 => tyX5 | 6 => tyX6 | 7 => tyX7 | 8 => tyX8 | 9 => tyX9 | _ => tyX10
def zfit (ty : FieldType) (v : Value) : Bool := match ty, v with
  | .int, .int _ => true
  | .boolean, .int x => decide (x = 0) || decide (x = 1)
  | .object _, .ref _ => true
  | .array _, .ref _ => true
  | _, _ => false
def zdef (ci n : Nat) : List Value := (List.range n).map (fun j => defaultValue (ztf ci j))
/-- storing at i splits no long -/
def zok1 (ls : List Value) (i : Nat) : Bool := match i with
  | 0 => true
  | j + 1 => match ls[j]? with
    | some (.long _) => false
    | some (.double _) => false
    | _ => true
def zgetI (ls : List Value) (i nx : Nat) (st : List Value) (h : zH) : zO := match ls[i]? with
  | some (.int x) => zNx true nx ls (.int x :: st) h
  | _ => zNo
def zgetL (ls : List Value) (i nx : Nat) (st : List Value) (h : zH) : zO := match ls[i]? with
  | some (.long x) => zNx true nx ls (.long x :: st) h
  | _ => zNo
def zgetA (ls : List Value) (i nx : Nat) (st : List Value) (h : zH) : zO := match ls[i]? with
  | some (.ref x) => zNx true nx ls (.ref x :: st) h
  | _ => zNo
def zputI (ls : List Value) (i nx : Nat) (st : List Value) (h : zH) : zO := match st with
  | .int x :: r => zNx (zok1 ls i && Nat.blt i ls.length) nx (ls.set i (.int x)) r h
  | _ => zNo
def zputL (ls : List Value) (i nx : Nat) (st : List Value) (h : zH) : zO := match st with
  | .long x :: r => zNx (zok1 ls i && Nat.blt (i + 1) ls.length) nx ((ls.set i (.long x)).set (i + 1) .null) r h
  | _ => zNo
def zputA (ls : List Value) (i nx : Nat) (st : List Value) (h : zH) : zO := match st with
  | .ref x :: r => zNx (zok1 ls i && Nat.blt i ls.length) nx (ls.set i (.ref x)) r h
  | _ => zNo
def zinc (ls : List Value) (i nx : Nat) (v : Value) (st : List Value) (h : zH) : zO := match v, ls[i]? with
  | .int k, some (.int x) => zNx (zok1 ls i && Nat.blt i ls.length) nx (ls.set i (.int (x + k))) st h
  | _, _ => zNo
def z2i (f : Int32 → Int32 → Int32) (nx : Nat) (ls st : List Value) (h : zH) : zO := match st with
  | .int y :: .int x :: r => zNx true nx ls (.int (f x y) :: r) h
  | _ => zNo
def z2d (f : Int32 → Int32 → Int32) (nx : Nat) (ls st : List Value) (h : zH) : zO := match st with
  | .int y :: .int x :: r => zNx (decide (¬ y = 0)) nx ls (.int (f x y) :: r) h
  | _ => zNo
def z1i (f : Int32 → Int32) (nx : Nat) (ls st : List Value) (h : zH) : zO := match st with
  | .int x :: r => zNx true nx ls (.int (f x) :: r) h
  | _ => zNo
def z2l (f : Int64 → Int64 → Int64) (nx : Nat) (ls st : List Value) (h : zH) : zO := match st with
  | .long y :: .long x :: r => zNx true nx ls (.long (f x y) :: r) h
  | _ => zNo
def zsl (f : Int64 → Int32 → Int64) (nx : Nat) (ls st : List Value) (h : zH) : zO := match st with
  | .int y :: .long x :: r => zNx true nx ls (.long (f x y) :: r) h
  | _ => zNo
def zlcmp (nx : Nat) (ls st : List Value) (h : zH) : zO := match st with
  | .long y :: .long x :: r => zNx true nx ls (.int (lg_cmp x y) :: r) h
  | _ => zNo
def zlneg (nx : Nat) (ls st : List Value) (h : zH) : zO := match st with
  | .long x :: r => zNx true nx ls (.long (-x) :: r) h
  | _ => zNo
def zi2l (nx : Nat) (ls st : List Value) (h : zH) : zO := match st with
  | .int x :: r => zNx true nx ls (.long x.toInt64 :: r) h
  | _ => zNo
def zl2i (nx : Nat) (ls st : List Value) (h : zH) : zO := match st with
  | .long x :: r => zNx true nx ls (.int x.toInt32 :: r) h
  | _ => zNo
def zdup (nx : Nat) (ls st : List Value) (h : zH) : zO := match st with
  | v :: r => zNx (Nat.beq v.category 1) nx ls (v :: v :: r) h
  | _ => zNo
def zdup2 (nx : Nat) (ls st : List Value) (h : zH) : zO := match st with
  | v :: w :: r => zNx (Nat.beq v.category 1 && Nat.beq w.category 1) nx ls (v :: w :: v :: w :: r) h
  | _ => zNo
def zpop (nx : Nat) (ls st : List Value) (h : zH) : zO := match st with
  | v :: r => zNx (Nat.beq v.category 1) nx ls r h
  | _ => zNo
def zc1 (c : ClassFile.Cond) (x : Int32) : Bool := match c with
  | .eq => decide (x = 0)
  | .ne => decide (¬ x = 0)
  | .lt => decide (x < 0)
  | .ge => decide (0 ≤ x)
  | .gt => decide (0 < x)
  | .le => decide (x ≤ 0)
def zc2 (c : ClassFile.Cond) (x y : Int32) : Bool := match c with
  | .eq => decide (x = y)
  | .ne => decide (¬ x = y)
  | .lt => decide (x < y)
  | .ge => decide (y ≤ x)
  | .gt => decide (y < x)
  | .le => decide (x ≤ y)
def zif1 (c : ClassFile.Cond) (tg nx : Nat) (st : List Value) : zO := match st with
  | .int x :: r => zBr (zc1 c x) tg nx r
  | _ => zNo
def zif2 (c : ClassFile.Cond) (tg nx : Nat) (st : List Value) : zO := match st with
  | .int y :: .int x :: r => zBr (zc2 c x y) tg nx r
  | _ => zNo
/-- where a switch goes -/
def ztoff (d lo hi : Int) (offs : Array Int) (x : Int32) : Option Int := if x.toInt < lo ∨ hi < x.toInt then some d else offs[(x.toInt - lo).toNat]?
def ztsw (d lo hi : Int) (offs : Array Int) (pc : Nat) (ls st : List Value) (h : zH) : zO := match st with
  | .int x :: r => match ztoff d lo hi offs x with
    | some o => zNx (decide (0 ≤ (pc : Int) + o)) ((pc : Int) + o).toNat ls r h
    | none => zNo
  | _ => zNo
def zlsw (d : Int) (ps : Array (Int × Int)) (pc : Nat) (ls st : List Value) (h : zH) : zO := match st with
  | .int x :: r => zNx (decide (0 ≤ (pc : Int) + Op.lookupswitch.offset ps.toList d x.toInt)) ((pc : Int) + Op.lookupswitch.offset ps.toList d x.toInt).toNat ls r h
  | _ => zNo
/-- reading rows -/
def zald (nx : Nat) (ls st : List Value) (h : zH) : zO := match st with
  | .int i :: .ref a :: r => match h.2.2 a with
    | .inl (0, n, .inl f) => zNx (zin i n) nx ls (.int (f i.toNatClampNeg) :: r) h
    | _ => zNo
  | _ => zNo
def zbld (nx : Nat) (ls st : List Value) (h : zH) : zO := match st with
  | .int i :: .ref a :: r => match h.2.2 a with
    | .inl (2, n, .inl f) => zNx (zin i n) nx ls (.int (f i.toNatClampNeg) :: r) h
    | .inl (3, n, .inl f) => zNx (zin i n) nx ls (.int (f i.toNatClampNeg) :: r) h
    | _ => zNo
  | _ => zNo
def zlld (nx : Nat) (ls st : List Value) (h : zH) : zO := match st with
  | .int i :: .ref a :: r => match h.2.2 a with
    | .inl (1, n, .inr (.inl f)) => zNx (zin i n) nx ls (.long (f i.toNatClampNeg) :: r) h
    | _ => zNo
  | _ => zNo
def zqld (nx : Nat) (ls st : List Value) (h : zH) : zO := match st with
  | .int i :: .ref a :: r => match h.2.2 a with
    | .inl (t + 4, n, .inr (.inr f)) => zNx (zin i n) nx ls (zrf (f i.toNatClampNeg) :: r) h
    | _ => zNo
  | _ => zNo
/-- writing rows -/
def zast (nx : Nat) (ls st : List Value) (h : zH) : zO := match st with
  | .int x :: .int i :: .ref a :: r => match h.2.2 a with
    | .inl (0, n, .inl f) => zNx (zin i n && Nat.ble 2 a) nx ls r (zset h a (.inl (0, n, .inl (upd f i.toNatClampNeg x))))
    | _ => zNo
  | _ => zNo
def zbst (nx : Nat) (ls st : List Value) (h : zH) : zO := match st with
  | .int x :: .int i :: .ref a :: r => match h.2.2 a with
    | .inl (2, n, .inl f) => zNx (zin i n && Nat.ble 2 a) nx ls r (zset h a (.inl (2, n, .inl (upd f i.toNatClampNeg (vp_nar .byte x)))))
    | .inl (3, n, .inl f) => zNx (zin i n && Nat.ble 2 a) nx ls r (zset h a (.inl (3, n, .inl (upd f i.toNatClampNeg (vp_nar .boolean x)))))
    | _ => zNo
  | _ => zNo
def zlst (nx : Nat) (ls st : List Value) (h : zH) : zO := match st with
  | .long x :: .int i :: .ref a :: r => match h.2.2 a with
    | .inl (1, n, .inr (.inl f)) => zNx (zin i n && Nat.ble 2 a) nx ls r (zset h a (.inl (1, n, .inr (.inl (vp_updL f i.toNatClampNeg x)))))
    | _ => zNo
  | _ => zNo
def zqst (nx : Nat) (ls st : List Value) (h : zH) : zO := match st with
  | .ref v :: .int i :: .ref a :: r => match h.2.2 a, h.2.2 v with
    | .inl (4, n, .inr (.inr f)), .inr (7, _) => zNx (zin i n && Nat.ble 2 a) nx ls r (zset h a (.inl (4, n, .inr (.inr (va_up f i.toNatClampNeg (some v))))))
    | .inl (5, n, .inr (.inr f)), .inr (6, _) => zNx (zin i n && Nat.ble 2 a) nx ls r (zset h a (.inl (5, n, .inr (.inr (va_up f i.toNatClampNeg (some v))))))
    | _, _ => zNo
  | _ => zNo
def zlen (nx : Nat) (ls st : List Value) (h : zH) : zO := match st with
  | .ref 0 :: r => match h.2.2 0 with
    | .inl (_, n, _) => zNx true nx ls (.int (Int32.ofNat n) :: r) h
    | _ => zNo
  | _ => zNo
/-- fields -/
def zgetf (ci k nx : Nat) (ls st : List Value) (h : zH) : zO := match st with
  | .ref a :: r => match h.2.2 a with
    | .inr (cj, fs) => zNx (Nat.beq cj ci && Nat.blt k fs.length) nx ls (fs.getD k .null :: r) h
    | _ => zNo
  | _ => zNo
def zputf (ci k nx : Nat) (ls st : List Value) (h : zH) : zO := match st with
  | v :: .ref a :: r => match h.2.2 a with
    | .inr (cj, fs) => zNx (Nat.beq cj ci && Nat.blt k fs.length && zfit (ztf ci k) v) nx ls r (zset h a (.inr (cj, fs.set k v)))
    | _ => zNo
  | _ => zNo
/-- what is made -/
def zmkO (ci n nx : Nat) (ls st : List Value) (h : zH) : zO := zNx true nx ls (.ref h.1 :: st) (znew h (.inr (ci, zdef ci n)) n)
def zmkI (t nx : Nat) (ls st : List Value) (h : zH) : zO := match st with
  | .int n :: r => zNx (zin n 1000) nx ls (.ref h.1 :: r) (znew h (.inl (t, n.toNatClampNeg, .inl (fun _ => 0))) n.toNatClampNeg)
  | _ => zNo
def zmkL (nx : Nat) (ls st : List Value) (h : zH) : zO := match st with
  | .int n :: r => zNx (zin n 1000) nx ls (.ref h.1 :: r) (znew h (.inl (1, n.toNatClampNeg, .inr (.inl (fun _ => 0)))) n.toNatClampNeg)
  | _ => zNo
def zmkQ (t nx : Nat) (ls st : List Value) (h : zH) : zO := match st with
  | .int n :: r => zNx (zin n 1000) nx ls (.ref h.1 :: r) (znew h (.inl (t, n.toNatClampNeg, .inr (.inr (fun _ => none)))) n.toNatClampNeg)
  | _ => zNo
def zmkM (nx : Nat) (ls st : List Value) (h : zH) : zO := match st with
  | .int k :: .int n :: r => zNx (zin n 1000 && zin k 1000) nx ls (.ref h.1 :: r) (h.1 + (1 + n.toNatClampNeg), h.2.1 + (n.toNatClampNeg + n.toNatClampNeg * k.toNatClampNeg), fun j => if j = h.1 then .inl (6, n.toNatClampNeg, .inr (.inr (fun i => if i < n.toNatClampNeg then some (h.1 + 1 + i) else none))) else if h.1 < j ∧ j < h.1 + 1 + n.toNatClampNeg then .inl (0, k.toNatClampNeg, .inl (fun _ => 0)) else h.2.2 j)
  | _ => zNo
/-- calls -/
def zcts : List Value → Nat
  | [] => 0
  | v :: r => v.category + zcts r
def zrl (r : List Value) : Bool := Nat.ble r.length 4 || Nat.ble (zcts r) 8
def zcallV (mi n ci nx : Nat) (st : List Value) (h : zH) : zO := match st.drop n with
  | .ref b :: r => match h.2.2 b with
    | .inr (cj, _) => zCl (Nat.beq cj ci && Nat.beq (st.take n).length n && zrl r) mi (.ref b :: (st.take n).reverse) nx r
    | _ => zNo
  | _ => zNo
def zcallI (mi n nx : Nat) (st : List Value) : zO := match st.drop n with
  | .ref b :: r => zCl (Nat.beq (st.take n).length n && zrl r) mi (.ref b :: (st.take n).reverse) nx r
  | _ => zNo
def zcallS (mi n nx : Nat) (st : List Value) : zO := zCl (Nat.beq (st.take n).length n && zrl (st.drop n)) mi (st.take n).reverse nx (st.drop n)
def zobj (nx : Nat) (ls st : List Value) (h : zH) : zO := match st with
  | .ref _ :: r => zNx (Nat.ble r.length 4) nx ls r h
  | _ => zNo
def zcpy (nx : Nat) (ls st : List Value) (h : zH) : zO := match st with
  | .int n :: .int dp :: .ref b :: .int sp :: .ref a :: r => match h.2.2 a, h.2.2 b with
    | .inl (0, n0, .inl f), .inl (0, n1, .inl g) => zNx (decide (0 ≤ sp.toInt) && decide (0 ≤ dp.toInt) && decide (0 ≤ n.toInt) && Nat.ble (sp.toNatClampNeg + n.toNatClampNeg) n0 && Nat.ble (dp.toNatClampNeg + n.toNatClampNeg) n1 && Nat.ble 2 a && Nat.ble 2 b && Nat.ble r.length 4) nx ls r (zset h b (.inl (0, n1, .inl (va_cpy f g sp.toNatClampNeg dp.toNatClampNeg n.toNatClampNeg))))
    | _, _ => zNo
  | _ => zNo
def zmax (nx : Nat) (ls st : List Value) (h : zH) : zO := match st with
  | .int y :: .int x :: r => zNx (Nat.ble r.length 4) nx ls (.int (if x < y then y else x) :: r) h
  | _ => zNo
def zmin (nx : Nat) (ls st : List Value) (h : zH) : zO := match st with
  | .int y :: .int x :: r => zNx (Nat.ble r.length 4) nx ls (.int (if y < x then y else x) :: r) h
  | _ => zNo
def zret0 (st : List Value) : zO := match st with
  | [] => zRt true none
  | _ => zNo
def zretI (t : Nat) (st : List Value) : zO := match st with
  | [.int x] => zRt (Nat.beq t 0 || decide (x = 0) || decide (x = 1)) (some (.int x))
  | _ => zNo
def zretL (st : List Value) : zO := match st with
  | [.long x] => zRt true (some (.long x))
  | _ => zNo
/-- one instruction: (it, what comes next, three numbers, a constant) -/
def zstep (ai : zI) (ls st : List Value) (h : zH) : zO := match ai with
  | (i, nx, a, b, c, v) => match i with
    | .iconst _ => zNx true nx ls (v :: st) h
    | .bipush _ => zNx true nx ls (v :: st) h
    | .sipush _ => zNx true nx ls (v :: st) h
    | .lconst _ => zNx true nx ls (v :: st) h
    | .ldc_w _ => zNx true nx ls (v :: st) h
    | .ldc2_w _ => zNx true nx ls (v :: st) h
    | .iload_n _ => zgetI ls a nx st h
    | .iload _ => zgetI ls a nx st h
    | .lload_n _ => zgetL ls a nx st h
    | .lload _ => zgetL ls a nx st h
    | .aload_n _ => zgetA ls a nx st h
    | .aload _ => zgetA ls a nx st h
    | .istore_n _ => zputI ls a nx st h
    | .istore _ => zputI ls a nx st h
    | .lstore_n _ => zputL ls a nx st h
    | .lstore _ => zputL ls a nx st h
    | .astore_n _ => zputA ls a nx st h
    | .astore _ => zputA ls a nx st h
    | .iinc _ _ => zinc ls a nx v st h
    | .iadd => z2i (fun x y => x + y) nx ls st h
    | .isub => z2i (fun x y => x - y) nx ls st h
    | .imul => z2i (fun x y => x * y) nx ls st h
    | .iand => z2i (fun x y => x &&& y) nx ls st h
    | .ior => z2i (fun x y => x ||| y) nx ls st h
    | .ixor => z2i (fun x y => x ^^^ y) nx ls st h
    | .ishl => z2i (fun x y => x <<< (y &&& 31)) nx ls st h
    | .ishr => z2i (fun x y => x >>> (y &&& 31)) nx ls st h
    | .iushr => z2i (fun x y => (x.toUInt32 >>> (y.toUInt32 &&& Int32.toUInt32 31)).toInt32) nx ls st h
    | .idiv => z2d (fun x y => x / y) nx ls st h
    | .irem => z2d (fun x y => x - x / y * y) nx ls st h
    | .ineg => z1i (fun x => -x) nx ls st h
    | .i2b => z1i (fun x => x.toInt8.toInt32) nx ls st h
    | .i2c => z1i (fun x => (x.toUInt32 % 65536).toInt32) nx ls st h
    | .ladd => z2l (fun x y => x + y) nx ls st h
    | .land => z2l (fun x y => x &&& y) nx ls st h
    | .lor => z2l (fun x y => x ||| y) nx ls st h
    | .lxor => z2l (fun x y => x ^^^ y) nx ls st h
    | .lshl => zsl (fun x y => x <<< (y.toInt64 &&& 63)) nx ls st h
    | .lshr => zsl (fun x y => x >>> (y.toInt64 &&& 63)) nx ls st h
    | .lcmp => zlcmp nx ls st h
    | .lneg => zlneg nx ls st h
    | .i2l => zi2l nx ls st h
    | .l2i => zl2i nx ls st h
    | .dup => zdup nx ls st h
    | .dup2 => zdup2 nx ls st h
    | .pop => zpop nx ls st h
    | .ifCond q _ => zif1 q a nx st
    | .if_icmp q _ => zif2 q a nx st
    | .goto _ => zNx true a ls st h
    | .tableswitch d lo hi offs => ztsw d lo hi offs a ls st h
    | .lookupswitch d ps => zlsw d ps a ls st h
    | .iaload => zald nx ls st h
    | .baload => zbld nx ls st h
    | .laload => zlld nx ls st h
    | .aaload => zqld nx ls st h
    | .iastore => zast nx ls st h
    | .bastore => zbst nx ls st h
    | .lastore => zlst nx ls st h
    | .aastore => zqst nx ls st h
    | .arraylength => zlen nx ls st h
    | .getfield _ => zgetf a b nx ls st h
    | .putfield _ => zputf a b nx ls st h
    | .getstatic _ => zNx true nx ls (.ref 1 :: st) h
    | .new _ => zmkO a b nx ls st h
    | .newarray t => match t with
      | .long => zmkL nx ls st h
      | _ => zmkI a nx ls st h
    | .anewarray _ => zmkQ a nx ls st h
    | .multianewarray _ _ => zmkM nx ls st h
    | .invokevirtual _ => zcallV a b c nx st h
    | .invokestatic _ => match c with
      | 2 => zcpy nx ls st h
      | 3 => zmax nx ls st h
      | 4 => zmin nx ls st h
      | _ => zcallS a b nx st
    | .invokespecial _ => match c with
      | 2 => zobj nx ls st h
      | _ => zcallI a b nx st
    | .return_ => zret0 st
    | .ireturn => zretI a st
    | .lreturn => zretL st
    | _ => zNo
/-- n steps at most from here on end with r; C: what calls do -/
def zRun (C : Nat → List Value → zH → zR → Prop) (t : Nat → Option zI) : Nat → Nat → List Value → List Value → zH → zR → Prop
  | 0, _, _, _, _, _ => False
  | n + 1, pc, ls, st, h, r => match t pc with
    | none => False
    | some ai => match zstep ai ls st h with
      | .inl (b, pc', ls', st', h') => b = true ∧ zRun C t n pc' ls' st' h' r
      | .inr (.inl (c, p1, p2, st')) => (c = true → zRun C t n p1 ls st' h r) ∧ (c = false → zRun C t n p2 ls st' h r)
      | .inr (.inr (.inl (b, mi, as, pc', st'))) => b = true ∧ ∃ (v : Option Value) (h1 : zH), C mi as h (v, h1) ∧ zRun C t n pc' ls (v.toList ++ st') h1 r
      | .inr (.inr (.inr (.inl (b, v)))) => b = true ∧ r = (v, h)
      | .inr (.inr (.inr (.inr _))) => False
/-- the locals at a method's start -/
def zlay : List Value → List Value
  | [] => []
  | .long x :: r => .long x :: .null :: zlay r
  | v :: r => v :: zlay r
def zent (n : Nat) (as : List Value) : List Value := zlay as ++ List.replicate (n - (zlay as).length) .null
