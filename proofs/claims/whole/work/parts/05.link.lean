/-! what the tables must say of each instruction -/
def zWL : List (List Cond) := [wsL_law_r1, wsL_law_r2, wsL_law_r3, wsL_law_r4, wsL_law_r5, wsL_law_r6, wsL_law_r7, wsL_law_r8, wsL_law_r9, wsL_law_r10, wsL_law_r11, wsL_law_r12, wsL_law_r13, wsL_law_r14, wsL_law_r15, wsL_law_r16, wsL_law_r17, wsL_law_r18, wsL_law_r19, wsL_law_r20, wsL_law_r21, wsL_law_r22, wsL_law_r23, wsL_law_r24, wsL_law_r25, wsL_law_r26, wsL_law_r27, wsL_law_r28, wsL_law_r29, wsL_law_r30, wsL_law_r31, wsL_law_r32, wsL_law_r33, wsL_law_r34, wsL_law_r35, wsL_law_r36, wsL_law_r37, wsL_law_r38, wsL_law_r39, wsL_law_r40, wsL_law_r41, wsL_law_r42, wsL_law_r43, wsL_law_r44, wsL_law_r45, wsL_law_r46, wsL_law_r47, wsL_law_r48, wsL_law_r49, wsL_law_r50, wsL_law_r51, wsL_law_r52, wsL_law_r53, wsL_law_r54, wsL_law_r55, wsL_law_r56, wsX00, wsX10, wsX20, wsX30, wsX40, wsX50, wsX60, wsX70, wsX80, wsX90, wsX100]
def zWF : List Cond := zWL.flatten
theorem zWL_good : ∀ l ∈ zWL, GoodIn lw_tbl l := List.forall_mem_cons.mpr ⟨zg_r1, List.forall_mem_cons.mpr ⟨zg_r2, List.forall_mem_cons.mpr ⟨zg_r3, List.forall_mem_cons.mpr ⟨zg_r4, List.forall_mem_cons.mpr ⟨zg_r5, List.forall_mem_cons.mpr ⟨zg_r6, List.forall_mem_cons.mpr ⟨zg_r7, List.forall_mem_cons.mpr ⟨zg_r8, List.forall_mem_cons.mpr ⟨zg_r9, List.forall_mem_cons.mpr ⟨zg_r10, List.forall_mem_cons.mpr ⟨zg_r11, List.forall_mem_cons.mpr ⟨zg_r12, List.forall_mem_cons.mpr ⟨zg_r13, List.forall_mem_cons.mpr ⟨zg_r14, List.forall_mem_cons.mpr ⟨zg_r15, List.forall_mem_cons.mpr ⟨zg_r16, List.forall_mem_cons.mpr ⟨zg_r17, List.forall_mem_cons.mpr ⟨zg_r18, List.forall_mem_cons.mpr ⟨zg_r19, List.forall_mem_cons.mpr ⟨zg_r20, List.forall_mem_cons.mpr ⟨zg_r21, List.forall_mem_cons.mpr ⟨zg_r22, List.forall_mem_cons.mpr ⟨zg_r23, List.forall_mem_cons.mpr ⟨zg_r24, List.forall_mem_cons.mpr ⟨zg_r25, List.forall_mem_cons.mpr ⟨zg_r26, List.forall_mem_cons.mpr ⟨zg_r27, List.forall_mem_cons.mpr ⟨zg_r28, List.forall_mem_cons.mpr ⟨zg_r29, List.forall_mem_cons.mpr ⟨zg_r30, List.forall_mem_cons.mpr ⟨zg_r31, List.forall_mem_cons.mpr ⟨zg_r32, List.forall_mem_cons.mpr ⟨zg_r33, List.forall_mem_cons.mpr ⟨zg_r34, List.forall_mem_cons.mpr ⟨zg_r35, List.forall_mem_cons.mpr ⟨zg_r36, List.forall_mem_cons.mpr ⟨zg_r37, List.forall_mem_cons.mpr ⟨zg_r38, List.forall_mem_cons.mpr ⟨zg_r39, List.forall_mem_cons.mpr ⟨zg_r40, List.forall_mem_cons.mpr ⟨zg_r41, List.forall_mem_cons.mpr ⟨zg_r42, List.forall_mem_cons.mpr ⟨zg_r43, List.forall_mem_cons.mpr ⟨zg_r44, List.forall_mem_cons.mpr ⟨zg_r45, List.forall_mem_cons.mpr ⟨zg_r46, List.forall_mem_cons.mpr ⟨zg_r47, List.forall_mem_cons.mpr ⟨zg_r48, List.forall_mem_cons.mpr ⟨zg_r49, List.forall_mem_cons.mpr ⟨zg_r50, List.forall_mem_cons.mpr ⟨zg_r51, List.forall_mem_cons.mpr ⟨zg_r52, List.forall_mem_cons.mpr ⟨zg_r53, List.forall_mem_cons.mpr ⟨zg_r54, List.forall_mem_cons.mpr ⟨zg_r55, List.forall_mem_cons.mpr ⟨zg_r56, List.forall_mem_cons.mpr ⟨zg_x0, List.forall_mem_cons.mpr ⟨zg_x1, List.forall_mem_cons.mpr ⟨zg_x2, List.forall_mem_cons.mpr ⟨zg_x3, List.forall_mem_cons.mpr ⟨zg_x4, List.forall_mem_cons.mpr ⟨zg_x5, List.forall_mem_cons.mpr ⟨zg_x6, List.forall_mem_cons.mpr ⟨zg_x7, List.forall_mem_cons.mpr ⟨zg_x8, List.forall_mem_cons.mpr ⟨zg_x9, List.forall_mem_cons.mpr ⟨zg_x10, (fun _ h => absurd h List.not_mem_nil)⟩⟩⟩⟩⟩⟩⟩⟩⟩⟩⟩⟩⟩⟩⟩⟩⟩⟩⟩⟩⟩⟩⟩⟩⟩⟩⟩⟩⟩⟩⟩⟩⟩⟩⟩⟩⟩⟩⟩⟩⟩⟩⟩⟩⟩⟩⟩⟩⟩⟩⟩⟩⟩⟩⟩⟩⟩⟩⟩⟩⟩⟩⟩⟩⟩⟩⟩
theorem zWF_in : GoodIn lw_tbl zWF := by
  intro w hw
  obtain ⟨l, hl, hw⟩ := List.mem_flatten.mp hw
  exact zWL_good l hl w hw
theorem zWF_at {k j : Nat} {w : Cond} (h : (zWL.getD k [])[j]? = some w) : w ∈ zWF := by
  refine List.mem_flatten.mpr ⟨zWL.getD k [], ?_, List.mem_of_getElem? h⟩
  rw [List.getD_eq_getElem?_getD] at h ⊢
  cases e : zWL[k]? with
  | none => rw [e] at h; simp at h
  | some l => exact List.mem_of_getElem? e
def zw (p : Nat × Nat) : Option Cond := (zWL.getD p.1 [])[p.2]?
theorem zw_in {p : Nat × Nat} {w : Cond} (h : decide (zw p = some w) = true) : w ∈ zWF := zWF_at (of_decide_eq_true h)
theorem zclx : ∀ ci, ci < 11 → ∀ w ∈ u_ws (zcl ci).1 (zcl ci).2.1 (zcl ci).2.2, w ∈ zWF := by
  intro ci hci w hw
  have h : zWL[56 + ci]? = some (u_ws (zcl ci).1 (zcl ci).2.1 (zcl ci).2.2) := by
    match ci, hci with
    | 0, _ => rfl
    | 1, _ => rfl
    | 2, _ => rfl
    | 3, _ => rfl
    | 4, _ => rfl
    | 5, _ => rfl
    | 6, _ => rfl
    | 7, _ => rfl
    | 8, _ => rfl
    | 9, _ => rfl
    | 10, _ => rfl
  exact List.mem_flatten.mpr ⟨_, List.mem_of_getElem? h, hw⟩
def zy (mi : Nat) : MethodName := (zMI mi).1
def zco (mi : Nat) : ByteArray := (zMI mi).2.1
def zml (mi : Nat) : Nat := (zMI mi).2.2.1
def zrt (mi : Nat) : Option FieldType := (zMI mi).2.2.2
/-- a method that may be called: its words stand, its name is a plain one -/
def zokM (mi : Nat) : Bool :=
  decide (zw (zMK mi).2.1 = some (.code (zy mi) (zco mi) (zml mi) (zrt mi))) && decide (zw (zMK mi).2.2.1 = some (.initialized (zy mi).cls)) &&
  (match (zMK mi).1 with
    | 0 => decide (zw (zMK mi).2.2.2.1 = some (.instanceMethod (zy mi))) && decide (zw (zMK mi).2.2.2.2 = some (.selects (zy mi).cls (zy mi) (zy mi)))
    | 1 => decide (zw (zMK mi).2.2.2.1 = some (.static (zy mi)))
    | _ => decide (zw (zMK mi).2.2.2.1 = some (.instanceMethod (zy mi))) && decide ((zy mi).name = "<init>") && decide (zrt mi = none)) &&
  decide ((zy mi).cls ≠ "java/lang/invoke/MethodHandle") && decide ((zy mi).cls ≠ "java/lang/invoke/VarHandle") && plainName (zy mi).cls && Nat.ble (zml mi) 40
def znp (mi : Nat) : Option Nat := (parseMethodDescriptor (zy mi).desc).map (fun d => d.parameters.length)
def zlenI : Instr → Nat
  | .bipush _ => 2 | .sipush _ => 3 | .ldc_w _ => 3 | .ldc2_w _ => 3
  | .iload _ => 2 | .lload _ => 2 | .aload _ => 2 | .istore _ => 2 | .lstore _ => 2 | .astore _ => 2
  | .iinc _ _ => 3 | .ifCond _ _ => 3 | .if_icmp _ _ => 3 | .goto _ => 3
  | .getfield _ => 3 | .putfield _ => 3 | .getstatic _ => 3 | .new _ => 3 | .newarray _ => 2 | .anewarray _ => 3 | .multianewarray _ _ => 4
  | .invokevirtual _ => 3 | .invokestatic _ => 3 | .invokespecial _ => 3
  | _ => 1
/-- a method's link: a plain one, or a nest mate's -/
def zlinkM (mi idx : Nat) (y : MethodName) : Bool :=
  decide (zw (zLK (zON mi) idx) = some (.methodLink (zy mi).cls idx y)) || (match zNW[(zLK (zON mi) idx).1 - 1000]? with
    | some (.methodLinkNest o i x _) => Nat.ble 1000 (zLK (zON mi) idx).1 && decide (o = (zy mi).cls) && decide (i = idx) && decide (x = y)
    | _ => false)
def zokX (mi pc : Nat) (ai : zI) : Bool := match ai with
  | (i, _, a, b, c, v) => match i with
    | .iconst n => decide (v = .int (Int32.ofInt n))
    | .bipush n => decide (v = .int (Int8.ofInt n).toInt32)
    | .sipush n => decide (v = .int (Int16.ofInt n).toInt32)
    | .lconst n => decide (v = .long (Int64.ofNat (n : Nat)))
    | .ldc_w n => (match v with
      | .int x => decide (zw (b, c) = some (.constant (zy mi).cls n x))
      | _ => false)
    | .ldc2_w n => (match v with
      | .long x => decide (zw (b, c) = some (.constantLong (zy mi).cls n x))
      | _ => false)
    | .iload_n k => Nat.beq k.val a
    | .lload_n k => Nat.beq k.val a
    | .aload_n k => Nat.beq k.val a
    | .istore_n k => Nat.beq k.val a
    | .lstore_n k => Nat.beq k.val a
    | .astore_n k => Nat.beq k.val a
    | .iload k => Nat.beq k a
    | .lload k => Nat.beq k a
    | .aload k => Nat.beq k a
    | .istore k => Nat.beq k a
    | .lstore k => Nat.beq k a
    | .astore k => Nat.beq k a
    | .iinc k n => Nat.beq k a && decide (v = .int (Int32.ofInt n))
    | .ifCond _ o => decide ((pc : Int) + o = (a : Int))
    | .if_icmp _ o => decide ((pc : Int) + o = (a : Int))
    | .goto o => decide ((pc : Int) + o = (a : Int))
    | .getfield n => Nat.blt a 11 && Nat.blt b (zcl a).2.2 && decide (zw (zLK (zON mi) n) = some (.fieldLink (zy mi).cls n ((zcl a).2.1 b).1 ((zcl a).2.1 b).2.1 ((zcl a).2.1 b).2.2.1))
    | .putfield n => Nat.blt a 11 && Nat.blt b (zcl a).2.2 && decide (zw (zLK (zON mi) n) = some (.fieldLink (zy mi).cls n ((zcl a).2.1 b).1 ((zcl a).2.1 b).2.1 ((zcl a).2.1 b).2.2.1)) && (!((zcl a).2.1 b).2.2.2 || (decide ((zy mi).name = "<init>") && decide (((zcl a).2.1 b).1 = (zy mi).cls)))
    | .getstatic n => decide (zw (zLK (zON mi) n) = some (.fieldLink (zy mi).cls n "NestedPoints$Acts" "KIND_ABOVE" "[I"))
    | .new n => Nat.blt a 11 && Nat.beq b (zcl a).2.2 && decide (zw (zLK (zON mi) n) = some (.classLink (zy mi).cls n (zcl a).1))
    | .newarray t => (match t with
      | .int => Nat.beq a 0
      | .byte => Nat.beq a 2
      | .boolean => Nat.beq a 3
      | .long => true
      | _ => false)
    | .anewarray n => (Nat.beq a 4 && decide (zw (zLK (zON mi) n) = some (.classLink (zy mi).cls n "NestedPoints$Space"))) || (Nat.beq a 5 && decide (zw (zLK (zON mi) n) = some (.classLink (zy mi).cls n "NestedPoints$Sheet")))
    | .multianewarray n d => Nat.beq d 2 && decide (zw (zLK (zON mi) n) = some (.classLink (zy mi).cls n "[[I"))
    | .invokevirtual n => zokM a && Nat.beq (zMK a).1 0 && zlinkM mi n (zy a) && decide (znp a = some b) && Nat.blt c 11 && decide ((zcl c).1 = (zy a).cls)
    | .invokestatic n => (match c with
      | 2 => decide (zw (zLK (zON mi) n) = some (.methodLink (zy mi).cls n arraycopyName))
      | 3 => decide (zw (zLK (zON mi) n) = some (.methodLink (zy mi).cls n Lib.Math.max.name))
      | 4 => decide (zw (zLK (zON mi) n) = some (.methodLink (zy mi).cls n Lib.Math.min.name))
      | _ => zokM a && Nat.beq (zMK a).1 1 && zlinkM mi n (zy a) && decide (znp a = some b))
    | .invokespecial n => (match c with
      | 2 => decide (zw (zLK (zON mi) n) = some (.methodLink (zy mi).cls n Lib.objectInit))
      | _ => zokM a && Nat.beq (zMK a).1 2 && zlinkM mi n (zy a) && decide (znp a = some b))
    | .ireturn => (Nat.beq a 0 && decide (zrt mi = some .int)) || (Nat.beq a 1 && decide (zrt mi = some .boolean))
    | .lreturn => decide (zrt mi = some .long)
    | .return_ => decide (zrt mi = none)
    | _ => true
def zokI (mi pc : Nat) (ai : zI) : Bool := match ai with
  | (i, nx, a, b, c, v) => match i with
    | .tableswitch d lo hi offs => decide (decode (zco mi) pc = .ok (.tableswitch d lo hi offs, b)) && Nat.beq a pc
    | .lookupswitch d ps => decide (decode (zco mi) pc = .ok (.lookupswitch d ps, b)) && Nat.beq a pc && (ps.toList.zip (ps.toList.drop 1)).all (fun (x, y) => x.1 < y.1)
    | i => decide (decode (zco mi) pc = .ok (i, zlenI i)) && Nat.beq nx (pc + zlenI i) && zokX mi pc (i, nx, a, b, c, v)
def zokR (mi : Nat) (lo n : Nat) : Bool := (List.range n).all (fun k => match zT mi (lo + k) with
  | none => true
  | some ai => zokI mi (lo + k) ai)
