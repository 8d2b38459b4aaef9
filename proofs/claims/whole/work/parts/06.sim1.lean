/-! THE SMALL MACHINE IS THE GREAT ONE: pictures -/
abbrev zP : Type := Nat × Heap × Nat × Nat × Nat × (Nat → Int32) × (Nat → Int32) × va_G × (Nat → ClassId)
def zPb (P : zP) : Nat := P.1
def zPH (P : zP) : Heap := P.2.1
def zP0 (P : zP) : Nat := P.2.2.1
def zP1 (P : zP) : Nat := P.2.2.2.1
def zPL (P : zP) : Nat := P.2.2.2.2.1
def zPx (P : zP) : Nat → Int32 := P.2.2.2.2.2.1
def zPk (P : zP) : Nat → Int32 := P.2.2.2.2.2.2.1
def zPD (P : zP) : va_G := P.2.2.2.2.2.2.2.1
def zPA (P : zP) : Nat → ClassId := P.2.2.2.2.2.2.2.2
def zad (P : zP) (k : Nat) : Nat := match k with
  | 0 => zP0 P
  | 1 => zP1 P
  | k + 2 => zPb P + k
def zcv (P : zP) (v : Value) : Value := match v with
  | .ref k => .ref (zad P k)
  | v => v
def zAt (P : zP) (q : Nat) (c : zC) (H : Heap) : Prop := match c with
  | .inl (t, n, .inl f) => t < 7 ∧ H[q]? = some (arrV (zPA P t) n (fun j => .int (f j)))
  | .inl (t, n, .inr (.inl f)) => t < 7 ∧ H[q]? = some (arrV (zPA P t) n (fun j => .long (f j)))
  | .inl (t, n, .inr (.inr f)) => t < 7 ∧ H[q]? = some (arrV (zPA P t) n (fun j => zcv P (zrf (f j))))
  | .inr (ci, fs) => ci < 11 ∧ t_OB q ((zPD P).1 ci) (zcl ci).2.2 ((zPD P).2 ci) H (fun j => zcv P (fs.getD j .null))
theorem zAt.kept {P : zP} {q : Nat} {c : zC} {H H1 : Heap} (h : zAt P q c H) (e : H1[q]? = H[q]?) : zAt P q c H1 := by
  match c, h with
  | .inl (t, n, .inl f), h => exact ⟨h.1, e.trans h.2⟩
  | .inl (t, n, .inr (.inl f)), h => exact ⟨h.1, e.trans h.2⟩
  | .inl (t, n, .inr (.inr f)), h => exact ⟨h.1, e.trans h.2⟩
  | .inr (ci, fs), h => exact ⟨h.1, h.2.kept e⟩
def zPic (P : zP) (h : zH) (H : Heap) : Prop := H.size = zPb P + (h.1 - 2) ∧ 2 ≤ h.1 ∧ (∀ q, q < zPb P → H[q]? = (zPH P)[q]?) ∧ h.2.2 0 = .inl (0, zPL P, .inl (zPx P)) ∧ h.2.2 1 = .inl (0, 6, .inl (zPk P)) ∧ (∀ k, k + 2 < h.1 → zAt P (zPb P + k) (h.2.2 (k + 2)) H) ∧ ∀ k, h.1 ≤ k → h.2.2 k = .inr (99, [])
def zKK (P : zP) (U : State) : Prop := (∀ ci, ci < 11 → u_Kn U (zcl ci).1 (zcl ci).2.1 (zcl ci).2.2 ((zPD P).1 ci) ((zPD P).2 ci)) ∧ (∀ t, t < 7 → ArrOfT U (zPA P t) (zty t) ∧ va_RA U (zPA P t) (zty t)) ∧ (∀ w ∈ zNW, va_Nw w U) ∧ (va_AO "NestedPoints$Space" U ∧ va_AO "NestedPoints$Sheet" U ∧ (Cond.arrayOver (.array .int)).before #[] U = true) ∧ va_Z "NestedPoints$Acts" "KIND_ABOVE" "[I" (.ref (zP1 P)) (fun q => zPb P ≤ q) U (zPH P) ∧ va_X (zP0 P) (zPL P) (zPx P) U (zPH P) ∧ va_X (zP1 P) 6 (zPk P) U (zPH P) ∧ zP0 P < zPb P ∧ zP1 P < zPb P ∧ (zPH P).size = zPb P
theorem zAOA_moved {u U : State} (hvm : u.vm.Alike U.vm) (h : (Cond.arrayOver (.array .int)).before #[] u = true) : (Cond.arrayOver (.array .int)).before #[] U = true := by
  unfold Cond.before Cond.holds at h ⊢
  simp only [Cond.value] at h ⊢
  rw [hvm.findClass]
  cases hc : u.vm.findClass (FieldType.array .int).toString with
  | none => rw [hc] at h; simp at h
  | some comp =>
    rw [hc, Option.bind_some] at h
    rw [Option.bind_some]
    have hb : (U.vm.classes.findIdx? fun (x : Class) => match x.kind with | .array component _ => component == comp | _ => false) = (u.vm.classes.findIdx? fun (x : Class) => match x.kind with | .array component _ => component == comp | _ => false) := by
      have e1 := va_idx_bare U.vm comp
      have e2 := va_idx_bare u.vm comp
      have e3 : U.vm.bare = u.vm.bare := hvm.bare_eq
      rw [e3] at e1
      exact e1.symm.trans e2
    refine (congrArg (fun o : Option Nat => (o.bind (fun c => (U.vm.classes[c]?).map fun (k : Class) => match k.kind with | .array _ ty => decide (ty = FieldType.array .int) && decide (U.vm.findClass ("[" ++ (FieldType.array .int).toString) = some c) | _ => false) == some true)) hb).trans ?_
    cases hi : (u.vm.classes.findIdx? fun (x : Class) => match x.kind with | .array component _ => component == comp | _ => false) with
    | none =>
      have h' := (congrArg (fun o : Option Nat => (o.bind (fun c => (u.vm.classes[c]?).map fun (k : Class) => match k.kind with | .array _ ty => decide (ty = FieldType.array .int) && decide (u.vm.findClass ("[" ++ (FieldType.array .int).toString) = some c) | _ => false) == some true)) hi).symm.trans h
      simp at h'
    | some c =>
      have h' := (congrArg (fun o : Option Nat => (o.bind (fun c => (u.vm.classes[c]?).map fun (k : Class) => match k.kind with | .array _ ty => decide (ty = FieldType.array .int) && decide (u.vm.findClass ("[" ++ (FieldType.array .int).toString) = some c) | _ => false) == some true)) hi).symm.trans h
      simp only [Option.bind_some] at h' ⊢
      cases hk : u.vm.classes[c]? with
      | none => rw [hk] at h'; simp at h'
      | some k =>
        obtain ⟨k', hk', he⟩ := hvm.2.2 _ _ hk
        rw [hk] at h'
        rw [hk']
        have hkind : k'.kind = k.kind := by rw [he]
        simp only [Option.map_some] at h' ⊢
        rw [hkind, hvm.findClass]
        exact h'
theorem zKK_warm {P : zP} {s U : State} (hW : s.WarmedH U.vm) (h : zKK P s) : zKK P U := by
  obtain ⟨h1, h2, h3, ⟨h4, h5, h6⟩, h7, h8, h9, h10⟩ := h
  refine ⟨fun ci hc => u_Kn_moved hW.alike (h1 ci hc), fun t ht => ⟨arrOfT_moved hW.alike (h2 t ht).1, (h2 t ht).2.moved hW.alike⟩, fun w hw => ?_, ⟨h4.moved hW.alike, h5.moved hW.alike, zAOA_moved hW.alike h6⟩, h7.moved hW.alike, h8.moved hW.alike, h9.moved hW.alike, h10⟩
  have := h3 w hw
  simp only [zNW, List.mem_cons, List.not_mem_nil, or_false] at hw
  rcases hw with rfl | rfl | rfl | rfl | rfl | rfl | rfl | rfl | rfl | rfl | rfl | rfl | rfl | rfl | rfl | rfl | rfl | rfl | rfl <;> exact va_Nw.warmM hW this
theorem zKK_call {P : zP} {U : State} {g : JFrame} {mk : MethodId} {a : Array Value} (h : zKK P U) : zKK P (U.calling g mk a) := by
  obtain ⟨h1, h2, h3, ⟨h4, h5, h6⟩, h7, h8, h9, h10⟩ := h
  have hA : U.vm.Alike (U.calling g mk a).vm := Vm.Alike.refl U.vm
  exact ⟨fun ci hc => u_Kn_moved hA (h1 ci hc), fun t ht => ⟨arrOfT_moved hA (h2 t ht).1, (h2 t ht).2.moved hA⟩, fun w hw => by
    have := h3 w hw
    simp only [zNW, List.mem_cons, List.not_mem_nil, or_false] at hw
    rcases hw with rfl | rfl | rfl | rfl | rfl | rfl | rfl | rfl | rfl | rfl | rfl | rfl | rfl | rfl | rfl | rfl | rfl | rfl | rfl <;> exact va_Nw.same rfl rfl this, ⟨h4.moved hA, h5.moved hA, zAOA_moved hA h6⟩, h7.moved hA, h8.moved hA, h9.moved hA, h10⟩
/-- locals -/
def zL (P : zP) (n : Nat) (als : List Value) (ls : Array Slot) : Prop := als.length = n ∧ ls.size = n ∧ lv_wf ls ∧ ∀ (i : Nat) (v : Value), als[i]? = some v → v ≠ .null → ls[i]? = some (.val (zcv P v))
def zlv (P : zP) (als : List Value) : List (Nat × Value) := (List.range als.length).filterMap (fun i => match als[i]? with
  | some v => if v = .null then none else some (i, zcv P v)
  | none => none)
theorem zlv_mem {P : zP} {als : List Value} {i : Nat} {v : Value} (h : als[i]? = some v) (hv : v ≠ .null) : (i, zcv P v) ∈ zlv P als := by
  refine List.mem_filterMap.mpr ⟨i, List.mem_range.mpr (List.getElem?_eq_some_iff.mp h).1, ?_⟩
  rw [h]
  simp [hv]
theorem zL.has {P : zP} {n : Nat} {als : List Value} {ls : Array Slot} (h : zL P n als ls) : lv_has ls n (zlv P als) := by
  refine ⟨h.2.1, h.2.2.1, fun q hq => ?_⟩
  obtain ⟨i, -, hi⟩ := List.mem_filterMap.mp hq
  cases e : als[i]? with
  | none => rw [e] at hi; cases hi
  | some v =>
    rw [e] at hi
    by_cases hv : v = .null
    · simp [hv] at hi
    · simp only [hv, if_false, Option.some.injEq] at hi
      subst hi
      exact h.2.2.2 i v e hv
theorem zcv_cat (P : zP) (v : Value) : (zcv P v).category = v.category := by cases v <;> rfl
theorem zok1_cat {als : List Value} {i j : Nat} {w : Value} (h : zok1 als i = true) (hj : als[j]? = some w) (e : j + 1 = i) : ¬ w.category = 2 := by
  subst e
  simp only [zok1, hj] at h
  cases w <;> simp [Value.category] at h ⊢
theorem zL.st1 {P : zP} {n i : Nat} {als : List Value} {ls ls' : Array Slot} {v : Value} (h : zL P n als ls) (hok : zok1 als i = true) (h2 : lv_has ls' n ((i, zcv P v) :: (zlv P als).filter (fun q => !(q.1 == i) && !(q.1 + 1 == i && q.2.category == 2)))) : zL P n (als.set i v) ls' := by
  refine ⟨by rw [List.length_set]; exact h.1, h2.1, h2.2.1, fun j w hj hw => ?_⟩
  by_cases e : j = i
  · subst e
    have hl : j < als.length := by
      have := (List.getElem?_eq_some_iff.mp hj).1
      rwa [List.length_set] at this
    rw [List.getElem?_set_self hl] at hj
    cases hj
    exact h2.2.2 _ List.mem_cons_self
  · rw [List.getElem?_set_ne (Ne.symm e)] at hj
    refine h2.2.2 (j, zcv P w) (List.mem_cons_of_mem _ (List.mem_filter.mpr ⟨zlv_mem hj hw, ?_⟩))
    by_cases e2 : j + 1 = i
    · have := zok1_cat hok hj e2
      simp [e, zcv_cat, this]
    · simp [e, e2]
theorem zL.st2 {P : zP} {n i : Nat} {als : List Value} {ls ls' : Array Slot} {v : Value} (h : zL P n als ls) (hok : zok1 als i = true) (h2 : lv_has ls' n ((i, zcv P v) :: (zlv P als).filter (fun q => !(q.1 == i) && (!(q.1 == i + 1) && !(q.1 + 1 == i && q.2.category == 2))))) : zL P n ((als.set i v).set (i + 1) .null) ls' := by
  refine ⟨by rw [List.length_set, List.length_set]; exact h.1, h2.1, h2.2.1, fun j w hj hw => ?_⟩
  by_cases e1 : j = i + 1
  · subst e1
    have hl : i + 1 < (als.set i v).length := by
      have := (List.getElem?_eq_some_iff.mp hj).1
      rwa [List.length_set] at this
    rw [List.getElem?_set_self hl] at hj
    cases hj
    exact absurd rfl hw
  rw [List.getElem?_set_ne (Ne.symm e1)] at hj
  by_cases e : j = i
  · subst e
    have hl : j < als.length := by
      have := (List.getElem?_eq_some_iff.mp hj).1
      rwa [List.length_set] at this
    rw [List.getElem?_set_self hl] at hj
    cases hj
    exact h2.2.2 _ List.mem_cons_self
  · rw [List.getElem?_set_ne (Ne.symm e)] at hj
    refine h2.2.2 (j, zcv P w) (List.mem_cons_of_mem _ (List.mem_filter.mpr ⟨zlv_mem hj hw, ?_⟩))
    by_cases e2 : j + 1 = i
    · have := zok1_cat hok hj e2
      simp [e, e1, zcv_cat, this]
    · simp [e, e1, e2]
theorem zlay_has (P : zP) : ∀ (as : List Value) (i0 i : Nat) (v : Value), (∀ v ∈ as, ∀ x, v ≠ .double x) → (zlay as)[i]? = some v → v ≠ .null → (i0 + i, zcv P v) ∈ lv_args i0 (as.map (zcv P))
  | [], i0, i, v, _, h, _ => by simp [zlay] at h
  | a :: as, i0, i, v, hd, h, hv => by
    have hd2 : ∀ v ∈ as, ∀ x, v ≠ .double x := fun v hv => hd v (List.mem_cons_of_mem _ hv)
    by_cases ha : ∃ x, a = .long x
    · obtain ⟨x, rfl⟩ := ha
      match i, h with
      | 0, h =>
        simp only [zlay, List.getElem?_cons_zero, Option.some.injEq] at h
        subst h
        exact List.mem_cons_self
      | 1, h =>
        simp only [zlay, List.getElem?_cons_succ, List.getElem?_cons_zero, Option.some.injEq] at h
        exact absurd h.symm hv
      | i + 2, h =>
        simp only [zlay, List.getElem?_cons_succ] at h
        have := zlay_has P as (i0 + 2) i v hd2 h hv
        rw [show i0 + (i + 2) = i0 + 2 + i by omega]
        exact List.mem_cons_of_mem _ this
    · have e : zlay (a :: as) = a :: zlay as := by
        cases a with
        | long x => exact absurd ⟨x, rfl⟩ ha
        | _ => rfl
      have c1 : ¬ (zcv P a).category = 2 := by
        cases a with
        | long x => exact absurd ⟨x, rfl⟩ ha
        | double x => exact absurd rfl (hd _ List.mem_cons_self x)
        | _ => simp [zcv, Value.category]
      rw [e] at h
      show _ ∈ (i0, zcv P a) :: lv_args (if (zcv P a).category = 2 then i0 + 2 else i0 + 1) (as.map (zcv P))
      rw [if_neg c1]
      match i, h with
      | 0, h =>
        simp only [List.getElem?_cons_zero, Option.some.injEq] at h
        subst h
        exact List.mem_cons_self
      | i + 1, h =>
        simp only [List.getElem?_cons_succ] at h
        have := zlay_has P as (i0 + 1) i v hd2 h hv
        rw [show i0 + (i + 1) = i0 + 1 + i by omega]
        exact List.mem_cons_of_mem _ this
theorem zlay_len (P : zP) : ∀ (as : List Value), (∀ v ∈ as, ∀ x, v ≠ .double x) → (lg_sl (as.map (zcv P))).length = (zlay as).length
  | [], _ => rfl
  | a :: as, h => by
    have ih := zlay_len P as (fun v hv => h v (List.mem_cons_of_mem _ hv))
    cases a with
    | long x => simp only [List.map_cons, lg_sl, List.flatMap_cons, zcv, Value.category] at ih ⊢; simp [zlay, ih]
    | double x => exact absurd rfl (h _ List.mem_cons_self x)
    | _ => simp only [List.map_cons, lg_sl, List.flatMap_cons, zcv, Value.category] at ih ⊢; simp [zlay, ih]
/-- a cell is written anew -/
theorem zPic.put {P : zP} {h : zH} {H H1 : Heap} {k : Nat} {c : zC} (hP : zPic P h H) (hk : k + 2 < h.1) (z : H1.size = H.size) (oq : ∀ q, q ≠ zPb P + k → H1[q]? = H[q]?) (hc : zAt P (zPb P + k) c H1) : zPic P (zset h (k + 2) c) H1 := by
  obtain ⟨p1, p2, p3, p4, p5, p6, p7⟩ := hP
  refine ⟨z.trans p1, p2, fun q hq => (oq q (by omega)).trans (p3 q hq), ?_, ?_, fun j hj => ?_, fun j hj => ?_⟩
  · simp only [zset]; rw [if_neg (by omega)]; exact p4
  · simp only [zset]; rw [if_neg (by omega)]; exact p5
  · simp only [zset]
    by_cases e : j = k
    · subst e
      rw [if_pos rfl]
      exact hc
    · rw [if_neg (by omega)]
      exact (p6 j hj).kept (oq _ (by omega))
  · simp only [zset]
    have hj' : h.1 ≤ j := hj
    rw [if_neg (by omega)]
    exact p7 j hj
theorem zPic.new {P : zP} {h : zH} {H H1 : Heap} {c : zC} {n : Nat} (hP : zPic P h H) (z : H1.size = H.size + 1) (oq : ∀ q, q < H.size → H1[q]? = H[q]?) (hc : zAt P H.size c H1) : zPic P (znew h c n) H1 := by
  obtain ⟨p1, p2, p3, p4, p5, p6, p7⟩ := hP
  refine ⟨?_, ?_, fun q hq => (oq q (by omega)).trans (p3 q hq), ?_, ?_, fun j hj => ?_, fun j hj => ?_⟩
  · show H1.size = zPb P + (h.1 + 1 - 2); omega
  · show 2 ≤ h.1 + 1; omega
  · simp only [znew]; rw [if_neg (by omega)]; exact p4
  · simp only [znew]; rw [if_neg (by omega)]; exact p5
  · simp only [znew] at hj ⊢
    by_cases e : j + 2 = h.1
    · rw [if_pos e, show zPb P + j = H.size by omega]
      exact hc
    · rw [if_neg e]
      exact (p6 j (by omega)).kept (oq _ (by omega))
  · simp only [znew] at hj ⊢
    rw [if_neg (by omega)]
    exact p7 j (by omega)
theorem zin_vp {i : Int32} {n : Nat} (h : zin i n = true) : vp_in i n := by
  simp only [zin, Bool.and_eq_true, decide_eq_true_eq] at h
  exact vp_in_iff.mpr h
theorem zfit_ok {P : zP} {ty : FieldType} {v : Value} (h : zfit ty v = true) : narrow ty (zcv P v) = zcv P v ∧ fits ty (zcv P v) = true := by
  cases ty <;> cases v <;> simp [zfit] at h
  · exact ⟨rfl, rfl⟩
  · rcases h with rfl | rfl <;> exact ⟨show narrow .boolean (.int _) = .int _ by decide, show fits .boolean (.int _) = true by decide⟩
  · exact ⟨rfl, rfl⟩
  · exact ⟨rfl, rfl⟩
