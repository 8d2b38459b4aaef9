theorem zaci : Cond.arrayClass .int ∈ zWF := zWF_at (k := 2) (j := 1) rfl
theorem zacb : Cond.arrayClass .byte ∈ zWF := zWF_at (k := 4) (j := 22) rfl
theorem zacz : Cond.arrayClass .boolean ∈ zWF := zWF_at (k := 4) (j := 2) rfl
theorem zacl : Cond.arrayClass .long ∈ zWF := zWF_at (k := 4) (j := 16) rfl
theorem zobj1 : Cond.instanceMethod Lib.objectInit ∈ zWF := zWF_at (k := 0) (j := 11) rfl
theorem zobj2 : Cond.code Lib.objectInit ⟨#[0xb1]⟩ 1 none ∈ zWF := zWF_at (k := 0) (j := 12) rfl
theorem zcpy1 : Cond.native arraycopyName ∈ zWF := zWF_at (k := 49) (j := 10) rfl
theorem zcpy2 : Cond.static arraycopyName ∈ zWF := zWF_at (k := 49) (j := 11) rfl
theorem zcpy3 : Cond.initialized "java/lang/System" ∈ zWF := zWF_at (k := 49) (j := 12) rfl
theorem zmm0 : Cond.initialized "java/lang/Math" ∈ zWF := zWF_at (k := 18) (j := 4) rfl
theorem zmm1 : Cond.static Lib.Math.max.name ∈ zWF := zWF_at (k := 18) (j := 3) rfl
theorem zmm2 : Cond.code Lib.Math.max.name Lib.Math.max.code 2 (some .int) ∈ zWF := zWF_at (k := 18) (j := 5) rfl
theorem zmm3 : Cond.static Lib.Math.min.name ∈ zWF := zWF_at (k := 35) (j := 12) rfl
theorem zmm4 : Cond.code Lib.Math.min.name Lib.Math.min.code 2 (some .int) ∈ zWF := zWF_at (k := 35) (j := 13) rfl
theorem zinst {a : Nat} (h : a < 11) : Cond.instantiable (zcl a).1 (zcl a).2.2 ∈ zWF ∧ Cond.initialized (zcl a).1 ∈ zWF := by
  match a, h with
  | 0, _ => exact ⟨zWF_at (k := 1) (j := 20) rfl, zWF_at (k := 1) (j := 21) rfl⟩
  | 1, _ => exact ⟨zWF_at (k := 1) (j := 8) rfl, zWF_at (k := 1) (j := 9) rfl⟩
  | 2, _ => exact ⟨zWF_at (k := 1) (j := 4) rfl, zWF_at (k := 1) (j := 5) rfl⟩
  | 3, _ => exact ⟨zWF_at (k := 0) (j := 20) rfl, zWF_at (k := 0) (j := 21) rfl⟩
  | 4, _ => exact ⟨zWF_at (k := 1) (j := 0) rfl, zWF_at (k := 1) (j := 1) rfl⟩
  | 5, _ => exact ⟨zWF_at (k := 1) (j := 12) rfl, zWF_at (k := 1) (j := 13) rfl⟩
  | 6, _ => exact ⟨zWF_at (k := 2) (j := 7) rfl, zWF_at (k := 2) (j := 8) rfl⟩
  | 7, _ => exact ⟨zWF_at (k := 0) (j := 16) rfl, zWF_at (k := 0) (j := 17) rfl⟩
  | 8, _ => exact ⟨zWF_at (k := 1) (j := 16) rfl, zWF_at (k := 1) (j := 17) rfl⟩
  | 9, _ => exact ⟨zWF_at (k := 0) (j := 1) rfl, zWF_at (k := 0) (j := 2) rfl⟩
  | 10, _ => exact ⟨zWF_at (k := 0) (j := 4) rfl, zWF_at (k := 0) (j := 5) rfl⟩
theorem ztf_ok {a b : Nat} (h : a < 11) (hb : b < (zcl a).2.2) : parseFieldDescriptor ((zcl a).2.1 b).2.2.1 = some (ztf a b) := by
  match a, h with
  | 0, _ => exact tyX0_ok b hb
  | 1, _ => exact tyX1_ok b hb
  | 2, _ => exact tyX2_ok b hb
  | 3, _ => exact tyX3_ok b hb
  | 4, _ => exact tyX4_ok b hb
  | 5, _ => exact tyX5_ok b hb
  | 6, _ => exact tyX6_ok b hb
  | 7, _ => exact tyX7_ok b hb
  | 8, _ => exact tyX8_ok b hb
  | 9, _ => exact tyX9_ok b hb
  | 10, _ => exact tyX10_ok b hb
theorem znm_ok {a : Nat} (h : a < 11) : ∀ x, x < (zcl a).2.2 → ∀ y, y < (zcl a).2.2 → x ≠ y → ((zcl a).2.1 x).2.1 ≠ ((zcl a).2.1 y).2.1 := by
  match a, h with
  | 0, _ => exact nmX0
  | 1, _ => exact nmX1
  | 2, _ => exact nmX2
  | 3, _ => exact nmX3
  | 4, _ => exact nmX4
  | 5, _ => exact nmX5
  | 6, _ => exact nmX6
  | 7, _ => exact nmX7
  | 8, _ => exact nmX8
  | 9, _ => exact nmX9
  | 10, _ => exact nmX10
theorem zapart {P : zP} {s : State} {args : Array Value} {a : Nat} (hts : ∀ w ∈ zWF, w.before args s = true) (hK : zKK P s) (ha : a < 11) : ∀ x y, x < (zcl a).2.2 → y < (zcl a).2.2 → x ≠ y → ((zPD P).2 a) x ≠ ((zPD P).2 a) y := by
  intro x y hx hy hne
  obtain ⟨hS, -⟩ := hK.1 a ha
  obtain ⟨_, _, _, fa, hia, ea⟩ := hS x hx
  obtain ⟨_, _, _, fb, hib, eb⟩ := hS y hy
  rw [← ea, ← eb]
  refine u_apart (u_lays hts (zclx a ha) hx) (u_lays hts (zclx a ha) hy) hia hib ?_
  rw [(State.fieldFound?_type hia (ztf_ok ha hx)).1, (State.fieldFound?_type hib (ztf_ok ha hy)).1]
  exact znm_ok ha x hx y hy hne
theorem zdef_get {ci n j : Nat} (h : j < n) : (zdef ci n).getD j .null = defaultValue (ztf ci j) := by
  simp [zdef, List.getD_eq_getElem?_getD, h]
theorem zcv_default {P : zP} (ty : FieldType) : zcv P (defaultValue ty) = defaultValue ty := by
  cases ty <;> rfl
section ZS
variable {P : zP} {p : Program} {l : Launch} {e : Env} {R : Room} {s : State} {m : MethodId} {args : Array Value} {below : List Frame} {meth : Method} {c : Code} {H : Heap} {locs : List Loc} {Q : State → Prop} {mi pc : Nat} {ls : Array Slot} {als ast : List Value} {h : zH} {cells slots : Nat}
theorem zPic.arr {q t n : Nat} {f : zA} (hP : zPic P h H) (ha : h.2.2 q = .inl (t, n, f)) (h2 : 2 ≤ q) : zAt P (zad P q) (.inl (t, n, f)) H ∧ q < h.1 := by
  obtain ⟨p1, p2, p3, p4, p5, p6, p7⟩ := hP
  have hlt : q < h.1 := by
    rcases Nat.lt_or_ge q h.1 with g | g
    · exact g
    · rw [p7 q g] at ha; cases ha
  obtain ⟨k, rfl⟩ : ∃ k, q = k + 2 := ⟨q - 2, by omega⟩
  have := p6 k hlt
  rw [ha] at this
  exact ⟨this, hlt⟩
theorem zPic.ge2 {q t n : Nat} {f : zA} (hP : zPic P h H) (ha : h.2.2 q = .inl (t, n, f)) (ht : t ≠ 0) : 2 ≤ q := by
  obtain ⟨p1, p2, p3, p4, p5, p6, p7⟩ := hP
  match q, ha with
  | 0, ha => rw [p4] at ha; cases ha; exact absurd rfl ht
  | 1, ha => rw [p5] at ha; cases ha; exact absurd rfl ht
  | q + 2, _ => omega
theorem zPic.obj {q ci : Nat} {fs : List Value} (hP : zPic P h H) (ha : h.2.2 q = .inr (ci, fs)) (hci : ci < 11) : 2 ≤ q ∧ q < h.1 ∧ zAt P (zad P q) (.inr (ci, fs)) H := by
  obtain ⟨p1, p2, p3, p4, p5, p6, p7⟩ := hP
  have hlt : q < h.1 := by
    rcases Nat.lt_or_ge q h.1 with g | g
    · exact g
    · rw [p7 q g] at ha
      cases ha
      omega
  match q, ha, hlt with
  | 0, ha, _ => rw [p4] at ha; cases ha
  | 1, ha, _ => rw [p5] at ha; cases ha
  | k + 2, ha, hlt =>
    have := p6 k hlt
    rw [ha] at this
    exact ⟨by omega, hlt, this⟩
/-- reading a row of ints, also the script and the row of kinds -/
theorem zPic.ints {q n : Nat} {f : Nat → Int32} (hP : zPic P h H) (hK : zKK P s) (ha : h.2.2 q = .inl (0, n, .inl f)) {i : Int32} (hi : vp_in i n) : ∃ cell : Cell, H[zad P q]? = some cell ∧ s.isArrayOf cell .int ∧ cell.vm ≠ .unknown ∧ ¬ (i < 0 ∨ cell.slots.size ≤ i.toNatClampNeg) ∧ cell.slots[i.toNatClampNeg]? = some (.int (f i.toNatClampNeg)) := by
  have hlt : i.toNatClampNeg < n := Nat.not_le.mp fun q => hi (Or.inr q)
  obtain ⟨k1, k2, k3, k4, k5, k6, k7, k8, k9, k10⟩ := hK
  match q, ha with
  | 0, ha =>
    rw [hP.2.2.2.1] at ha
    cases ha
    obtain ⟨scr, h1, h2, h3, h4, h5⟩ := k6
    exact ⟨scr, (hP.2.2.1 _ k8).trans h1, h2, h3, by rw [h4]; exact hi, h5 _ hlt⟩
  | 1, ha =>
    rw [hP.2.2.2.2.1] at ha
    cases ha
    obtain ⟨scr, h1, h2, h3, h4, h5⟩ := k7
    exact ⟨scr, (hP.2.2.1 _ k9).trans h1, h2, h3, by rw [h4]; exact hi, h5 _ hlt⟩
  | q + 2, ha =>
    obtain ⟨⟨-, a1⟩, -⟩ := hP.arr ha (by omega)
    exact ⟨_, a1, (k2 0 (by omega)).1 n _, (fun q => by cases q), by rw [arrV_size]; exact hi, by rw [arrV_read _ _ hlt]⟩
theorem zPic.put2 {q : Nat} {c1 : zC} {H1 : Heap} (hP : zPic P h H) (h2 : 2 ≤ q) (hq : q < h.1) (z : H1.size = H.size) (oq : ∀ x, x ≠ zad P q → H1[x]? = H[x]?) (hc : zAt P (zad P q) c1 H1) : zPic P (zset h q c1) H1 := by
  obtain ⟨k, rfl⟩ : ∃ k, q = k + 2 := ⟨q - 2, by omega⟩
  exact hP.put hq z oq hc
theorem zlocs_add {q k : Nat} (hlc : ∀ x ∈ locs, zPb P ≤ x.base) (h2 : 2 ≤ q) : ∀ x ∈ locs ++ [(⟨zad P q, k⟩ : Loc)], zPb P ≤ x.base := by
  intro x hx
  rcases List.mem_append.mp hx with h | h
  · exact hlc x h
  · rw [List.mem_singleton.mp h]
    obtain ⟨k, rfl⟩ : ∃ k, q = k + 2 := ⟨q - 2, by omega⟩
    exact Nat.le_add_right _ _
theorem znat {x : Int32} (h : 0 ≤ x.toInt) : ¬ x < 0 := by
  rw [Int32.lt_iff_toInt_lt]; simpa using h
theorem zin_nat {n : Int32} {N : Nat} (h : zin n N = true) : ¬ n < 0 ∧ n.toNatClampNeg < N := by
  have := zin_vp h
  exact ⟨fun q => this (Or.inl q), Nat.not_le.mp fun q => this (Or.inr q)⟩
theorem zcat_of {v : Value} (h : Nat.beq v.category 1 = true) : (zcv P v).category = 1 := by
  rw [zcv_cat]; exact Nat.eq_of_beq_eq_true h
theorem zrest {r : List Value} (h : r.length ≤ 4) : ((r.map (zcv P)).map fun v => v.category).sum ≤ 8 := by
  have key : ∀ (r : List Value), ((r.map (zcv P)).map fun v => v.category).sum ≤ 2 * r.length := by
    intro r
    induction r with
    | nil => simp
    | cons v r ih =>
      simp only [List.map_cons, List.sum_cons, List.length_cons]
      have : (zcv P v).category ≤ 2 := by rcases lv_cat (zcv P v) with q | q <;> omega
      omega
  have := key r
  omega
theorem zrest8 {r : List Value} (h : zrl r = true) : ((r.map (zcv P)).map fun v => v.category).sum ≤ 8 := by
  rw [zrl, Bool.or_eq_true] at h
  rcases h with h | h
  · exact zrest (Nat.le_of_ble_eq_true h)
  · have key : ∀ (r : List Value), ((r.map (zcv P)).map fun v => v.category).sum = zcts r := by
      intro r
      induction r with
      | nil => rfl
      | cons v r ih => simp only [List.map_cons, List.sum_cons, zcts, zcv_cat, ih]
    rw [key]
    exact Nat.le_of_ble_eq_true h
theorem zKK_fn {t : Nat} {cA : ClassId} (hK : zKK P s) (ht : t < 4) (h : s.vm.findClass ("[" ++ (zty t).toString) = some cA) : cA = zPA P t := by
  have h2 := (hK.2.1 t (by omega)).2
  match t, ht with
  | 0, _ => exact Option.some.inj (h.symm.trans h2)
  | 1, _ => exact Option.some.inj (h.symm.trans h2)
  | 2, _ => exact Option.some.inj (h.symm.trans h2)
  | 3, _ => exact Option.some.inj (h.symm.trans h2)
theorem zad_new (hP : zPic P h H) (i : Nat) : zad P (h.1 + 1 + i) = H.size + 1 + i := by
  have p1 := hP.1
  have p2 := hP.2.1
  obtain ⟨q, hq⟩ : ∃ q, h.1 = q + 2 := ⟨h.1 - 2, by omega⟩
  rw [hq] at p1 ⊢
  rw [show q + 2 + 1 + i = (q + 1 + i) + 2 by omega]
  show zPb P + (q + 1 + i) = _
  omega
theorem zad_ge {q : Nat} (h2 : 2 ≤ q) : zPb P ≤ zad P q := by
  obtain ⟨k, rfl⟩ : ∃ k, q = k + 2 := ⟨q - 2, by omega⟩
  exact Nat.le_add_right _ _
theorem zW_cpy {A0 A1 : Nat} {f g : Nat → Int32} {n0 n1 : Nat} {sp dp n : Int32} {cc : ByteArray} {rest : List Value} {own : String} {index : Nat} (hx : p.tables.exec = Jvm.exec) (hb : c.code = cc) (hml : c.maxLocals = ls.size) (hown : s.vm.findClass own = some m.cls) (hlink : (Cond.methodLink own index arraycopyName).before args s = true) (hts : ∀ w ∈ zWF, w.before args s = true) (hK : zKK P s)
    (hc0 : H[A0]? = some (arrV (zPA P 0) n0 (fun j => .int (f j)))) (hc1 : H[A1]? = some (arrV (zPA P 0) n1 (fun j => .int (g j)))) (h1 : 0 ≤ sp.toInt) (h2 : 0 ≤ dp.toInt) (h3 : 0 ≤ n.toInt) (h4 : sp.toNatClampNeg + n.toNatClampNeg ≤ n0) (h5 : dp.toNatClampNeg + n.toNatClampNeg ≤ n1)
    (hframes : 1 ≤ R.frames) (hlocals : (rest.map fun v => v.category).sum + 18 ≤ R.locals) (hdg : decode cc pc = .ok (.invokestatic index, 3))
    (kk : ∀ (H1 : Heap) (L : List Loc), H1[A1]? = some (arrV (zPA P 0) n1 (fun j => .int (va_cpy f g sp.toNatClampNeg dp.toNatClampNeg n.toNatClampNeg j))) → H1.size = H.size → (∀ q, q ≠ A1 → H1[q]? = H[q]?) → (∀ x ∈ L, x.base = A1) → W p l e R s m args below meth c H1 (locs ++ L) cells slots Q (F0 m (pc + 3) ls rest)) :
    W p l e R s m args below meth c H locs cells slots Q (F0 m pc ls (.int n :: .int dp :: .ref A1 :: .int sp :: .ref A0 :: rest)) := by
  have nn : ∀ z : Int32, 0 ≤ z.toInt → z.toInt = (z.toNatClampNeg : Int) := by
    intro z hz
    show z.toInt = ((z.toInt.toNat : Nat) : Int)
    omega
  intro T hT X
  obtain ⟨-, k0, hk0, cm0, hkk0⟩ := (hK.2.1 0 (by omega)).1 n0 (fun j => .int (f j))
  obtain ⟨-, k1, hk1, cm1, hkk1⟩ := (hK.2.1 0 (by omega)).1 n1 (fun j => .int (g j))
  obtain ⟨vm', X', step⟩ := X.arraycopy hx hown hlink (hts _ zcpy1) (hts _ zcpy2) (hts _ zcpy3) (src := A0) (dst := A1) (cs := arrV (zPA P 0) n0 (fun j => .int (f j))) (cd := arrV (zPA P 0) n1 (fun j => .int (g j))) (srcPos := sp) (destPos := dp) (n := n) (by rw [hT]; exact hc0) (by rw [hT]; exact hc1)
    (fun _ h => by cases h) (fun _ h => by cases h) (fun h => by cases h) (fun h => by cases h) hk0 hk1 hkk0 hkk1 rfl (znat h1) (znat h2) (znat h3)
    (by rw [nn sp h1, nn n h3, arrV_size]; omega)
    (by rw [nn dp h2, nn n h3, arrV_size]; omega)
    (fun vm₁ _ i hi => by
      have e : (arrV (zPA P 0) n0 (fun j => .int (f j))).slots.getD (sp.toNatClampNeg + i) .null = .int (f (sp.toNatClampNeg + i)) := by
        rw [Array.getD_eq_getD_getElem?, arrV_read _ _ (by omega)]
        rfl
      refine ⟨?_, ?_⟩
      · rw [e]
        rfl
      · rw [e]
        exact trivial)
    (g := F0 m pc ls (.int n :: .int dp :: .ref A1 :: .int sp :: .ref A0 :: rest)) rfl (by rw [hml]) (rest := rest) rfl (by rw [hb]; exact hdg) hframes (by
      have : nativeFrameWords "java/lang/System" "arraycopy" 5 = 7 := by decide
      rw [this]
      show 2 * 0 + _ + _ ≤ _; omega)
  have e1 : copied (arrV (zPA P 0) n0 (fun j => .int (f j))) (arrV (zPA P 0) n1 (fun j => .int (g j))) sp dp n = arrV (zPA P 0) n1 (fun j => .int (va_cpy f g sp.toNatClampNeg dp.toNatClampNeg n.toNatClampNeg j)) := va_copied (fun z => .int z) _ _ f g h4
  rw [e1] at X' step
  have hl : A1 < H.size := (Array.getElem?_eq_some_iff.mp hc1).1
  generalize hC : arrV (zPA P 0) n1 (fun j => .int (va_cpy f g sp.toNatClampNeg dp.toNatClampNeg n.toNatClampNeg j)) = C1 at X' step kk
  have hheap : ((T.setVm vm').setCell A1 C1).heap = H.setIfInBounds A1 C1 := by rw [← hT]; rfl
  obtain ⟨t, a1, b1⟩ := kk (H.setIfInBounds A1 C1) _ (by simp [Array.getElem?_setIfInBounds, hl]) (by simp) (fun q hq => by simp [Array.getElem?_setIfInBounds, Ne.symm hq]) (fun x hx => by
      obtain ⟨z, -, hz⟩ := List.mem_map.mp hx
      rw [← hz]) _ hheap X'
  exact ⟨t, step t a1, b1⟩
theorem zouter (c : ClassId) (N h0 : Nat) : ∀ i : Nat, Jvm.Free.Multi.outerC c N h0 i = arrV c N (fun j => va_rf (if j < i then some (h0 + 1 + j) else none))
  | 0 => by
    show ({ cls := c, slots := Array.replicate N .null, vm := .none } : Cell) = _
    rw [arrV_new]
    refine congrArg (arrV c N) (funext fun j => ?_)
    simp [va_rf]
  | i + 1 => by
    show (Jvm.Free.Multi.outerC c N h0 i).setSlot i (.ref (h0 + 1 + i)) = _
    rw [zouter c N h0 i, arrV_store]
    refine congrArg (arrV c N) (funext fun j => ?_)
    by_cases e : j = i
    · subst e
      simp [updV, va_rf]
    · by_cases h : j < i
      · simp [updV, e, h, Nat.lt_succ_of_lt h]
      · simp [updV, e, h, show ¬ j < i + 1 by omega]
theorem zW_mul {n k : Int32} {cc : ByteArray} {rest : List Value} {own : String} {index : Nat} (hx : p.tables.exec = Jvm.exec) (hb : c.code = cc) (hown : s.vm.findClass own = some m.cls) (hlink : (Cond.classLink own index "[[I").before args s = true) (hts : ∀ w ∈ zWF, w.before args s = true) (hK : zKK P s)
    (hn : ¬ n < 0) (hk : ¬ k < 0) (hN : n.toNatClampNeg < 1000) (hM : k.toNatClampNeg < 1000) (hcells : cells + (1 + n.toNatClampNeg) ≤ R.cells) (hslots : slots + (n.toNatClampNeg + n.toNatClampNeg * k.toNatClampNeg) ≤ R.slots) (hdg : decode cc pc = .ok (.multianewarray index 2, 4))
    (kk : ∀ H1 : Heap, H1.size = H.size + 1 + n.toNatClampNeg → H1[H.size]? = some (arrV (zPA P 6) n.toNatClampNeg (fun j => va_rf (if j < n.toNatClampNeg then some (H.size + 1 + j) else none))) → (∀ j, j < n.toNatClampNeg → H1[H.size + 1 + j]? = some (arrV (zPA P 0) k.toNatClampNeg (fun _ => .int 0))) → (∀ q, q < H.size → H1[q]? = H[q]?) → W p l e R s m args below meth c H1 locs (cells + 1 + n.toNatClampNeg) (slots + n.toNatClampNeg + n.toNatClampNeg * k.toNatClampNeg) Q (F0 m (pc + 4) ls (.ref H.size :: rest))) :
    W p l e R s m args below meth c H locs cells slots Q (F0 m pc ls (.int k :: .int n :: rest)) := by
  intro T hT X
  obtain ⟨vm₁, cA, comp, -, fA, fC, hO, -, X', step⟩ := X.multianewarray2F hx (ty := .int) hown (show (Cond.classLink own index ("[" ++ (FieldType.array .int).toString)).before args s = true from hlink) (show (Cond.arrayOver (.array .int)).before args s = true from hK.2.2.2.1.2.2) (hts _ zaci) (g := F0 m pc ls (.int k :: .int n :: rest)) rfl (by rw [hb]; exact hdg) rfl hn hk (by omega) (by simp only [componentBytes]; omega) (by omega) rfl rfl hcells hslots
  have eA : cA = zPA P 6 := Option.some.inj (fA.symm.trans (hK.2.1 6 (by omega)).2)
  have eC : comp = zPA P 0 := Option.some.inj (fC.symm.trans (hK.2.1 0 (by omega)).2)
  subst eA eC
  generalize hF : Jvm.Free.Multi.fill (T.setVm vm₁) (zPA P 6) (zPA P 0) n.toNatClampNeg k.toNatClampNeg (defaultValue .int) n.toNatClampNeg = F at X' step
  have hTh : (T.setVm vm₁).heap = H := hT
  obtain ⟨f1, f2, -, -⟩ := Jvm.Free.Multi.fill_facts (T.setVm vm₁) (zPA P 6) (zPA P 0) n.toNatClampNeg k.toNatClampNeg (defaultValue .int) n.toNatClampNeg
  rw [hF, hTh] at f1 f2
  rw [zouter] at f2
  obtain ⟨t, a1, b1⟩ := kk F.heap f1 f2 (fun j hj => by
    have := Jvm.Free.Multi.fill_inner (T.setVm vm₁) (zPA P 6) (zPA P 0) n.toNatClampNeg k.toNatClampNeg (defaultValue .int) n.toNatClampNeg j hj
    rw [hF, hTh] at this
    rw [this]
    exact congrArg some (arrV_new _ _ _)) (fun x hx => by
    have := Jvm.Free.Multi.fill_old (T.setVm vm₁) (zPA P 6) (zPA P 0) n.toNatClampNeg k.toNatClampNeg (defaultValue .int) (a := x) (by rw [hTh]; exact hx) n.toNatClampNeg
    rw [hF, hTh] at this
    exact this) F rfl X'
  exact ⟨t, step t (by rw [← hT] at a1; exact a1), b1⟩
set_option maxHeartbeats 8000000 in
set_option maxRecDepth 100000 in
theorem zs_nx {ai : zI} {c0 s0 pc' : Nat} {als' ast' : List Value} {h' : zH} (Cx : zCx P p s m args meth c mi) (hok : zokI mi pc ai = true) (hs : zstep ai als ast h = .inl (true, pc', als', ast', h'))
    (hl : zL P (zml mi) als ls) (hP : zPic P h H) (hlc : ∀ x ∈ locs, zPb P ≤ x.base) (hc0 : c0 ≤ h.1) (hs0 : s0 ≤ h.2.1) (hR1 : h'.1 - c0 ≤ R.cells) (hR2 : h'.2.1 - s0 ≤ R.slots) (hR3 : 1 ≤ R.frames) (hR4 : 100 ≤ R.locals)
    (K : ∀ (H' : Heap) (ls' : Array Slot) (locs' : List Loc), zPic P h' H' → zL P (zml mi) als' ls' → (∀ x ∈ locs', zPb P ≤ x.base) → W p l e R s m args below meth c H' locs' (h'.1 - c0) (h'.2.1 - s0) Q (F0 m pc' ls' (ast'.map (zcv P)))) :
    W p l e R s m args below meth c H locs (h.1 - c0) (h.2.1 - s0) Q (F0 m pc ls (ast.map (zcv P))) := by
  obtain ⟨hx, hb, hown, hml, hlk, hin, hts, hK⟩ := Cx
  obtain ⟨i, nx, a, b, k, v⟩ := ai
  cases i
  case iconst n =>
    obtain ⟨hd, rfl, hX⟩ := zok_d hok
    have hv := of_decide_eq_true hX
    subst hv
    cases hs
    exact lv_iconst hx hb hd rfl (K H ls locs hP hl hlc)
  case bipush n =>
    obtain ⟨hd, rfl, hX⟩ := zok_d hok
    have hv := of_decide_eq_true hX
    subst hv
    cases hs
    exact lv_bipush hx hb hd rfl (K H ls locs hP hl hlc)
  case sipush n =>
    obtain ⟨hd, rfl, hX⟩ := zok_d hok
    have hv := of_decide_eq_true hX
    subst hv
    cases hs
    exact lv_sipush hx hb hd rfl (K H ls locs hP hl hlc)
  case lconst n =>
    obtain ⟨hd, rfl, hX⟩ := zok_d hok
    have hv := of_decide_eq_true hX
    subst hv
    cases hs
    exact lv_lconst hx hb hd rfl (K H ls locs hP hl hlc)
  case ldc_w n =>
    obtain ⟨hd, rfl, hX⟩ := zok_d hok
    cases v with
    | int x =>
      cases hs
      exact lv_ldcw hx hb hown (hts _ (zw_in hX)) hd (K H ls locs hP hl hlc)
    | _ => cases hX
  case ldc2_w n =>
    obtain ⟨hd, rfl, hX⟩ := zok_d hok
    cases v with
    | long x =>
      cases hs
      exact lv_ldc2 hx hb hown (hts _ (zw_in hX)) hd (K H ls locs hP hl hlc)
    | _ => cases hX
  case iload_n n =>
    obtain ⟨hd, rfl, hX⟩ := zok_d hok
    obtain ⟨x, hg, rfl, rfl, rfl, rfl⟩ := zv_getI hs
    exact lv_iload_n hx hb hd (Nat.eq_of_beq_eq_true hX) (hl.2.2.2 _ _ hg (by intro q; cases q)) (K H ls locs hP hl hlc)
  case iload n =>
    obtain ⟨hd, rfl, hX⟩ := zok_d hok
    have e := Nat.eq_of_beq_eq_true hX
    subst e
    obtain ⟨x, hg, rfl, rfl, rfl, rfl⟩ := zv_getI hs
    exact lv_iload hx hb hd (hl.2.2.2 _ _ hg (by intro q; cases q)) (K H ls locs hP hl hlc)
  case lload_n n =>
    obtain ⟨hd, rfl, hX⟩ := zok_d hok
    obtain ⟨x, hg, rfl, rfl, rfl, rfl⟩ := zv_getL hs
    exact lv_lload_n hx hb hd (Nat.eq_of_beq_eq_true hX) (hl.2.2.2 _ _ hg (by intro q; cases q)) (K H ls locs hP hl hlc)
  case lload n =>
    obtain ⟨hd, rfl, hX⟩ := zok_d hok
    have e := Nat.eq_of_beq_eq_true hX
    subst e
    obtain ⟨x, hg, rfl, rfl, rfl, rfl⟩ := zv_getL hs
    exact lv_lload hx hb hd (hl.2.2.2 _ _ hg (by intro q; cases q)) (K H ls locs hP hl hlc)
  case aload_n n =>
    obtain ⟨hd, rfl, hX⟩ := zok_d hok
    obtain ⟨x, hg, rfl, rfl, rfl, rfl⟩ := zv_getA hs
    exact lv_aload_n hx hb hd (Nat.eq_of_beq_eq_true hX) (hl.2.2.2 _ _ hg (by intro q; cases q)) (K H ls locs hP hl hlc)
  case aload n =>
    obtain ⟨hd, rfl, hX⟩ := zok_d hok
    have e := Nat.eq_of_beq_eq_true hX
    subst e
    obtain ⟨x, hg, rfl, rfl, rfl, rfl⟩ := zv_getA hs
    exact lv_aload hx hb hd (hl.2.2.2 _ _ hg (by intro q; cases q)) (K H ls locs hP hl hlc)
  case istore_n n =>
    obtain ⟨hd, rfl, hX⟩ := zok_d hok
    obtain ⟨x, rfl, hok1, hlt, rfl, rfl, rfl⟩ := zv_putI hs
    exact lv_istore_n hx hb hd (Nat.eq_of_beq_eq_true hX) hl.has (by rw [← hl.1]; exact hlt) rfl (fun ls' h2 => K H ls' locs hP (hl.st1 hok1 h2) hlc)
  case istore n =>
    obtain ⟨hd, rfl, hX⟩ := zok_d hok
    have e := Nat.eq_of_beq_eq_true hX
    subst e
    obtain ⟨x, rfl, hok1, hlt, rfl, rfl, rfl⟩ := zv_putI hs
    exact lv_istore hx hb hd hl.has (by rw [← hl.1]; exact hlt) rfl (fun ls' h2 => K H ls' locs hP (hl.st1 hok1 h2) hlc)
  case astore_n n =>
    obtain ⟨hd, rfl, hX⟩ := zok_d hok
    obtain ⟨x, rfl, hok1, hlt, rfl, rfl, rfl⟩ := zv_putA hs
    exact lv_astore_n hx hb hd (Nat.eq_of_beq_eq_true hX) hl.has (by rw [← hl.1]; exact hlt) rfl (fun ls' h2 => K H ls' locs hP (hl.st1 hok1 h2) hlc)
  case astore n =>
    obtain ⟨hd, rfl, hX⟩ := zok_d hok
    have e := Nat.eq_of_beq_eq_true hX
    subst e
    obtain ⟨x, rfl, hok1, hlt, rfl, rfl, rfl⟩ := zv_putA hs
    exact lv_astore hx hb hd hl.has (by rw [← hl.1]; exact hlt) rfl (fun ls' h2 => K H ls' locs hP (hl.st1 hok1 h2) hlc)
  case lstore_n n =>
    obtain ⟨hd, rfl, hX⟩ := zok_d hok
    obtain ⟨x, rfl, hok1, hlt, rfl, rfl, rfl⟩ := zv_putL hs
    exact lv_lstore_n hx hb hd (Nat.eq_of_beq_eq_true hX) hl.has (by rw [← hl.1]; exact hlt) rfl (fun ls' h2 => K H ls' locs hP (hl.st2 hok1 h2) hlc)
  case lstore n =>
    obtain ⟨hd, rfl, hX⟩ := zok_d hok
    have e := Nat.eq_of_beq_eq_true hX
    subst e
    obtain ⟨x, rfl, hok1, hlt, rfl, rfl, rfl⟩ := zv_putL hs
    exact lv_lstore hx hb hd hl.has (by rw [← hl.1]; exact hlt) rfl (fun ls' h2 => K H ls' locs hP (hl.st2 hok1 h2) hlc)
  case iinc n z =>
    obtain ⟨hd, rfl, hX⟩ := zok_d hok
    simp only [zokX, Bool.and_eq_true, decide_eq_true_eq] at hX
    have e := Nat.eq_of_beq_eq_true hX.1
    subst e
    obtain ⟨x, k2, hv, hg, hok1, hlt, rfl, rfl, rfl, rfl⟩ := zv_inc hs
    have hk2 : k2 = Int32.ofInt z := by rw [hX.2] at hv; cases hv; rfl
    subst hk2
    obtain ⟨kk, hkk⟩ := List.getElem?_of_mem (zlv_mem (P := P) hg (by intro q; cases q))
    exact lv_iinc hx hb hd hl.has hkk rfl (by rw [← hl.1]; exact hlt) rfl (fun ls' h2 => K H ls' locs hP (hl.st1 hok1 h2) hlc)
  case iadd =>
    obtain ⟨hd, rfl, -⟩ := zok_d hok
    obtain ⟨y, x, r, rfl, rfl, rfl, rfl, rfl⟩ := zv_2i hs
    exact lv_iadd hx hb hd (K H ls locs hP hl hlc)
  case isub =>
    obtain ⟨hd, rfl, -⟩ := zok_d hok
    obtain ⟨y, x, r, rfl, rfl, rfl, rfl, rfl⟩ := zv_2i hs
    exact lv_isub hx hb hd (K H ls locs hP hl hlc)
  case imul =>
    obtain ⟨hd, rfl, -⟩ := zok_d hok
    obtain ⟨y, x, r, rfl, rfl, rfl, rfl, rfl⟩ := zv_2i hs
    exact lv_imul hx hb hd (K H ls locs hP hl hlc)
  case iand =>
    obtain ⟨hd, rfl, -⟩ := zok_d hok
    obtain ⟨y, x, r, rfl, rfl, rfl, rfl, rfl⟩ := zv_2i hs
    exact lv_iand hx hb hd (K H ls locs hP hl hlc)
  case ior =>
    obtain ⟨hd, rfl, -⟩ := zok_d hok
    obtain ⟨y, x, r, rfl, rfl, rfl, rfl, rfl⟩ := zv_2i hs
    exact lv_ior hx hb hd (K H ls locs hP hl hlc)
  case ixor =>
    obtain ⟨hd, rfl, -⟩ := zok_d hok
    obtain ⟨y, x, r, rfl, rfl, rfl, rfl, rfl⟩ := zv_2i hs
    exact lv_ixor hx hb hd (K H ls locs hP hl hlc)
  case ishl =>
    obtain ⟨hd, rfl, -⟩ := zok_d hok
    obtain ⟨y, x, r, rfl, rfl, rfl, rfl, rfl⟩ := zv_2i hs
    exact lv_ishl hx hb hd (K H ls locs hP hl hlc)
  case ishr =>
    obtain ⟨hd, rfl, -⟩ := zok_d hok
    obtain ⟨y, x, r, rfl, rfl, rfl, rfl, rfl⟩ := zv_2i hs
    exact lv_ishr hx hb hd (K H ls locs hP hl hlc)
  case iushr =>
    obtain ⟨hd, rfl, -⟩ := zok_d hok
    obtain ⟨y, x, r, rfl, rfl, rfl, rfl, rfl⟩ := zv_2i hs
    exact lv_iushr hx hb hd rfl (K H ls locs hP hl hlc)
  case idiv =>
    obtain ⟨hd, rfl, -⟩ := zok_d hok
    obtain ⟨y, x, r, rfl, hne, rfl, rfl, rfl, rfl⟩ := zv_2d hs
    exact lv_idiv hx hb hd (of_decide_eq_true hne) (K H ls locs hP hl hlc)
  case irem =>
    obtain ⟨hd, rfl, -⟩ := zok_d hok
    obtain ⟨y, x, r, rfl, hne, rfl, rfl, rfl, rfl⟩ := zv_2d hs
    exact lv_irem hx hb hd (of_decide_eq_true hne) (K H ls locs hP hl hlc)
  case ineg =>
    obtain ⟨hd, rfl, -⟩ := zok_d hok
    obtain ⟨x, r, rfl, rfl, rfl, rfl, rfl⟩ := zv_1i hs
    exact lv_ineg hx hb hd (K H ls locs hP hl hlc)
  case i2b =>
    obtain ⟨hd, rfl, -⟩ := zok_d hok
    obtain ⟨x, r, rfl, rfl, rfl, rfl, rfl⟩ := zv_1i hs
    exact lv_i2b hx hb hd rfl (K H ls locs hP hl hlc)
  case i2c =>
    obtain ⟨hd, rfl, -⟩ := zok_d hok
    obtain ⟨x, r, rfl, rfl, rfl, rfl, rfl⟩ := zv_1i hs
    exact lv_i2c hx hb hd rfl (K H ls locs hP hl hlc)
  case ladd =>
    obtain ⟨hd, rfl, -⟩ := zok_d hok
    obtain ⟨y, x, r, rfl, rfl, rfl, rfl, rfl⟩ := zv_2l hs
    exact lv_ladd hx hb hd (K H ls locs hP hl hlc)
  case land =>
    obtain ⟨hd, rfl, -⟩ := zok_d hok
    obtain ⟨y, x, r, rfl, rfl, rfl, rfl, rfl⟩ := zv_2l hs
    exact lv_land hx hb hd (K H ls locs hP hl hlc)
  case lor =>
    obtain ⟨hd, rfl, -⟩ := zok_d hok
    obtain ⟨y, x, r, rfl, rfl, rfl, rfl, rfl⟩ := zv_2l hs
    exact lv_lor hx hb hd (K H ls locs hP hl hlc)
  case lxor =>
    obtain ⟨hd, rfl, -⟩ := zok_d hok
    obtain ⟨y, x, r, rfl, rfl, rfl, rfl, rfl⟩ := zv_2l hs
    exact lv_lxor hx hb hd (K H ls locs hP hl hlc)
  case lshl =>
    obtain ⟨hd, rfl, -⟩ := zok_d hok
    obtain ⟨y, x, r, rfl, rfl, rfl, rfl, rfl⟩ := zv_sl hs
    exact lv_lshl hx hb hd rfl (K H ls locs hP hl hlc)
  case lshr =>
    obtain ⟨hd, rfl, -⟩ := zok_d hok
    obtain ⟨y, x, r, rfl, rfl, rfl, rfl, rfl⟩ := zv_sl hs
    exact lv_lshr hx hb hd rfl (K H ls locs hP hl hlc)
  case lcmp =>
    obtain ⟨hd, rfl, -⟩ := zok_d hok
    obtain ⟨y, x, r, rfl, rfl, rfl, rfl, rfl⟩ := zv_lcmp hs
    exact W.lcmp hx hb hd (K H ls locs hP hl hlc)
  case lneg =>
    obtain ⟨hd, rfl, -⟩ := zok_d hok
    obtain ⟨x, r, rfl, rfl, rfl, rfl, rfl⟩ := zv_lneg hs
    exact lv_lneg hx hb hd (K H ls locs hP hl hlc)
  case i2l =>
    obtain ⟨hd, rfl, -⟩ := zok_d hok
    obtain ⟨x, r, rfl, rfl, rfl, rfl, rfl⟩ := zv_i2l hs
    exact lv_i2l hx hb hd rfl (K H ls locs hP hl hlc)
  case l2i =>
    obtain ⟨hd, rfl, -⟩ := zok_d hok
    obtain ⟨x, r, rfl, rfl, rfl, rfl, rfl⟩ := zv_l2i hs
    exact lv_l2i hx hb hd rfl (K H ls locs hP hl hlc)
  case dup =>
    obtain ⟨hd, rfl, -⟩ := zok_d hok
    obtain ⟨v1, r, rfl, hc1, rfl, rfl, rfl, rfl⟩ := zv_dup hs
    exact lv_dup hx hb hd (zcat_of hc1) (K H ls locs hP hl hlc)
  case dup2 =>
    obtain ⟨hd, rfl, -⟩ := zok_d hok
    obtain ⟨v1, w1, r, rfl, hc1, rfl, rfl, rfl, rfl⟩ := zv_dup2 hs
    simp only [Bool.and_eq_true] at hc1
    exact lv_dup2_11 hx hb hd (zcat_of hc1.1) (zcat_of hc1.2) (K H ls locs hP hl hlc)
  case pop =>
    obtain ⟨hd, rfl, -⟩ := zok_d hok
    obtain ⟨v1, r, rfl, hc1, rfl, rfl, rfl, rfl⟩ := zv_pop hs
    exact lv_pop hx hb hd (zcat_of hc1) (K H ls locs hP hl hlc)
  case goto o =>
    obtain ⟨hd, -, hX⟩ := zok_d hok
    cases hs
    exact lv_goto hx hb hd (of_decide_eq_true hX) (K H ls locs hP hl hlc)
  case tableswitch d lo hi offs =>
    have hok2 : (decide (decode (zco mi) pc = .ok (.tableswitch d lo hi offs, b)) && Nat.beq a pc) = true := hok
    simp only [Bool.and_eq_true, decide_eq_true_eq] at hok2
    have e := Nat.eq_of_beq_eq_true hok2.2
    subst e
    obtain ⟨x, o, rfl, ho, ht, rfl, rfl⟩ := zv_tsw hs
    unfold ztoff at ho
    by_cases hq : x.toInt < lo ∨ hi < x.toInt
    · rw [if_pos hq] at ho
      cases ho
      exact lv_tableOut hx hb hok2.1 hq ht (K H ls locs hP hl hlc)
    · rw [if_neg hq] at ho
      exact lv_tableIn hx hb hok2.1 (fun q => hq (Or.inl q)) (fun q => hq (Or.inr q)) ho ht (K H ls locs hP hl hlc)
  case lookupswitch d ps =>
    have hok2 : (decide (decode (zco mi) pc = .ok (.lookupswitch d ps, b)) && Nat.beq a pc && (ps.toList.zip (ps.toList.drop 1)).all (fun (x, y) => x.1 < y.1)) = true := hok
    simp only [Bool.and_eq_true, decide_eq_true_eq] at hok2
    have e := Nat.eq_of_beq_eq_true hok2.1.2
    subst e
    obtain ⟨x, rfl, ht, rfl, rfl⟩ := zv_lsw hs
    exact lv_lookup hx hb hok2.1.1 hok2.2 rfl ht (K H ls locs hP hl hlc)
  case iaload =>
    obtain ⟨hd, rfl, -⟩ := zok_d hok
    obtain ⟨i, q, r, n, f, rfl, ha, hi, rfl, rfl, rfl, rfl⟩ := zv_ald hs
    obtain ⟨cell, a1, a2, a3, a4, a5⟩ := hP.ints hK ha (zin_vp hi)
    exact W.iald hx hb a1 a2 a3 a4 a5 rfl rfl hd (K H ls locs hP hl hlc)
  case baload =>
    obtain ⟨hd, rfl, -⟩ := zok_d hok
    obtain ⟨i, q, r, t, n, f, rfl, htt, ha, hi, rfl, rfl, rfl, rfl⟩ := zv_bld hs
    have h2 : 2 ≤ q := hP.ge2 ha (by omega)
    obtain ⟨⟨-, a1⟩, -⟩ := hP.arr ha h2
    have hv := zin_vp hi
    have hlt : i.toNatClampNeg < n := Nat.not_le.mp fun q => hv (Or.inr q)
    rcases htt with rfl | rfl
    · exact W.bald hx hb a1 ((hK.2.1 2 (by omega)).1 n _) (fun q => by cases q) (by rw [arrV_size]; exact hv) (by rw [arrV_read _ _ hlt]; rfl) rfl rfl hd (K H ls locs hP hl hlc)
    · exact W.zald hx hb a1 ((hK.2.1 3 (by omega)).1 n _) (fun q => by cases q) (by rw [arrV_size]; exact hv) (by rw [arrV_read _ _ hlt]; rfl) rfl rfl hd (K H ls locs hP hl hlc)
  case laload =>
    obtain ⟨hd, rfl, -⟩ := zok_d hok
    obtain ⟨i, q, r, n, f, rfl, ha, hi, rfl, rfl, rfl, rfl⟩ := zv_lld hs
    have h2 : 2 ≤ q := hP.ge2 ha (by omega)
    obtain ⟨⟨-, a1⟩, -⟩ := hP.arr ha h2
    have hv := zin_vp hi
    have hlt : i.toNatClampNeg < n := Nat.not_le.mp fun q => hv (Or.inr q)
    exact W.lald hx hb a1 ((hK.2.1 1 (by omega)).1 n _) (fun q => by cases q) (by rw [arrV_size]; exact hv) (by rw [arrV_read _ _ hlt]; rfl) rfl rfl hd (K H ls locs hP hl hlc)
  case aaload =>
    obtain ⟨hd, rfl, -⟩ := zok_d hok
    obtain ⟨i, q, r, t, n, f, rfl, ha, hi, rfl, rfl, rfl, rfl⟩ := zv_qld hs
    have h2 : 2 ≤ q := hP.ge2 ha (by omega)
    obtain ⟨⟨ht7, a1⟩, -⟩ := hP.arr ha h2
    have hv := zin_vp hi
    have hlt : i.toNatClampNeg < n := Nat.not_le.mp fun q => hv (Or.inr q)
    have hty : (zty (t + 4)).isReference = true := by
      match t with
      | 0 => rfl
      | 1 => rfl
      | t + 2 => rfl
    exact W.aald hx hb a1 ((hK.2.1 (t + 4) ht7).1 n _) hty (fun q => by cases q) (by rw [arrV_size]; exact hv) (by rw [arrV_read _ _ hlt]) rfl rfl hd (K H ls locs hP hl hlc)
  case iastore =>
    obtain ⟨hd, rfl, -⟩ := zok_d hok
    obtain ⟨x, i, q, n, f, rfl, ha, hi, h2, rfl, rfl, rfl⟩ := zv_ast hs
    obtain ⟨⟨-, a1⟩, hlt2⟩ := hP.arr ha h2
    have hv := zin_vp hi
    refine W.iast hx hb a1 ((hK.2.1 0 (by omega)).1 n _) (fun q => by cases q) (by rw [arrV_size]; exact hv) rfl rfl hd fun H1 e1 z oq => ?_
    refine K H1 ls _ (hP.put2 h2 hlt2 z oq ?_) hl (zlocs_add hlc h2)
    refine ⟨by omega, ?_⟩
    rw [e1, arrV_store]
    congr 2
    funext j
    by_cases hj : j = i.toNatClampNeg
    · subst hj
      simp [updV, upd]
    · simp [updV, upd, hj]
  case lastore =>
    obtain ⟨hd, rfl, -⟩ := zok_d hok
    obtain ⟨x, i, q, n, f, rfl, ha, hi, h2, rfl, rfl, rfl⟩ := zv_lst hs
    obtain ⟨⟨-, a1⟩, hlt2⟩ := hP.arr ha h2
    have hv := zin_vp hi
    refine W.last hx hb a1 ((hK.2.1 1 (by omega)).1 n _) (fun q => by cases q) (by rw [arrV_size]; exact hv) rfl rfl hd fun H1 e1 z oq => ?_
    refine K H1 ls _ (hP.put2 h2 hlt2 z oq ?_) hl (zlocs_add hlc h2)
    refine ⟨by omega, ?_⟩
    rw [e1, arrV_store]
    congr 2
    funext j
    by_cases hj : j = i.toNatClampNeg
    · subst hj
      simp [updV, vp_updL]
    · simp [updV, vp_updL, hj]
  case bastore =>
    obtain ⟨hd, rfl, -⟩ := zok_d hok
    obtain ⟨x, i, q, t, ty, n, f, rfl, htt, ha, hi, h2, rfl, rfl, rfl⟩ := zv_bst hs
    obtain ⟨⟨-, a1⟩, hlt2⟩ := hP.arr ha h2
    have hv := zin_vp hi
    rcases htt with ⟨rfl, rfl⟩ | ⟨rfl, rfl⟩
    · refine W.bast hx hb a1 ((hK.2.1 2 (by omega)).1 n _) (fun q => by cases q) (by rw [arrV_size]; exact hv) rfl rfl hd fun H1 e1 z oq => ?_
      refine K H1 ls _ (hP.put2 h2 hlt2 z oq ?_) hl (zlocs_add hlc h2)
      refine ⟨by omega, ?_⟩
      rw [e1, arrV_store]
      congr 2
      funext j
      by_cases hj : j = i.toNatClampNeg
      · subst hj
        simp [updV, upd, vp_nar, narrow]
      · simp [updV, upd, hj]
    · refine W.zast hx hb a1 ((hK.2.1 3 (by omega)).1 n _) (fun q => by cases q) (by rw [arrV_size]; exact hv) rfl rfl hd fun H1 e1 z oq => ?_
      refine K H1 ls _ (hP.put2 h2 hlt2 z oq ?_) hl (zlocs_add hlc h2)
      refine ⟨by omega, ?_⟩
      rw [e1, arrV_store]
      congr 2
      funext j
      by_cases hj : j = i.toNatClampNeg
      · subst hj
        simp [updV, upd, vp_nar, narrow]
      · simp [updV, upd, hj]
  case aastore =>
    obtain ⟨hd, rfl, -⟩ := zok_d hok
    obtain ⟨v2, i, q, t, ci, n, f, fs, rfl, htt, ha, hb2, hi, h2, rfl, rfl, rfl⟩ := zv_qst hs
    obtain ⟨⟨ht7, a1⟩, hlt2⟩ := hP.arr ha h2
    have hv := zin_vp hi
    have hci : ci < 11 := by rcases htt with ⟨-, rfl⟩ | ⟨-, rfl⟩ <;> omega
    obtain ⟨v2g, v2l, -, cellV, g1, g2, g3, -⟩ := hP.obj hb2 hci
    have hcls := (hK.1 ci hci).2
    obtain ⟨kA, comp, k1, k2, k3, -⟩ : ∃ (kA : Class) (comp : ClassId), s.vm.classes[zPA P t]? = some kA ∧ kA.kind = .array comp (zty t) ∧ s.vm.findClass (zcl ci).1 = some comp ∧ True := by
      have hra := (hK.2.1 t ht7).2
      rcases htt with ⟨rfl, rfl⟩ | ⟨rfl, rfl⟩
      · obtain ⟨kA, comp, k1, k2, k3, -⟩ := hra
        exact ⟨kA, comp, k1, k2, k3, trivial⟩
      · obtain ⟨kA, comp, k1, k2, k3, -⟩ := hra
        exact ⟨kA, comp, k1, k2, k3, trivial⟩
    have hcomp : comp = (zPD P).1 ci := Option.some.inj (k3.symm.trans hcls.1)
    subst hcomp
    obtain ⟨kC, hkC, -⟩ := hcls.2
    have hty : (zty t).isReference = true := by rcases htt with ⟨rfl, -⟩ | ⟨rfl, -⟩ <;> rfl
    have hlt : i.toNatClampNeg < n := Nat.not_le.mp fun q => hv (Or.inr q)
    refine W.aast hx hb a1 (fun q h => by cases h) (fun h => by cases h) k1 k2 hty hkC ⟨fun q => hv (Or.inl q), by rw [arrV_size]; exact hlt⟩ g1 (fun q h => by rw [g3] at h; cases h) (by rw [g2]; exact hkC) (by rw [g2]; exact va_assign hcls) rfl rfl hd fun H1 e1 z oq => ?_
    refine K H1 ls _ (hP.put2 h2 hlt2 z oq ?_) hl (zlocs_add hlc h2)
    refine ⟨ht7, ?_⟩
    rw [e1, arrV_store]
    congr 2
    funext j
    by_cases hj : j = i.toNatClampNeg
    · subst hj
      simp [updV, va_up, zrf, zcv]
    · simp [updV, va_up, hj]
  case arraylength =>
    obtain ⟨hd, rfl, -⟩ := zok_d hok
    obtain ⟨r, t, n, f, rfl, ha, rfl, rfl, rfl, rfl⟩ := zv_len hs
    rw [hP.2.2.2.1] at ha
    cases ha
    obtain ⟨scr, h1, h2, h3, h4, h5⟩ := hK.2.2.2.2.2.1
    exact W.alen hx hb ((hP.2.2.1 _ hK.2.2.2.2.2.2.2.1).trans h1) h2 (by rw [h4] <;> rfl) rfl rfl hd (K H ls locs hP hl hlc)
  case getfield n =>
    obtain ⟨hd, rfl, hX⟩ := zok_d hok
    simp only [zokX, Bool.and_eq_true] at hX
    obtain ⟨⟨ha11, hbN⟩, hw⟩ := hX
    have ha11 : a < 11 := Nat.le_of_ble_eq_true ha11
    have hbN : b < (zcl a).2.2 := Nat.le_of_ble_eq_true hbN
    obtain ⟨q, r, fs, rfl, ha, hlen, rfl, rfl, rfl, rfl⟩ := zv_getf hs
    obtain ⟨-, -, -, cell, q1, q2, q3, q4⟩ := hP.obj ha ha11
    obtain ⟨hS, hfc, kC, hkC, hkind⟩ := hK.1 a ha11
    obtain ⟨cf, kf, fi, f, hi, hsl⟩ := hS b hbN
    refine W.getf hx hb hown (hts _ (zw_in hw)) hi (u_facts hfc hkC (u_lays hts (zclx a ha11) hbN) hi).1 q1 (by rw [q3]; exact fun h => by cases h) (v := zcv P (fs.getD b .null)) ?_ rfl rfl hd (K H ls locs hP hl hlc)
    rw [hsl, q4 b hbN]
  case putfield n =>
    obtain ⟨hd, rfl, hX⟩ := zok_d hok
    simp only [zokX, Bool.and_eq_true] at hX
    obtain ⟨⟨⟨ha11, hbN⟩, hw⟩, hfin⟩ := hX
    have ha11 : a < 11 := Nat.le_of_ble_eq_true ha11
    have hbN : b < (zcl a).2.2 := Nat.le_of_ble_eq_true hbN
    obtain ⟨v2, q, fs, rfl, ha, hlen, hfit, rfl, rfl, rfl⟩ := zv_putf hs
    obtain ⟨h2, hlt2, -, cell, q1, q2, q3, q4⟩ := hP.obj ha ha11
    obtain ⟨hS, hfc, kC, hkC, hkind⟩ := hK.1 a ha11
    obtain ⟨cf, kf, fi, f, hi, hsl⟩ := hS b hbN
    obtain ⟨hn, hf⟩ := zfit_ok (P := P) hfit
    have hap : ∀ x y, x < (zcl a).2.2 → y < (zcl a).2.2 → x ≠ y → ((zPD P).2 a) x ≠ ((zPD P).2 a) y := zapart hts hK ha11
    have hst := (u_facts hfc hkC (u_lays hts (zclx a ha11) hbN) hi).1
    have hlay := hts _ (zclx a ha11 _ (u_in_lay hbN))
    have fin : ∀ H1 : Heap, H1[zad P q]? = some (cell.setSlot f.slot (zcv P v2)) → H1.size = H.size → (∀ x, x ≠ zad P q → H1[x]? = H[x]?) → zPic P (zset h q (.inr (a, fs.set b v2))) H1 := by
      intro H1 e1 z oq
      refine hP.put2 h2 hlt2 z oq ⟨ha11, ?_⟩
      rw [hsl] at e1
      refine t_OB.to (V := updV (fun j => zcv P (fs.getD j .null)) b (zcv P v2)) ⟨_, e1, q2, q3, t_set q4 hap hbN _⟩ (fun j _ => ?_)
      by_cases hj : j = b
      · subst hj
        simp [updV, List.getD_eq_getElem?_getD, List.getElem?_set_self hlen]
      · simp [updV, hj, List.getD_eq_getElem?_getD, List.getElem?_set_ne (Ne.symm hj)]
    by_cases hff : ((zcl a).2.1 b).2.2.2 = true
    · rw [hff] at hfin
      simp only [Bool.not_true, Bool.false_or, Bool.and_eq_true, decide_eq_true_eq] at hfin
      unfold u_lay at hlay
      rw [if_pos hff] at hlay
      have hcf : m.cls = cf := by
        obtain ⟨_, _, c', _, _, _, -, -, hf', -, -, -, hown2, -⟩ := Cond.laysFinal_spec hlay
        have e1 : c' = cf := by have := hi.symm.trans hf'; simp at this; exact this.1.symm
        rw [hfin.2] at hown2
        rw [← e1]; exact Option.some.inj (hown.symm.trans hown2)
      have h6 := u_fits hfc hkC hkind (Or.inr hlay) hi (ztf_ok ha11 hbN) hn hf
      refine W.putFinK hx hb hown (hts _ (zw_in hw)) hi hst hcf (hin hfin.1) (by rw [q2]; exact h6) q1 q3 (by rw [hsl]; exact k2_hasslot (q4 b hbN)) rfl rfl hd fun H1 e1 e2 e3 => ?_
      exact K H1 ls _ (fin H1 e1 e2 e3) hl (zlocs_add hlc h2)
    · unfold u_lay at hlay
      rw [if_neg hff] at hlay
      have h6 := u_store hfc hkC hkind hlay hi (ztf_ok ha11 hbN) hn hf
      refine W.putK hx hb (f := f) ⟨hown, hts _ (zw_in hw), ⟨_, _, _, hi⟩, hst⟩ (by rw [q2]; exact h6) q1 q3 (by rw [hsl]; exact k2_hasslot (q4 b hbN)) rfl rfl hd fun H1 e1 e2 e3 => ?_
      exact K H1 ls _ (fin H1 e1 e2 e3) hl (zlocs_add hlc h2)
  case getstatic n =>
    obtain ⟨hd, rfl, hX⟩ := zok_d hok
    cases hs
    obtain ⟨cf, kf, fi, f, q, cell, h1, h2, h3, h4, h5, h6, h7, h8⟩ := hK.2.2.2.2.1
    exact W.gets hx hb hown (hts _ (zw_in hX)) h1 h2 h3 h4 ((hP.2.2.1 q (Nat.lt_of_not_le h8)).trans h5) (fun e => by rw [e] at h6; cases h6) h7 rfl hd (K H ls locs hP hl hlc)
  case new n =>
    obtain ⟨hd, rfl, hX⟩ := zok_d hok
    simp only [zokX, Bool.and_eq_true] at hX
    obtain ⟨⟨ha11, hbN⟩, hw⟩ := hX
    have ha11 : a < 11 := Nat.le_of_ble_eq_true ha11
    have hbN := Nat.eq_of_beq_eq_true hbN
    subst hbN
    cases hs
    have hKn := hK.1 a ha11
    obtain ⟨hi1, hi2⟩ := zinst ha11
    have e1 : (znew h (.inr (a, zdef a (zcl a).2.2)) (zcl a).2.2).1 - c0 = h.1 - c0 + 1 := by show h.1 + 1 - c0 = _; omega
    have e2 : (znew h (.inr (a, zdef a (zcl a).2.2)) (zcl a).2.2).2.1 - s0 = h.2.1 - s0 + (zcl a).2.2 := by show h.2.1 + _ - s0 = _; omega
    rw [e1] at hR1 K
    rw [e2] at hR2 K
    refine W.newcK hx hb hown (hts _ (zw_in hw)) (hts _ hi1) (hts _ hi2) rfl hd hR1 hR2 hKn.2.1 rfl fun H1 kC hkC q1 z1 o1 => ?_
    have hsz : H.size = zad P h.1 := by
      have := hP.2.1
      obtain ⟨k, hk⟩ : ∃ k, h.1 = k + 2 := ⟨h.1 - 2, by omega⟩
      rw [hP.1, hk]
      show _ = zPb P + k
      omega
    have := K H1 ls locs (hP.new z1 o1 ⟨ha11, ?_⟩) hl hlc
    · rw [hsz]
      exact this
    · refine (u_born (ztf a) hts (zclx a ha11) hKn hkC q1 (fun k hk => ztf_ok ha11 hk)).to (fun j hj => ?_)
      rw [zdef_get hj]
      exact (zcv_default (ztf a j)).symm
  case newarray t =>
    obtain ⟨hd, rfl, hX⟩ := zok_d hok
    cases t with
    | int =>
      have e := Nat.eq_of_beq_eq_true (show Nat.beq a 0 = true from hX)
      subst e
      obtain ⟨n, r, rfl, hn, rfl, rfl, rfl, rfl⟩ := zv_mkI hs
      obtain ⟨hn0, hn1⟩ := zin_nat hn
      have e1 : h.1 + 1 - c0 = h.1 - c0 + 1 := by omega
      have e2 : h.2.1 + n.toNatClampNeg - s0 = h.2.1 - s0 + n.toNatClampNeg := by omega
      simp only [znew] at hR1 hR2 K
      rw [e1] at hR1 K
      rw [e2] at hR2 K
      have hsz : H.size = zad P h.1 := by
        have := hP.2.1
        obtain ⟨k, hk⟩ : ∃ k, h.1 = k + 2 := ⟨h.1 - 2, by omega⟩
        rw [hP.1, hk]
        show _ = zPb P + k
        omega
      refine va_newaK hx hb (atype := .int) (hts _ (zaci)) rfl hd rfl hn0 rfl (by simp only [newarray.typeOf, componentBytes]; omega) hR1 hR2 rfl fun H1 cA q1 z1 o1 hAr hNm => ?_
      have hcA : cA = zPA P 0 := zKK_fn hK (by omega) hNm
      subst hcA
      have := K H1 ls locs (hP.new (n := n.toNatClampNeg) (c := .inl (0, n.toNatClampNeg, .inl (fun _ => 0))) z1 o1 ⟨by omega, q1⟩) hl hlc
      rw [hsz]
      exact this
    | byte =>
      have e := Nat.eq_of_beq_eq_true (show Nat.beq a 2 = true from hX)
      subst e
      obtain ⟨n, r, rfl, hn, rfl, rfl, rfl, rfl⟩ := zv_mkI hs
      obtain ⟨hn0, hn1⟩ := zin_nat hn
      have e1 : h.1 + 1 - c0 = h.1 - c0 + 1 := by omega
      have e2 : h.2.1 + n.toNatClampNeg - s0 = h.2.1 - s0 + n.toNatClampNeg := by omega
      simp only [znew] at hR1 hR2 K
      rw [e1] at hR1 K
      rw [e2] at hR2 K
      have hsz : H.size = zad P h.1 := by
        have := hP.2.1
        obtain ⟨k, hk⟩ : ∃ k, h.1 = k + 2 := ⟨h.1 - 2, by omega⟩
        rw [hP.1, hk]
        show _ = zPb P + k
        omega
      refine va_newaK hx hb (atype := .byte) (hts _ (zacb)) rfl hd rfl hn0 rfl (by simp only [newarray.typeOf, componentBytes]; omega) hR1 hR2 rfl fun H1 cA q1 z1 o1 hAr hNm => ?_
      have hcA : cA = zPA P 2 := zKK_fn hK (by omega) hNm
      subst hcA
      have := K H1 ls locs (hP.new (n := n.toNatClampNeg) (c := .inl (2, n.toNatClampNeg, .inl (fun _ => 0))) z1 o1 ⟨by omega, q1⟩) hl hlc
      rw [hsz]
      exact this
    | boolean =>
      have e := Nat.eq_of_beq_eq_true (show Nat.beq a 3 = true from hX)
      subst e
      obtain ⟨n, r, rfl, hn, rfl, rfl, rfl, rfl⟩ := zv_mkI hs
      obtain ⟨hn0, hn1⟩ := zin_nat hn
      have e1 : h.1 + 1 - c0 = h.1 - c0 + 1 := by omega
      have e2 : h.2.1 + n.toNatClampNeg - s0 = h.2.1 - s0 + n.toNatClampNeg := by omega
      simp only [znew] at hR1 hR2 K
      rw [e1] at hR1 K
      rw [e2] at hR2 K
      have hsz : H.size = zad P h.1 := by
        have := hP.2.1
        obtain ⟨k, hk⟩ : ∃ k, h.1 = k + 2 := ⟨h.1 - 2, by omega⟩
        rw [hP.1, hk]
        show _ = zPb P + k
        omega
      refine va_newaK hx hb (atype := .boolean) (hts _ (zacz)) rfl hd rfl hn0 rfl (by simp only [newarray.typeOf, componentBytes]; omega) hR1 hR2 rfl fun H1 cA q1 z1 o1 hAr hNm => ?_
      have hcA : cA = zPA P 3 := zKK_fn hK (by omega) hNm
      subst hcA
      have := K H1 ls locs (hP.new (n := n.toNatClampNeg) (c := .inl (3, n.toNatClampNeg, .inl (fun _ => 0))) z1 o1 ⟨by omega, q1⟩) hl hlc
      rw [hsz]
      exact this
    | long =>
      obtain ⟨n, r, rfl, hn, rfl, rfl, rfl, rfl⟩ := zv_mkL hs
      obtain ⟨hn0, hn1⟩ := zin_nat hn
      have e1 : h.1 + 1 - c0 = h.1 - c0 + 1 := by omega
      have e2 : h.2.1 + n.toNatClampNeg - s0 = h.2.1 - s0 + n.toNatClampNeg := by omega
      simp only [znew] at hR1 hR2 K
      rw [e1] at hR1 K
      rw [e2] at hR2 K
      have hsz : H.size = zad P h.1 := by
        have := hP.2.1
        obtain ⟨k, hk⟩ : ∃ k, h.1 = k + 2 := ⟨h.1 - 2, by omega⟩
        rw [hP.1, hk]
        show _ = zPb P + k
        omega
      refine va_newaK hx hb (atype := .long) (hts _ (zacl)) rfl hd rfl hn0 rfl (by simp only [newarray.typeOf, componentBytes]; omega) hR1 hR2 rfl fun H1 cA q1 z1 o1 hAr hNm => ?_
      have hcA : cA = zPA P 1 := zKK_fn hK (by omega) hNm
      subst hcA
      have := K H1 ls locs (hP.new (n := n.toNatClampNeg) (c := .inl (1, n.toNatClampNeg, .inr (.inl (fun _ => 0)))) z1 o1 ⟨by omega, q1⟩) hl hlc
      rw [hsz]
      exact this
    | _ => cases hX
  case anewarray n9 =>
    obtain ⟨hd, rfl, hX⟩ := zok_d hok
    simp only [zokX, Bool.or_eq_true, Bool.and_eq_true] at hX
    rcases hX with ⟨e, hw⟩ | ⟨e, hw⟩
    · have e := Nat.eq_of_beq_eq_true e
      subst e
      obtain ⟨n, r, rfl, hn, rfl, rfl, rfl, rfl⟩ := zv_mkQ hs
      obtain ⟨hn0, hn1⟩ := zin_nat hn
      have e1 : h.1 + 1 - c0 = h.1 - c0 + 1 := by omega
      have e2 : h.2.1 + n.toNatClampNeg - s0 = h.2.1 - s0 + n.toNatClampNeg := by omega
      simp only [znew] at hR1 hR2 K
      rw [e1] at hR1 K
      rw [e2] at hR2 K
      have hsz : H.size = zad P h.1 := by
        have := hP.2.1
        obtain ⟨k, hk⟩ : ∃ k, h.1 = k + 2 := ⟨h.1 - 2, by omega⟩
        rw [hP.1, hk]
        show _ = zPb P + k
        omega
      refine W.anew hx hb hown (hts _ (zw_in hw)) (va_AO.use hK.2.2.2.1.1) rfl hd rfl hn0 (by omega) hR1 hR2 fun cA kA comp f1 f2 f3 f4 => ?_
      have hcA : cA = zPA P 4 := by
        obtain ⟨_, _, _, _, _, g4⟩ := (hK.2.1 4 (by omega)).2
        exact Option.some.inj (f1.symm.trans g4)
      subst hcA
      generalize hH1 : H.push ({ cls := zPA P 4, slots := Array.replicate n.toNatClampNeg .null, vm := .none } : Cell) = H1
      have z1 : H1.size = H.size + 1 := by rw [← hH1, Array.size_push]
      have q1 : H1[H.size]? = some (arrV (zPA P 4) n.toNatClampNeg (fun _ => .null)) := by rw [← hH1, Array.getElem?_push_size, ← arrV_new]
      have o1 : ∀ q : Nat, q < H.size → H1[q]? = H[q]? := fun q hq => by rw [← hH1, Array.getElem?_push, if_neg (Nat.ne_of_lt hq)]
      have := K H1 ls locs (hP.new (n := n.toNatClampNeg) (c := .inl (4, n.toNatClampNeg, .inr (.inr (fun _ => none)))) z1 o1 ⟨by omega, q1⟩) hl hlc
      rw [hsz]
      exact this
    · have e := Nat.eq_of_beq_eq_true e
      subst e
      obtain ⟨n, r, rfl, hn, rfl, rfl, rfl, rfl⟩ := zv_mkQ hs
      obtain ⟨hn0, hn1⟩ := zin_nat hn
      have e1 : h.1 + 1 - c0 = h.1 - c0 + 1 := by omega
      have e2 : h.2.1 + n.toNatClampNeg - s0 = h.2.1 - s0 + n.toNatClampNeg := by omega
      simp only [znew] at hR1 hR2 K
      rw [e1] at hR1 K
      rw [e2] at hR2 K
      have hsz : H.size = zad P h.1 := by
        have := hP.2.1
        obtain ⟨k, hk⟩ : ∃ k, h.1 = k + 2 := ⟨h.1 - 2, by omega⟩
        rw [hP.1, hk]
        show _ = zPb P + k
        omega
      refine W.anew hx hb hown (hts _ (zw_in hw)) (va_AO.use hK.2.2.2.1.2.1) rfl hd rfl hn0 (by omega) hR1 hR2 fun cA kA comp f1 f2 f3 f4 => ?_
      have hcA : cA = zPA P 5 := by
        obtain ⟨_, _, _, _, _, g4⟩ := (hK.2.1 5 (by omega)).2
        exact Option.some.inj (f1.symm.trans g4)
      subst hcA
      generalize hH1 : H.push ({ cls := zPA P 5, slots := Array.replicate n.toNatClampNeg .null, vm := .none } : Cell) = H1
      have z1 : H1.size = H.size + 1 := by rw [← hH1, Array.size_push]
      have q1 : H1[H.size]? = some (arrV (zPA P 5) n.toNatClampNeg (fun _ => .null)) := by rw [← hH1, Array.getElem?_push_size, ← arrV_new]
      have o1 : ∀ q : Nat, q < H.size → H1[q]? = H[q]? := fun q hq => by rw [← hH1, Array.getElem?_push, if_neg (Nat.ne_of_lt hq)]
      have := K H1 ls locs (hP.new (n := n.toNatClampNeg) (c := .inl (5, n.toNatClampNeg, .inr (.inr (fun _ => none)))) z1 o1 ⟨by omega, q1⟩) hl hlc
      rw [hsz]
      exact this
  case multianewarray n9 d9 =>
    obtain ⟨hd, rfl, hX⟩ := zok_d hok
    simp only [zokX, Bool.and_eq_true] at hX
    have e9 := Nat.eq_of_beq_eq_true hX.1
    subst e9
    obtain ⟨k9, n, r, rfl, hn, hk9, rfl, rfl, rfl, rfl⟩ := zv_mkM hs
    obtain ⟨hn0, hn1⟩ := zin_nat hn
    obtain ⟨hk0, hk1⟩ := zin_nat hk9
    have hsz : H.size = zad P h.1 := by
      have := hP.2.1
      obtain ⟨q, hq⟩ : ∃ q, h.1 = q + 2 := ⟨h.1 - 2, by omega⟩
      rw [hP.1, hq]
      show _ = zPb P + q
      omega
    have hR1 : h.1 + (1 + n.toNatClampNeg) - c0 ≤ R.cells := hR1
    have hR2 : h.2.1 + (n.toNatClampNeg + n.toNatClampNeg * k9.toNatClampNeg) - s0 ≤ R.slots := hR2
    refine zW_mul hx hb hown (hts _ (zw_in hX.2)) hts hK hn0 hk0 hn1 hk1 (by omega) (by omega) hd fun H1 z1 q1 q2 o1 => ?_
    have := K H1 ls locs ?_ hl hlc
    · have e1 : h.1 + (1 + n.toNatClampNeg) - c0 = h.1 - c0 + 1 + n.toNatClampNeg := by omega
      have e2 : h.2.1 + (n.toNatClampNeg + n.toNatClampNeg * k9.toNatClampNeg) - s0 = h.2.1 - s0 + n.toNatClampNeg + n.toNatClampNeg * k9.toNatClampNeg := by omega
      simp only [e1, e2] at this
      rw [hsz]
      exact this
    · have hPc := hP
      obtain ⟨p1, p2, p3, p4, p5, p6, p7⟩ := hP
      refine ⟨?_, ?_, fun q hq => (o1 q (by omega)).trans (p3 q hq), ?_, ?_, fun j hj => ?_, fun j hj => ?_⟩
      · show H1.size = zPb P + (h.1 + (1 + n.toNatClampNeg) - 2); omega
      · show 2 ≤ h.1 + _; omega
      · simp only []; rw [if_neg (by omega), if_neg (by omega)]; exact p4
      · simp only []; rw [if_neg (by omega), if_neg (by omega)]; exact p5
      · simp only [] at hj ⊢
        by_cases g1 : j + 2 = h.1
        · rw [if_pos g1, show zPb P + j = H.size by omega]
          refine ⟨by omega, ?_⟩
          rw [q1]
          congr 2
          funext i
          by_cases gi : i < n.toNatClampNeg
          · simp only [gi, if_true, va_rf, zrf, zcv]
            rw [zad_new hPc i]
          · simp only [gi, if_false, va_rf, zrf, zcv]
        · rw [if_neg g1]
          by_cases g2 : h.1 < j + 2 ∧ j + 2 < h.1 + 1 + n.toNatClampNeg
          · rw [if_pos g2]
            refine ⟨by omega, ?_⟩
            have := q2 (j + 2 - h.1 - 1) (by omega)
            rw [show H.size + 1 + (j + 2 - h.1 - 1) = zPb P + j by omega] at this
            exact this
          · rw [if_neg g2]
            exact (p6 j (by omega)).kept (o1 _ (by omega))
      · simp only [] at hj ⊢
        rw [if_neg (by omega), if_neg (by omega)]
        exact p7 j (by omega)
  case invokestatic n9 =>
    obtain ⟨hd, rfl, hX⟩ := zok_d hok
    match k, hs, hX with
    | 2, hs, hX =>
      obtain ⟨n, dp, q, sp, q0, n0, f, n1, g, rfl, ha0, ha1, g1, g2, g3, g4, g5, g6, g7, g8, rfl, rfl, rfl⟩ := zv_cpy hs
      obtain ⟨⟨-, a0⟩, -⟩ := hP.arr ha0 g6
      obtain ⟨⟨-, a1⟩, hlt2⟩ := hP.arr ha1 g7
      refine zW_cpy hx hb (hml.trans hl.2.1.symm) hown (hts _ (zw_in hX)) hts hK a0 a1 g1 g2 g3 g4 g5 hR3 (by have := zrest (P := P) g8; omega) hd fun H1 L9 e1 z oq hL9 => ?_
      refine K H1 ls _ (hP.put2 g7 hlt2 z oq ⟨by omega, e1⟩) hl (fun x hx => ?_)
      rcases List.mem_append.mp hx with g | g
      · exact hlc x g
      · rw [hL9 x g]
        exact zad_ge g7
    | 3, hs, hX =>
      obtain ⟨y, x, r, rfl, hr, rfl, rfl, rfl, rfl⟩ := zv_max hs
      exact va_mmax hx hb (hml.trans hl.2.1.symm) hown (hts _ (zw_in hX)) (hts _ zmm1) (hts _ zmm0) (hts _ zmm2) hR3 (by have := zrest (P := P) (Nat.le_of_ble_eq_true hr); omega) hR1 hR2 hd (K H ls locs hP hl hlc)
    | 4, hs, hX =>
      obtain ⟨y, x, r, rfl, hr, rfl, rfl, rfl, rfl⟩ := zv_min hs
      exact va_mmin hx hb (hml.trans hl.2.1.symm) hown (hts _ (zw_in hX)) (hts _ zmm3) (hts _ zmm0) (hts _ zmm4) hR3 (by have := zrest (P := P) (Nat.le_of_ble_eq_true hr); omega) hR1 hR2 hd (K H ls locs hP hl hlc)
    | 0, hs, hX => cases hs
    | 1, hs, hX => cases hs
    | k + 5, hs, hX => cases hs
  case invokespecial n9 =>
    obtain ⟨hd, rfl, hX⟩ := zok_d hok
    match k, hs, hX with
    | 2, hs, hX =>
      obtain ⟨q, r, rfl, hr, rfl, rfl, rfl, rfl⟩ := zv_obj hs
      exact W.objInit hx hb hown (hts _ (zw_in hX)) (hts _ zobj1) (hts _ zobj2) rfl (by rw [hml]; exact hl.2.1) rfl hd hR3 (by have := zrest (P := P) (Nat.le_of_ble_eq_true hr); show 2 * 0 + _ + 12 ≤ _; omega) (K H ls locs hP hl hlc)
    | 0, hs, hX =>
      simp only [zstep, zcallI] at hs
      split at hs <;> cases hs
    | 1, hs, hX =>
      simp only [zstep, zcallI] at hs
      split at hs <;> cases hs
    | k + 3, hs, hX =>
      simp only [zstep, zcallI] at hs
      split at hs <;> cases hs
  case ifCond q9 o9 =>
    exfalso
    simp only [zstep, zif1] at hs
    split at hs <;> cases hs
  case if_icmp q9 o9 =>
    exfalso
    simp only [zstep, zif2] at hs
    split at hs <;> cases hs
  case invokevirtual n9 =>
    exfalso
    simp only [zstep, zcallV] at hs
    split at hs
    · split at hs <;> cases hs
    · cases hs
  case return_ =>
    exfalso
    simp only [zstep, zret0] at hs
    split at hs <;> cases hs
  case ireturn =>
    exfalso
    simp only [zstep, zretI] at hs
    split at hs <;> cases hs
  case lreturn =>
    exfalso
    simp only [zstep, zretL] at hs
    split at hs <;> cases hs
  all_goals (exfalso; revert hs; intro hs; cases hs)
end ZS
