/-! PURE ROWS: runs of the small machine, an instruction a row -/
/-- from here on it ends with r -/
def zGoP (d : Nat) (t : Nat → Option zI) (pc : Nat) (ls st : List Value) (h : zH) (r : zR → Prop) : Prop := ∃ n q, zRun (zCall d) t n pc ls st h q ∧ r q
abbrev zGo (d : Nat) (t : Nat → Option zI) (pc : Nat) (ls st : List Value) (h : zH) (r : zR) : Prop := zGoP d t pc ls st h (Eq r)
def b2n (c : Bool) : Nat := if c then 1 else 0
/-- what a has, and b has not -/
def zan (a b : Nat) : Nat := a ^^^ (a &&& b)
theorem zan_bit (a b i : Nat) : (zan a b).testBit i = (a.testBit i && !b.testBit i) := by
  simp only [zan, Nat.testBit_xor, Nat.testBit_and]
  cases a.testBit i <;> cases b.testBit i <;> rfl
theorem nI_and (a b : Nat) : nI a &&& nI b = nI (a &&& b) := by
  apply Int32.toBitVec_inj.mp
  apply BitVec.eq_of_getLsbD_eq
  intro i hi
  simp [nI, Nat.testBit_and]
theorem nI_or (a b : Nat) : nI a ||| nI b = nI (a ||| b) := by
  apply Int32.toBitVec_inj.mp
  apply BitVec.eq_of_getLsbD_eq
  intro i hi
  simp [nI, Nat.testBit_or]
theorem nI_xor (a b : Nat) : nI a ^^^ nI b = nI (a ^^^ b) := by
  apply Int32.toBitVec_inj.mp
  apply BitVec.eq_of_getLsbD_eq
  intro i hi
  simp [nI, Nat.testBit_xor]
theorem nI_andn (a b : Nat) : nI a &&& (nI b ^^^ (-1)) = nI (zan a b) := by
  apply Int32.toBitVec_inj.mp
  apply BitVec.eq_of_getLsbD_eq
  intro i hi
  have h1 : (-1 : Int32).toBitVec.getLsbD i = true := by
    have : ∀ i, i < 32 → (-1 : Int32).toBitVec.getLsbD i = true := by decide +kernel
    exact this i hi
  have e : ∀ x : Nat, (nI x).toBitVec.getLsbD i = x.testBit i := fun x => by
    rw [show (nI x).toBitVec = BitVec.ofNat 32 x from rfl, BitVec.getLsbD_ofNat]
    simp [hi]
  rw [Int32.toBitVec_and, Int32.toBitVec_xor, BitVec.getLsbD_and, BitVec.getLsbD_xor, h1, e, e, e, zan_bit]
  cases b.testBit i <;> rfl
theorem nI_cnt : ∀ k, k < 32 → ((nI k &&& 31).toBitVec.smod 32).toNat = k := by decide +kernel
theorem nI_ucnt : ∀ k, k < 32 → (((nI k).toUInt32 &&& Int32.toUInt32 31).toBitVec % 32).toNat = k := by decide +kernel
theorem nI_inj {a b : Nat} (ha : a < 2 ^ 31) (hb : b < 2 ^ 31) : nI a = nI b ↔ a = b := nI_eq ha hb
theorem nI_shl (a : Nat) {k : Nat} (hk : k < 32) : nI a <<< (nI k &&& 31) = nI (a <<< k) := by
  apply Int32.toBitVec_inj.mp
  apply BitVec.eq_of_toNat_eq
  rw [pk_shl _ _ k (nI_cnt k hk)]
  simp [nI, Nat.shiftLeft_eq]
theorem nI_shr {a k : Nat} (ha : a < 2 ^ 31) (hk : k < 32) : nI a >>> (nI k &&& 31) = nI (a >>> k) := by
  rw [pk_shrN ha _ k (nI_cnt k hk), Nat.shiftRight_eq_div_pow]
theorem nI_ushr {a k : Nat} (ha : a < 2 ^ 32) (hk : k < 32) : ((nI a).toUInt32 >>> ((nI k).toUInt32 &&& Int32.toUInt32 31)).toInt32 = nI (a >>> k) := by
  rw [pk_ushrN ha _ k (nI_ucnt k hk), Nat.shiftRight_eq_div_pow]
theorem b2n_le (c : Bool) : b2n c ≤ 1 := by cases c <;> decide
theorem zin_n {k n : Nat} (h : k < n) (hn : n < 2 ^ 31) : zin (nI k) n = true := by
  simp only [zin, Bool.and_eq_true, decide_eq_true_eq]
  exact vp_in_iff.mp (vp_in_nI h hn)
theorem zin_of {x : Int32} {n : Nat} (h : zin x n = true) (hn : n < 2 ^ 31) : ∃ j : Nat, j < n ∧ x = nI j := vp_in_of (zin_vp h) hn
theorem nI_cl {k : Nat} (h : k < 2 ^ 31) : (nI k).toNatClampNeg = k := nI_clamp h
theorem zq_iinc {m nx a b c : Nat} {z : Int} {v : Value} {ls st : List Value} {h : zH} : zstep (.iinc m z, nx, a, b, c, v) ls st h = zinc ls a nx v st h := rfl
theorem zq_irem {nx a b c : Nat} {v : Value} {ls st : List Value} {h : zH} : zstep (.irem, nx, a, b, c, v) ls st h = z2d (fun x y => x - x / y * y) nx ls st h := rfl
theorem zq_idiv {nx a b c : Nat} {v : Value} {ls st : List Value} {h : zH} : zstep (.idiv, nx, a, b, c, v) ls st h = z2d (fun x y => x / y) nx ls st h := rfl
theorem zq_getf {m nx a b c : Nat} {v : Value} {ls st : List Value} {h : zH} : zstep (.getfield m, nx, a, b, c, v) ls st h = zgetf a b nx ls st h := rfl
theorem zq_putf {m nx a b c : Nat} {v : Value} {ls st : List Value} {h : zH} : zstep (.putfield m, nx, a, b, c, v) ls st h = zputf a b nx ls st h := rfl
theorem zq_ald {nx a b c : Nat} {v : Value} {ls st : List Value} {h : zH} : zstep (.iaload, nx, a, b, c, v) ls st h = zald nx ls st h := rfl
theorem zq_ast {nx a b c : Nat} {v : Value} {ls st : List Value} {h : zH} : zstep (.iastore, nx, a, b, c, v) ls st h = zast nx ls st h := rfl
theorem zq_bld {nx a b c : Nat} {v : Value} {ls st : List Value} {h : zH} : zstep (.baload, nx, a, b, c, v) ls st h = zbld nx ls st h := rfl
theorem zq_bst {nx a b c : Nat} {v : Value} {ls st : List Value} {h : zH} : zstep (.bastore, nx, a, b, c, v) ls st h = zbst nx ls st h := rfl
theorem zq_lld {nx a b c : Nat} {v : Value} {ls st : List Value} {h : zH} : zstep (.laload, nx, a, b, c, v) ls st h = zlld nx ls st h := rfl
theorem zq_lst {nx a b c : Nat} {v : Value} {ls st : List Value} {h : zH} : zstep (.lastore, nx, a, b, c, v) ls st h = zlst nx ls st h := rfl
theorem zq_qld {nx a b c : Nat} {v : Value} {ls st : List Value} {h : zH} : zstep (.aaload, nx, a, b, c, v) ls st h = zqld nx ls st h := rfl
section ZW
variable {d : Nat} {t : Nat → Option zI} {pc : Nat} {ls st : List Value} {h : zH} {r : zR → Prop} {nx a b c nx' pc' : Nat} {v : Value} {i : Instr}
/-- any plain instruction -/
theorem zG_s {ai : zI} {ls' st' : List Value} {h' : zH} (hai : t pc = some ai) (hs : zstep ai ls st h = .inl (true, pc', ls', st', h')) (K : zGoP d t pc' ls' st' h' r) : zGoP d t pc ls st h r := by
  obtain ⟨n, q, K, hq⟩ := K
  refine ⟨n + 1, q, ?_, hq⟩
  unfold zRun
  rw [hai]
  simp only [hs]
  exact ⟨trivial, K⟩
theorem zG_br {ai : zI} {cb : Bool} {p1 p2 : Nat} {st' : List Value} (hai : t pc = some ai) (hs : zstep ai ls st h = .inr (.inl (cb, p1, p2, st'))) (K1 : cb = true → zGoP d t p1 ls st' h r) (K2 : cb = false → zGoP d t p2 ls st' h r) : zGoP d t pc ls st h r := by
  cases cb with
  | true =>
    obtain ⟨n, q, K, hq⟩ := K1 rfl
    refine ⟨n + 1, q, ?_, hq⟩
    unfold zRun
    rw [hai]
    simp only [hs]
    exact ⟨fun _ => K, fun q => by cases q⟩
  | false =>
    obtain ⟨n, q, K, hq⟩ := K2 rfl
    refine ⟨n + 1, q, ?_, hq⟩
    unfold zRun
    rw [hai]
    simp only [hs]
    first | exact K | exact ⟨fun q => (by cases q), fun _ => K⟩ | (simp only [Bool.false_eq_true, false_implies, true_and, forall_const]; exact K) | (simp; exact K)
theorem zG_call {ai : zI} {mi : Nat} {as st' : List Value} {w : Option Value} {h1 : zH} (hai : t pc = some ai) (hs : zstep ai ls st h = .inr (.inr (.inl (true, mi, as, pc', st')))) (hc : zCall d mi as h (w, h1)) (K : zGoP d t pc' ls (w.toList ++ st') h1 r) : zGoP d t pc ls st h r := by
  obtain ⟨n, q, K, hq⟩ := K
  refine ⟨n + 1, q, ?_, hq⟩
  unfold zRun
  rw [hai]
  simp only [hs]
  exact ⟨trivial, w, h1, hc, K⟩
theorem zG_ret {ai : zI} {w : Option Value} (hai : t pc = some ai) (hs : zstep ai ls st h = .inr (.inr (.inr (.inl (true, w))))) (e : r (w, h)) : zGoP d t pc ls st h r := by
  refine ⟨1, (w, h), ?_, e⟩
  unfold zRun
  rw [hai]
  simp only [hs]
  first | exact ⟨trivial, rfl⟩ | exact ⟨trivial, trivial⟩ | simp
/-- a method, from its entry -/
theorem zG_m {mi : Nat} {as ls0 : List Value} {t : Nat → Option zI} {r : zR} (ht : zT mi = t) (hl : Nat.ble (zlay as).length (zml mi) = true) (hd : ∀ v ∈ as, ∀ x, v ≠ .double x) (he : zent (zml mi) as = ls0) (K : zGo d t 0 ls0 [] h r) : zCall (d + 1) mi as h r := by
  subst ht he
  obtain ⟨n, q, K, rfl⟩ := K
  exact ⟨Nat.le_of_ble_eq_true hl, hd, n, K⟩
/-- a method whose end is known by what holds of it -/
def zCallP (d mi : Nat) (as : List Value) (h : zH) (r : zR → Prop) : Prop := ∃ q, zCall d mi as h q ∧ r q
theorem zG_mP {mi : Nat} {as ls0 : List Value} {t : Nat → Option zI} {r : zR → Prop} (ht : zT mi = t) (hl : Nat.ble (zlay as).length (zml mi) = true) (hd : ∀ v ∈ as, ∀ x, v ≠ .double x) (he : zent (zml mi) as = ls0) (K : zGoP d t 0 ls0 [] h r) : zCallP (d + 1) mi as h r := by
  subst ht he
  obtain ⟨n, q, K, hq⟩ := K
  exact ⟨q, ⟨Nat.le_of_ble_eq_true hl, hd, n, K⟩, hq⟩
theorem zCall.p {mi : Nat} {as : List Value} {q : zR} {r : zR → Prop} (hc : zCall d mi as h q) (hq : r q) : zCallP d mi as h r := ⟨q, hc, hq⟩
theorem zCallP.mono {mi : Nat} {as : List Value} {r r' : zR → Prop} (hc : zCallP d mi as h r) (hr : ∀ q, r q → r' q) : zCallP d mi as h r' := by
  obtain ⟨q, h1, h2⟩ := hc
  exact ⟨q, h1, hr q h2⟩
theorem zdn0 : ∀ v ∈ ([] : List Value), ∀ x, v ≠ .double x := fun v h => by cases h
theorem zdnI {as : List Value} {y : Int32} (H : ∀ v ∈ as, ∀ x, v ≠ .double x) : ∀ v ∈ (.int y :: as : List Value), ∀ x, v ≠ .double x := fun v h x e => by
  rcases List.mem_cons.mp h with rfl | h
  · cases e
  · exact H v h x e
theorem zdnR {as : List Value} {y : Nat} (H : ∀ v ∈ as, ∀ x, v ≠ .double x) : ∀ v ∈ (.ref y :: as : List Value), ∀ x, v ≠ .double x := fun v h x e => by
  rcases List.mem_cons.mp h with rfl | h
  · cases e
  · exact H v h x e
theorem zdnL {as : List Value} {y : Int64} (H : ∀ v ∈ as, ∀ x, v ≠ .double x) : ∀ v ∈ (.long y :: as : List Value), ∀ x, v ≠ .double x := fun v h x e => by
  rcases List.mem_cons.mp h with rfl | h
  · cases e
  · exact H v h x e
/-- calls: their answer on the stack -/
theorem zG_cS1 {ai : zI} {mi : Nat} {as st' : List Value} {w : Value} {h1 : zH} (hai : t pc = some ai) (hs : zstep ai ls st h = .inr (.inr (.inl (true, mi, as, pc', st')))) (hc : zCall d mi as h (some w, h1)) (K : zGoP d t pc' ls (w :: st') h1 r) : zGoP d t pc ls st h r := zG_call hai hs hc K
theorem zG_cS0 {ai : zI} {mi : Nat} {as st' : List Value} {h1 : zH} (hai : t pc = some ai) (hs : zstep ai ls st h = .inr (.inr (.inl (true, mi, as, pc', st')))) (hc : zCall d mi as h (none, h1)) (K : zGoP d t pc' ls st' h1 r) : zGoP d t pc ls st h r := zG_call hai hs hc K
/-- a call whose end is known by what holds of it: (the answer, the heap) -/
theorem zG_cSP {ai : zI} {mi : Nat} {as st' : List Value} {rc : zR → Prop} (hai : t pc = some ai) (hs : zstep ai ls st h = .inr (.inr (.inl (true, mi, as, pc', st')))) (hc : zCallP d mi as h rc) (K : ∀ (w : Option Value) (h1 : zH), rc (w, h1) → zGoP d t pc' ls (w.toList ++ st') h1 r) : zGoP d t pc ls st h r := by
  obtain ⟨⟨w, h1⟩, hc, hr⟩ := hc
  exact zG_call hai hs hc (K w h1 hr)
theorem zcallV_eq {mi n ci nx q : Nat} {fs st' as : List Value} (hd : st.drop n = .ref q :: st') (ho : h.2.2 q = .inr (ci, fs)) (ha : (st.take n).reverse = as) (hn : (Nat.beq (st.take n).length n && zrl st') = true) : zcallV mi n ci nx st h = .inr (.inr (.inl (true, mi, .ref q :: as, nx, st'))) := by
  unfold zcallV
  rw [hd]
  simp only [ho]
  subst ha
  have : Nat.beq ci ci = true := Nat.beq_refl ci
  rw [this]
  simp only [Bool.true_and]
  rw [hn]
theorem zG_cV1 {x : Nat} {mi n ci nx q : Nat} {fs st' as : List Value} {w : Value} {h1 : zH} (hai : t pc = some (.invokevirtual x, nx, mi, n, ci, v)) (hd : st.drop n = .ref q :: st') (ho : h.2.2 q = .inr (ci, fs)) (ha : (st.take n).reverse = as) (hn : (Nat.beq (st.take n).length n && zrl st') = true) (hc : zCall d mi (.ref q :: as) h (some w, h1)) (K : zGoP d t nx ls (w :: st') h1 r) : zGoP d t pc ls st h r := zG_call hai (zcallV_eq hd ho ha hn) hc K
theorem zG_cVP {x : Nat} {mi n ci nx q : Nat} {fs st' as : List Value} {rc : zR → Prop} (hai : t pc = some (.invokevirtual x, nx, mi, n, ci, v)) (hd : st.drop n = .ref q :: st') (ho : h.2.2 q = .inr (ci, fs)) (ha : (st.take n).reverse = as) (hn : (Nat.beq (st.take n).length n && zrl st') = true) (hc : zCallP d mi (.ref q :: as) h rc) (K : ∀ (w : Option Value) (h1 : zH), rc (w, h1) → zGoP d t nx ls (w.toList ++ st') h1 r) : zGoP d t pc ls st h r := by
  obtain ⟨⟨w, h1⟩, hc, hr⟩ := hc
  exact zG_call hai (zcallV_eq hd ho ha hn) hc (K w h1 hr)
theorem zG_cV0 {x : Nat} {mi n ci nx q : Nat} {fs st' as : List Value} {h1 : zH} (hai : t pc = some (.invokevirtual x, nx, mi, n, ci, v)) (hd : st.drop n = .ref q :: st') (ho : h.2.2 q = .inr (ci, fs)) (ha : (st.take n).reverse = as) (hn : (Nat.beq (st.take n).length n && zrl st') = true) (hc : zCall d mi (.ref q :: as) h (none, h1)) (K : zGoP d t nx ls st' h1 r) : zGoP d t pc ls st h r := zG_call hai (zcallV_eq hd ho ha hn) hc K
theorem zN_st0 {ai : zI} {y0 : Value} {R : List Value} {x : Int32} (hai : t pc = some ai) (hs : ∀ ls st h, zstep ai ls st h = zputI ls 0 nx st h) (hk : zok1 (y0 :: R) 0 = true) (K : zGoP d t nx (.int x :: R) st h r) : zGoP d t pc (y0 :: R) (.int x :: st) h r := by
  refine zG_s hai (pc' := nx) (ls' := .int x :: R) (st' := st) (h' := h) ?_ K
  rw [hs]
  simp only [zputI, hk, List.length_cons, List.set]
  rfl
theorem zN_sta0 {ai : zI} {y0 : Value} {R : List Value} {x : Nat} (hai : t pc = some ai) (hs : ∀ ls st h, zstep ai ls st h = zputA ls 0 nx st h) (hk : zok1 (y0 :: R) 0 = true) (K : zGoP d t nx (.ref x :: R) st h r) : zGoP d t pc (y0 :: R) (.ref x :: st) h r := by
  refine zG_s hai (pc' := nx) (ls' := .ref x :: R) (st' := st) (h' := h) ?_ K
  rw [hs]
  simp only [zputA, hk, List.length_cons, List.set]
  rfl
theorem zN_inc0 {m : Nat} {z : Int} {w : Nat}  {R : List Value} (hai : t pc = some (.iinc m z, nx, 0, b, c, .int (nI 1))) (hk : zok1 (.int (nI w) :: R) 0 = true) (K : zGoP d t nx (.int (nI (w + 1)) :: R) st h r) : zGoP d t pc (.int (nI w) :: R) st h r := by
  refine zG_s hai (pc' := nx) (ls' := .int (nI (w + 1)) :: R) (st' := st) (h' := h) ?_ K
  rw [← nI_add]
  rw [zq_iinc]
  simp only [zinc, List.getElem?_cons_succ, List.getElem?_cons_zero, hk, List.length_cons, List.set]
  rfl
theorem zN_st1 {ai : zI} {y0 y1 : Value} {R : List Value} {x : Int32} (hai : t pc = some ai) (hs : ∀ ls st h, zstep ai ls st h = zputI ls 1 nx st h) (hk : zok1 (y0 :: y1 :: R) 1 = true) (K : zGoP d t nx (y0 :: .int x :: R) st h r) : zGoP d t pc (y0 :: y1 :: R) (.int x :: st) h r := by
  refine zG_s hai (pc' := nx) (ls' := y0 :: .int x :: R) (st' := st) (h' := h) ?_ K
  rw [hs]
  simp only [zputI, hk, List.length_cons, List.set]
  rfl
theorem zN_sta1 {ai : zI} {y0 y1 : Value} {R : List Value} {x : Nat} (hai : t pc = some ai) (hs : ∀ ls st h, zstep ai ls st h = zputA ls 1 nx st h) (hk : zok1 (y0 :: y1 :: R) 1 = true) (K : zGoP d t nx (y0 :: .ref x :: R) st h r) : zGoP d t pc (y0 :: y1 :: R) (.ref x :: st) h r := by
  refine zG_s hai (pc' := nx) (ls' := y0 :: .ref x :: R) (st' := st) (h' := h) ?_ K
  rw [hs]
  simp only [zputA, hk, List.length_cons, List.set]
  rfl
theorem zN_inc1 {m : Nat} {z : Int} {w : Nat} {y0 : Value} {R : List Value} (hai : t pc = some (.iinc m z, nx, 1, b, c, .int (nI 1))) (hk : zok1 (y0 :: .int (nI w) :: R) 1 = true) (K : zGoP d t nx (y0 :: .int (nI (w + 1)) :: R) st h r) : zGoP d t pc (y0 :: .int (nI w) :: R) st h r := by
  refine zG_s hai (pc' := nx) (ls' := y0 :: .int (nI (w + 1)) :: R) (st' := st) (h' := h) ?_ K
  rw [← nI_add]
  rw [zq_iinc]
  simp only [zinc, List.getElem?_cons_succ, List.getElem?_cons_zero, hk, List.length_cons, List.set]
  rfl
theorem zN_st2 {ai : zI} {y0 y1 y2 : Value} {R : List Value} {x : Int32} (hai : t pc = some ai) (hs : ∀ ls st h, zstep ai ls st h = zputI ls 2 nx st h) (hk : zok1 (y0 :: y1 :: y2 :: R) 2 = true) (K : zGoP d t nx (y0 :: y1 :: .int x :: R) st h r) : zGoP d t pc (y0 :: y1 :: y2 :: R) (.int x :: st) h r := by
  refine zG_s hai (pc' := nx) (ls' := y0 :: y1 :: .int x :: R) (st' := st) (h' := h) ?_ K
  rw [hs]
  simp only [zputI, hk, List.length_cons, List.set]
  rfl
theorem zN_sta2 {ai : zI} {y0 y1 y2 : Value} {R : List Value} {x : Nat} (hai : t pc = some ai) (hs : ∀ ls st h, zstep ai ls st h = zputA ls 2 nx st h) (hk : zok1 (y0 :: y1 :: y2 :: R) 2 = true) (K : zGoP d t nx (y0 :: y1 :: .ref x :: R) st h r) : zGoP d t pc (y0 :: y1 :: y2 :: R) (.ref x :: st) h r := by
  refine zG_s hai (pc' := nx) (ls' := y0 :: y1 :: .ref x :: R) (st' := st) (h' := h) ?_ K
  rw [hs]
  simp only [zputA, hk, List.length_cons, List.set]
  rfl
theorem zN_inc2 {m : Nat} {z : Int} {w : Nat} {y0 y1 : Value} {R : List Value} (hai : t pc = some (.iinc m z, nx, 2, b, c, .int (nI 1))) (hk : zok1 (y0 :: y1 :: .int (nI w) :: R) 2 = true) (K : zGoP d t nx (y0 :: y1 :: .int (nI (w + 1)) :: R) st h r) : zGoP d t pc (y0 :: y1 :: .int (nI w) :: R) st h r := by
  refine zG_s hai (pc' := nx) (ls' := y0 :: y1 :: .int (nI (w + 1)) :: R) (st' := st) (h' := h) ?_ K
  rw [← nI_add]
  rw [zq_iinc]
  simp only [zinc, List.getElem?_cons_succ, List.getElem?_cons_zero, hk, List.length_cons, List.set]
  rfl
theorem zN_st3 {ai : zI} {y0 y1 y2 y3 : Value} {R : List Value} {x : Int32} (hai : t pc = some ai) (hs : ∀ ls st h, zstep ai ls st h = zputI ls 3 nx st h) (hk : zok1 (y0 :: y1 :: y2 :: y3 :: R) 3 = true) (K : zGoP d t nx (y0 :: y1 :: y2 :: .int x :: R) st h r) : zGoP d t pc (y0 :: y1 :: y2 :: y3 :: R) (.int x :: st) h r := by
  refine zG_s hai (pc' := nx) (ls' := y0 :: y1 :: y2 :: .int x :: R) (st' := st) (h' := h) ?_ K
  rw [hs]
  simp only [zputI, hk, List.length_cons, List.set]
  rfl
theorem zN_sta3 {ai : zI} {y0 y1 y2 y3 : Value} {R : List Value} {x : Nat} (hai : t pc = some ai) (hs : ∀ ls st h, zstep ai ls st h = zputA ls 3 nx st h) (hk : zok1 (y0 :: y1 :: y2 :: y3 :: R) 3 = true) (K : zGoP d t nx (y0 :: y1 :: y2 :: .ref x :: R) st h r) : zGoP d t pc (y0 :: y1 :: y2 :: y3 :: R) (.ref x :: st) h r := by
  refine zG_s hai (pc' := nx) (ls' := y0 :: y1 :: y2 :: .ref x :: R) (st' := st) (h' := h) ?_ K
  rw [hs]
  simp only [zputA, hk, List.length_cons, List.set]
  rfl
theorem zN_inc3 {m : Nat} {z : Int} {w : Nat} {y0 y1 y2 : Value} {R : List Value} (hai : t pc = some (.iinc m z, nx, 3, b, c, .int (nI 1))) (hk : zok1 (y0 :: y1 :: y2 :: .int (nI w) :: R) 3 = true) (K : zGoP d t nx (y0 :: y1 :: y2 :: .int (nI (w + 1)) :: R) st h r) : zGoP d t pc (y0 :: y1 :: y2 :: .int (nI w) :: R) st h r := by
  refine zG_s hai (pc' := nx) (ls' := y0 :: y1 :: y2 :: .int (nI (w + 1)) :: R) (st' := st) (h' := h) ?_ K
  rw [← nI_add]
  rw [zq_iinc]
  simp only [zinc, List.getElem?_cons_succ, List.getElem?_cons_zero, hk, List.length_cons, List.set]
  rfl
theorem zN_st4 {ai : zI} {y0 y1 y2 y3 y4 : Value} {R : List Value} {x : Int32} (hai : t pc = some ai) (hs : ∀ ls st h, zstep ai ls st h = zputI ls 4 nx st h) (hk : zok1 (y0 :: y1 :: y2 :: y3 :: y4 :: R) 4 = true) (K : zGoP d t nx (y0 :: y1 :: y2 :: y3 :: .int x :: R) st h r) : zGoP d t pc (y0 :: y1 :: y2 :: y3 :: y4 :: R) (.int x :: st) h r := by
  refine zG_s hai (pc' := nx) (ls' := y0 :: y1 :: y2 :: y3 :: .int x :: R) (st' := st) (h' := h) ?_ K
  rw [hs]
  simp only [zputI, hk, List.length_cons, List.set]
  rfl
theorem zN_sta4 {ai : zI} {y0 y1 y2 y3 y4 : Value} {R : List Value} {x : Nat} (hai : t pc = some ai) (hs : ∀ ls st h, zstep ai ls st h = zputA ls 4 nx st h) (hk : zok1 (y0 :: y1 :: y2 :: y3 :: y4 :: R) 4 = true) (K : zGoP d t nx (y0 :: y1 :: y2 :: y3 :: .ref x :: R) st h r) : zGoP d t pc (y0 :: y1 :: y2 :: y3 :: y4 :: R) (.ref x :: st) h r := by
  refine zG_s hai (pc' := nx) (ls' := y0 :: y1 :: y2 :: y3 :: .ref x :: R) (st' := st) (h' := h) ?_ K
  rw [hs]
  simp only [zputA, hk, List.length_cons, List.set]
  rfl
theorem zN_inc4 {m : Nat} {z : Int} {w : Nat} {y0 y1 y2 y3 : Value} {R : List Value} (hai : t pc = some (.iinc m z, nx, 4, b, c, .int (nI 1))) (hk : zok1 (y0 :: y1 :: y2 :: y3 :: .int (nI w) :: R) 4 = true) (K : zGoP d t nx (y0 :: y1 :: y2 :: y3 :: .int (nI (w + 1)) :: R) st h r) : zGoP d t pc (y0 :: y1 :: y2 :: y3 :: .int (nI w) :: R) st h r := by
  refine zG_s hai (pc' := nx) (ls' := y0 :: y1 :: y2 :: y3 :: .int (nI (w + 1)) :: R) (st' := st) (h' := h) ?_ K
  rw [← nI_add]
  rw [zq_iinc]
  simp only [zinc, List.getElem?_cons_succ, List.getElem?_cons_zero, hk, List.length_cons, List.set]
  rfl
theorem zN_st5 {ai : zI} {y0 y1 y2 y3 y4 y5 : Value} {R : List Value} {x : Int32} (hai : t pc = some ai) (hs : ∀ ls st h, zstep ai ls st h = zputI ls 5 nx st h) (hk : zok1 (y0 :: y1 :: y2 :: y3 :: y4 :: y5 :: R) 5 = true) (K : zGoP d t nx (y0 :: y1 :: y2 :: y3 :: y4 :: .int x :: R) st h r) : zGoP d t pc (y0 :: y1 :: y2 :: y3 :: y4 :: y5 :: R) (.int x :: st) h r := by
  refine zG_s hai (pc' := nx) (ls' := y0 :: y1 :: y2 :: y3 :: y4 :: .int x :: R) (st' := st) (h' := h) ?_ K
  rw [hs]
  simp only [zputI, hk, List.length_cons, List.set]
  rfl
theorem zN_sta5 {ai : zI} {y0 y1 y2 y3 y4 y5 : Value} {R : List Value} {x : Nat} (hai : t pc = some ai) (hs : ∀ ls st h, zstep ai ls st h = zputA ls 5 nx st h) (hk : zok1 (y0 :: y1 :: y2 :: y3 :: y4 :: y5 :: R) 5 = true) (K : zGoP d t nx (y0 :: y1 :: y2 :: y3 :: y4 :: .ref x :: R) st h r) : zGoP d t pc (y0 :: y1 :: y2 :: y3 :: y4 :: y5 :: R) (.ref x :: st) h r := by
  refine zG_s hai (pc' := nx) (ls' := y0 :: y1 :: y2 :: y3 :: y4 :: .ref x :: R) (st' := st) (h' := h) ?_ K
  rw [hs]
  simp only [zputA, hk, List.length_cons, List.set]
  rfl
theorem zN_inc5 {m : Nat} {z : Int} {w : Nat} {y0 y1 y2 y3 y4 : Value} {R : List Value} (hai : t pc = some (.iinc m z, nx, 5, b, c, .int (nI 1))) (hk : zok1 (y0 :: y1 :: y2 :: y3 :: y4 :: .int (nI w) :: R) 5 = true) (K : zGoP d t nx (y0 :: y1 :: y2 :: y3 :: y4 :: .int (nI (w + 1)) :: R) st h r) : zGoP d t pc (y0 :: y1 :: y2 :: y3 :: y4 :: .int (nI w) :: R) st h r := by
  refine zG_s hai (pc' := nx) (ls' := y0 :: y1 :: y2 :: y3 :: y4 :: .int (nI (w + 1)) :: R) (st' := st) (h' := h) ?_ K
  rw [← nI_add]
  rw [zq_iinc]
  simp only [zinc, List.getElem?_cons_succ, List.getElem?_cons_zero, hk, List.length_cons, List.set]
  rfl
theorem zN_st6 {ai : zI} {y0 y1 y2 y3 y4 y5 y6 : Value} {R : List Value} {x : Int32} (hai : t pc = some ai) (hs : ∀ ls st h, zstep ai ls st h = zputI ls 6 nx st h) (hk : zok1 (y0 :: y1 :: y2 :: y3 :: y4 :: y5 :: y6 :: R) 6 = true) (K : zGoP d t nx (y0 :: y1 :: y2 :: y3 :: y4 :: y5 :: .int x :: R) st h r) : zGoP d t pc (y0 :: y1 :: y2 :: y3 :: y4 :: y5 :: y6 :: R) (.int x :: st) h r := by
  refine zG_s hai (pc' := nx) (ls' := y0 :: y1 :: y2 :: y3 :: y4 :: y5 :: .int x :: R) (st' := st) (h' := h) ?_ K
  rw [hs]
  simp only [zputI, hk, List.length_cons, List.set]
  rfl
theorem zN_sta6 {ai : zI} {y0 y1 y2 y3 y4 y5 y6 : Value} {R : List Value} {x : Nat} (hai : t pc = some ai) (hs : ∀ ls st h, zstep ai ls st h = zputA ls 6 nx st h) (hk : zok1 (y0 :: y1 :: y2 :: y3 :: y4 :: y5 :: y6 :: R) 6 = true) (K : zGoP d t nx (y0 :: y1 :: y2 :: y3 :: y4 :: y5 :: .ref x :: R) st h r) : zGoP d t pc (y0 :: y1 :: y2 :: y3 :: y4 :: y5 :: y6 :: R) (.ref x :: st) h r := by
  refine zG_s hai (pc' := nx) (ls' := y0 :: y1 :: y2 :: y3 :: y4 :: y5 :: .ref x :: R) (st' := st) (h' := h) ?_ K
  rw [hs]
  simp only [zputA, hk, List.length_cons, List.set]
  rfl
theorem zN_inc6 {m : Nat} {z : Int} {w : Nat} {y0 y1 y2 y3 y4 y5 : Value} {R : List Value} (hai : t pc = some (.iinc m z, nx, 6, b, c, .int (nI 1))) (hk : zok1 (y0 :: y1 :: y2 :: y3 :: y4 :: y5 :: .int (nI w) :: R) 6 = true) (K : zGoP d t nx (y0 :: y1 :: y2 :: y3 :: y4 :: y5 :: .int (nI (w + 1)) :: R) st h r) : zGoP d t pc (y0 :: y1 :: y2 :: y3 :: y4 :: y5 :: .int (nI w) :: R) st h r := by
  refine zG_s hai (pc' := nx) (ls' := y0 :: y1 :: y2 :: y3 :: y4 :: y5 :: .int (nI (w + 1)) :: R) (st' := st) (h' := h) ?_ K
  rw [← nI_add]
  rw [zq_iinc]
  simp only [zinc, List.getElem?_cons_succ, List.getElem?_cons_zero, hk, List.length_cons, List.set]
  rfl
theorem zN_st7 {ai : zI} {y0 y1 y2 y3 y4 y5 y6 y7 : Value} {R : List Value} {x : Int32} (hai : t pc = some ai) (hs : ∀ ls st h, zstep ai ls st h = zputI ls 7 nx st h) (hk : zok1 (y0 :: y1 :: y2 :: y3 :: y4 :: y5 :: y6 :: y7 :: R) 7 = true) (K : zGoP d t nx (y0 :: y1 :: y2 :: y3 :: y4 :: y5 :: y6 :: .int x :: R) st h r) : zGoP d t pc (y0 :: y1 :: y2 :: y3 :: y4 :: y5 :: y6 :: y7 :: R) (.int x :: st) h r := by
  refine zG_s hai (pc' := nx) (ls' := y0 :: y1 :: y2 :: y3 :: y4 :: y5 :: y6 :: .int x :: R) (st' := st) (h' := h) ?_ K
  rw [hs]
  simp only [zputI, hk, List.length_cons, List.set]
  rfl
theorem zN_sta7 {ai : zI} {y0 y1 y2 y3 y4 y5 y6 y7 : Value} {R : List Value} {x : Nat} (hai : t pc = some ai) (hs : ∀ ls st h, zstep ai ls st h = zputA ls 7 nx st h) (hk : zok1 (y0 :: y1 :: y2 :: y3 :: y4 :: y5 :: y6 :: y7 :: R) 7 = true) (K : zGoP d t nx (y0 :: y1 :: y2 :: y3 :: y4 :: y5 :: y6 :: .ref x :: R) st h r) : zGoP d t pc (y0 :: y1 :: y2 :: y3 :: y4 :: y5 :: y6 :: y7 :: R) (.ref x :: st) h r := by
  refine zG_s hai (pc' := nx) (ls' := y0 :: y1 :: y2 :: y3 :: y4 :: y5 :: y6 :: .ref x :: R) (st' := st) (h' := h) ?_ K
  rw [hs]
  simp only [zputA, hk, List.length_cons, List.set]
  rfl
theorem zN_inc7 {m : Nat} {z : Int} {w : Nat} {y0 y1 y2 y3 y4 y5 y6 : Value} {R : List Value} (hai : t pc = some (.iinc m z, nx, 7, b, c, .int (nI 1))) (hk : zok1 (y0 :: y1 :: y2 :: y3 :: y4 :: y5 :: y6 :: .int (nI w) :: R) 7 = true) (K : zGoP d t nx (y0 :: y1 :: y2 :: y3 :: y4 :: y5 :: y6 :: .int (nI (w + 1)) :: R) st h r) : zGoP d t pc (y0 :: y1 :: y2 :: y3 :: y4 :: y5 :: y6 :: .int (nI w) :: R) st h r := by
  refine zG_s hai (pc' := nx) (ls' := y0 :: y1 :: y2 :: y3 :: y4 :: y5 :: y6 :: .int (nI (w + 1)) :: R) (st' := st) (h' := h) ?_ K
  rw [← nI_add]
  rw [zq_iinc]
  simp only [zinc, List.getElem?_cons_succ, List.getElem?_cons_zero, hk, List.length_cons, List.set]
  rfl
theorem zN_st8 {ai : zI} {y0 y1 y2 y3 y4 y5 y6 y7 y8 : Value} {R : List Value} {x : Int32} (hai : t pc = some ai) (hs : ∀ ls st h, zstep ai ls st h = zputI ls 8 nx st h) (hk : zok1 (y0 :: y1 :: y2 :: y3 :: y4 :: y5 :: y6 :: y7 :: y8 :: R) 8 = true) (K : zGoP d t nx (y0 :: y1 :: y2 :: y3 :: y4 :: y5 :: y6 :: y7 :: .int x :: R) st h r) : zGoP d t pc (y0 :: y1 :: y2 :: y3 :: y4 :: y5 :: y6 :: y7 :: y8 :: R) (.int x :: st) h r := by
  refine zG_s hai (pc' := nx) (ls' := y0 :: y1 :: y2 :: y3 :: y4 :: y5 :: y6 :: y7 :: .int x :: R) (st' := st) (h' := h) ?_ K
  rw [hs]
  simp only [zputI, hk, List.length_cons, List.set]
  rfl
theorem zN_sta8 {ai : zI} {y0 y1 y2 y3 y4 y5 y6 y7 y8 : Value} {R : List Value} {x : Nat} (hai : t pc = some ai) (hs : ∀ ls st h, zstep ai ls st h = zputA ls 8 nx st h) (hk : zok1 (y0 :: y1 :: y2 :: y3 :: y4 :: y5 :: y6 :: y7 :: y8 :: R) 8 = true) (K : zGoP d t nx (y0 :: y1 :: y2 :: y3 :: y4 :: y5 :: y6 :: y7 :: .ref x :: R) st h r) : zGoP d t pc (y0 :: y1 :: y2 :: y3 :: y4 :: y5 :: y6 :: y7 :: y8 :: R) (.ref x :: st) h r := by
  refine zG_s hai (pc' := nx) (ls' := y0 :: y1 :: y2 :: y3 :: y4 :: y5 :: y6 :: y7 :: .ref x :: R) (st' := st) (h' := h) ?_ K
  rw [hs]
  simp only [zputA, hk, List.length_cons, List.set]
  rfl
theorem zN_inc8 {m : Nat} {z : Int} {w : Nat} {y0 y1 y2 y3 y4 y5 y6 y7 : Value} {R : List Value} (hai : t pc = some (.iinc m z, nx, 8, b, c, .int (nI 1))) (hk : zok1 (y0 :: y1 :: y2 :: y3 :: y4 :: y5 :: y6 :: y7 :: .int (nI w) :: R) 8 = true) (K : zGoP d t nx (y0 :: y1 :: y2 :: y3 :: y4 :: y5 :: y6 :: y7 :: .int (nI (w + 1)) :: R) st h r) : zGoP d t pc (y0 :: y1 :: y2 :: y3 :: y4 :: y5 :: y6 :: y7 :: .int (nI w) :: R) st h r := by
  refine zG_s hai (pc' := nx) (ls' := y0 :: y1 :: y2 :: y3 :: y4 :: y5 :: y6 :: y7 :: .int (nI (w + 1)) :: R) (st' := st) (h' := h) ?_ K
  rw [← nI_add]
  rw [zq_iinc]
  simp only [zinc, List.getElem?_cons_succ, List.getElem?_cons_zero, hk, List.length_cons, List.set]
  rfl
theorem zN_st9 {ai : zI} {y0 y1 y2 y3 y4 y5 y6 y7 y8 y9 : Value} {R : List Value} {x : Int32} (hai : t pc = some ai) (hs : ∀ ls st h, zstep ai ls st h = zputI ls 9 nx st h) (hk : zok1 (y0 :: y1 :: y2 :: y3 :: y4 :: y5 :: y6 :: y7 :: y8 :: y9 :: R) 9 = true) (K : zGoP d t nx (y0 :: y1 :: y2 :: y3 :: y4 :: y5 :: y6 :: y7 :: y8 :: .int x :: R) st h r) : zGoP d t pc (y0 :: y1 :: y2 :: y3 :: y4 :: y5 :: y6 :: y7 :: y8 :: y9 :: R) (.int x :: st) h r := by
  refine zG_s hai (pc' := nx) (ls' := y0 :: y1 :: y2 :: y3 :: y4 :: y5 :: y6 :: y7 :: y8 :: .int x :: R) (st' := st) (h' := h) ?_ K
  rw [hs]
  simp only [zputI, hk, List.length_cons, List.set]
  rfl
theorem zN_sta9 {ai : zI} {y0 y1 y2 y3 y4 y5 y6 y7 y8 y9 : Value} {R : List Value} {x : Nat} (hai : t pc = some ai) (hs : ∀ ls st h, zstep ai ls st h = zputA ls 9 nx st h) (hk : zok1 (y0 :: y1 :: y2 :: y3 :: y4 :: y5 :: y6 :: y7 :: y8 :: y9 :: R) 9 = true) (K : zGoP d t nx (y0 :: y1 :: y2 :: y3 :: y4 :: y5 :: y6 :: y7 :: y8 :: .ref x :: R) st h r) : zGoP d t pc (y0 :: y1 :: y2 :: y3 :: y4 :: y5 :: y6 :: y7 :: y8 :: y9 :: R) (.ref x :: st) h r := by
  refine zG_s hai (pc' := nx) (ls' := y0 :: y1 :: y2 :: y3 :: y4 :: y5 :: y6 :: y7 :: y8 :: .ref x :: R) (st' := st) (h' := h) ?_ K
  rw [hs]
  simp only [zputA, hk, List.length_cons, List.set]
  rfl
theorem zN_inc9 {m : Nat} {z : Int} {w : Nat} {y0 y1 y2 y3 y4 y5 y6 y7 y8 : Value} {R : List Value} (hai : t pc = some (.iinc m z, nx, 9, b, c, .int (nI 1))) (hk : zok1 (y0 :: y1 :: y2 :: y3 :: y4 :: y5 :: y6 :: y7 :: y8 :: .int (nI w) :: R) 9 = true) (K : zGoP d t nx (y0 :: y1 :: y2 :: y3 :: y4 :: y5 :: y6 :: y7 :: y8 :: .int (nI (w + 1)) :: R) st h r) : zGoP d t pc (y0 :: y1 :: y2 :: y3 :: y4 :: y5 :: y6 :: y7 :: y8 :: .int (nI w) :: R) st h r := by
  refine zG_s hai (pc' := nx) (ls' := y0 :: y1 :: y2 :: y3 :: y4 :: y5 :: y6 :: y7 :: y8 :: .int (nI (w + 1)) :: R) (st' := st) (h' := h) ?_ K
  rw [← nI_add]
  rw [zq_iinc]
  simp only [zinc, List.getElem?_cons_succ, List.getElem?_cons_zero, hk, List.length_cons, List.set]
  rfl
theorem zN_st10 {ai : zI} {y0 y1 y2 y3 y4 y5 y6 y7 y8 y9 y10 : Value} {R : List Value} {x : Int32} (hai : t pc = some ai) (hs : ∀ ls st h, zstep ai ls st h = zputI ls 10 nx st h) (hk : zok1 (y0 :: y1 :: y2 :: y3 :: y4 :: y5 :: y6 :: y7 :: y8 :: y9 :: y10 :: R) 10 = true) (K : zGoP d t nx (y0 :: y1 :: y2 :: y3 :: y4 :: y5 :: y6 :: y7 :: y8 :: y9 :: .int x :: R) st h r) : zGoP d t pc (y0 :: y1 :: y2 :: y3 :: y4 :: y5 :: y6 :: y7 :: y8 :: y9 :: y10 :: R) (.int x :: st) h r := by
  refine zG_s hai (pc' := nx) (ls' := y0 :: y1 :: y2 :: y3 :: y4 :: y5 :: y6 :: y7 :: y8 :: y9 :: .int x :: R) (st' := st) (h' := h) ?_ K
  rw [hs]
  simp only [zputI, hk, List.length_cons, List.set]
  rfl
theorem zN_sta10 {ai : zI} {y0 y1 y2 y3 y4 y5 y6 y7 y8 y9 y10 : Value} {R : List Value} {x : Nat} (hai : t pc = some ai) (hs : ∀ ls st h, zstep ai ls st h = zputA ls 10 nx st h) (hk : zok1 (y0 :: y1 :: y2 :: y3 :: y4 :: y5 :: y6 :: y7 :: y8 :: y9 :: y10 :: R) 10 = true) (K : zGoP d t nx (y0 :: y1 :: y2 :: y3 :: y4 :: y5 :: y6 :: y7 :: y8 :: y9 :: .ref x :: R) st h r) : zGoP d t pc (y0 :: y1 :: y2 :: y3 :: y4 :: y5 :: y6 :: y7 :: y8 :: y9 :: y10 :: R) (.ref x :: st) h r := by
  refine zG_s hai (pc' := nx) (ls' := y0 :: y1 :: y2 :: y3 :: y4 :: y5 :: y6 :: y7 :: y8 :: y9 :: .ref x :: R) (st' := st) (h' := h) ?_ K
  rw [hs]
  simp only [zputA, hk, List.length_cons, List.set]
  rfl
theorem zN_inc10 {m : Nat} {z : Int} {w : Nat} {y0 y1 y2 y3 y4 y5 y6 y7 y8 y9 : Value} {R : List Value} (hai : t pc = some (.iinc m z, nx, 10, b, c, .int (nI 1))) (hk : zok1 (y0 :: y1 :: y2 :: y3 :: y4 :: y5 :: y6 :: y7 :: y8 :: y9 :: .int (nI w) :: R) 10 = true) (K : zGoP d t nx (y0 :: y1 :: y2 :: y3 :: y4 :: y5 :: y6 :: y7 :: y8 :: y9 :: .int (nI (w + 1)) :: R) st h r) : zGoP d t pc (y0 :: y1 :: y2 :: y3 :: y4 :: y5 :: y6 :: y7 :: y8 :: y9 :: .int (nI w) :: R) st h r := by
  refine zG_s hai (pc' := nx) (ls' := y0 :: y1 :: y2 :: y3 :: y4 :: y5 :: y6 :: y7 :: y8 :: y9 :: .int (nI (w + 1)) :: R) (st' := st) (h' := h) ?_ K
  rw [← nI_add]
  rw [zq_iinc]
  simp only [zinc, List.getElem?_cons_succ, List.getElem?_cons_zero, hk, List.length_cons, List.set]
  rfl
theorem zN_st11 {ai : zI} {y0 y1 y2 y3 y4 y5 y6 y7 y8 y9 y10 y11 : Value} {R : List Value} {x : Int32} (hai : t pc = some ai) (hs : ∀ ls st h, zstep ai ls st h = zputI ls 11 nx st h) (hk : zok1 (y0 :: y1 :: y2 :: y3 :: y4 :: y5 :: y6 :: y7 :: y8 :: y9 :: y10 :: y11 :: R) 11 = true) (K : zGoP d t nx (y0 :: y1 :: y2 :: y3 :: y4 :: y5 :: y6 :: y7 :: y8 :: y9 :: y10 :: .int x :: R) st h r) : zGoP d t pc (y0 :: y1 :: y2 :: y3 :: y4 :: y5 :: y6 :: y7 :: y8 :: y9 :: y10 :: y11 :: R) (.int x :: st) h r := by
  refine zG_s hai (pc' := nx) (ls' := y0 :: y1 :: y2 :: y3 :: y4 :: y5 :: y6 :: y7 :: y8 :: y9 :: y10 :: .int x :: R) (st' := st) (h' := h) ?_ K
  rw [hs]
  simp only [zputI, hk, List.length_cons, List.set]
  rfl
theorem zN_sta11 {ai : zI} {y0 y1 y2 y3 y4 y5 y6 y7 y8 y9 y10 y11 : Value} {R : List Value} {x : Nat} (hai : t pc = some ai) (hs : ∀ ls st h, zstep ai ls st h = zputA ls 11 nx st h) (hk : zok1 (y0 :: y1 :: y2 :: y3 :: y4 :: y5 :: y6 :: y7 :: y8 :: y9 :: y10 :: y11 :: R) 11 = true) (K : zGoP d t nx (y0 :: y1 :: y2 :: y3 :: y4 :: y5 :: y6 :: y7 :: y8 :: y9 :: y10 :: .ref x :: R) st h r) : zGoP d t pc (y0 :: y1 :: y2 :: y3 :: y4 :: y5 :: y6 :: y7 :: y8 :: y9 :: y10 :: y11 :: R) (.ref x :: st) h r := by
  refine zG_s hai (pc' := nx) (ls' := y0 :: y1 :: y2 :: y3 :: y4 :: y5 :: y6 :: y7 :: y8 :: y9 :: y10 :: .ref x :: R) (st' := st) (h' := h) ?_ K
  rw [hs]
  simp only [zputA, hk, List.length_cons, List.set]
  rfl
theorem zN_inc11 {m : Nat} {z : Int} {w : Nat} {y0 y1 y2 y3 y4 y5 y6 y7 y8 y9 y10 : Value} {R : List Value} (hai : t pc = some (.iinc m z, nx, 11, b, c, .int (nI 1))) (hk : zok1 (y0 :: y1 :: y2 :: y3 :: y4 :: y5 :: y6 :: y7 :: y8 :: y9 :: y10 :: .int (nI w) :: R) 11 = true) (K : zGoP d t nx (y0 :: y1 :: y2 :: y3 :: y4 :: y5 :: y6 :: y7 :: y8 :: y9 :: y10 :: .int (nI (w + 1)) :: R) st h r) : zGoP d t pc (y0 :: y1 :: y2 :: y3 :: y4 :: y5 :: y6 :: y7 :: y8 :: y9 :: y10 :: .int (nI w) :: R) st h r := by
  refine zG_s hai (pc' := nx) (ls' := y0 :: y1 :: y2 :: y3 :: y4 :: y5 :: y6 :: y7 :: y8 :: y9 :: y10 :: .int (nI (w + 1)) :: R) (st' := st) (h' := h) ?_ K
  rw [← nI_add]
  rw [zq_iinc]
  simp only [zinc, List.getElem?_cons_succ, List.getElem?_cons_zero, hk, List.length_cons, List.set]
  rfl
theorem zN_add {x y : Nat} (hai : t pc = some (.iadd, nx, a, b, c, v)) (K : zGoP d t nx ls (.int (nI (x + y)) :: st) h r) : zGoP d t pc ls (.int (nI y) :: .int (nI x) :: st) h r := by
  rw [← nI_add] at K
  exact zG_s hai rfl K
theorem zN_sub {x y : Nat} (hai : t pc = some (.isub, nx, a, b, c, v)) (hxy : y ≤ x) (K : zGoP d t nx ls (.int (nI (x - y)) :: st) h r) : zGoP d t pc ls (.int (nI y) :: .int (nI x) :: st) h r := by
  rw [← pk_sub hxy] at K
  exact zG_s hai rfl K
theorem zN_mul {x y : Nat} (hai : t pc = some (.imul, nx, a, b, c, v)) (K : zGoP d t nx ls (.int (nI (x * y)) :: st) h r) : zGoP d t pc ls (.int (nI y) :: .int (nI x) :: st) h r := by
  rw [← pk_mul] at K
  exact zG_s hai rfl K
theorem zN_and {x y : Nat} (hai : t pc = some (.iand, nx, a, b, c, v)) (K : zGoP d t nx ls (.int (nI (x &&& y)) :: st) h r) : zGoP d t pc ls (.int (nI y) :: .int (nI x) :: st) h r := by
  rw [← nI_and] at K
  exact zG_s hai rfl K
theorem zN_or {x y : Nat} (hai : t pc = some (.ior, nx, a, b, c, v)) (K : zGoP d t nx ls (.int (nI (x ||| y)) :: st) h r) : zGoP d t pc ls (.int (nI y) :: .int (nI x) :: st) h r := by
  rw [← nI_or] at K
  exact zG_s hai rfl K
theorem zN_xor {x y : Nat} (hai : t pc = some (.ixor, nx, a, b, c, v)) (K : zGoP d t nx ls (.int (nI (x ^^^ y)) :: st) h r) : zGoP d t pc ls (.int (nI y) :: .int (nI x) :: st) h r := by
  rw [← nI_xor] at K
  exact zG_s hai rfl K
theorem zN_not {x : Nat} (hai : t pc = some (.ixor, nx, a, b, c, v)) (K : zGoP d t nx ls (.int (nI x ^^^ (-1)) :: st) h r) : zGoP d t pc ls (.int (-1) :: .int (nI x) :: st) h r := zG_s hai rfl K
theorem zN_andn {x y : Nat} (hai : t pc = some (.iand, nx, a, b, c, v)) (K : zGoP d t nx ls (.int (nI (zan x y)) :: st) h r) : zGoP d t pc ls (.int (nI y ^^^ (-1)) :: .int (nI x) :: st) h r := by
  rw [← nI_andn] at K
  exact zG_s hai rfl K
theorem zN_shl {x y : Nat} (hai : t pc = some (.ishl, nx, a, b, c, v)) (hy : y < 32) (K : zGoP d t nx ls (.int (nI (x <<< y)) :: st) h r) : zGoP d t pc ls (.int (nI y) :: .int (nI x) :: st) h r := by
  rw [← nI_shl x hy] at K
  exact zG_s hai rfl K
theorem zN_shr {x y : Nat} (hai : t pc = some (.ishr, nx, a, b, c, v)) (hx : x < 2 ^ 31) (hy : y < 32) (K : zGoP d t nx ls (.int (nI (x >>> y)) :: st) h r) : zGoP d t pc ls (.int (nI y) :: .int (nI x) :: st) h r := by
  rw [← nI_shr hx hy] at K
  exact zG_s hai rfl K
theorem zN_rem {x y : Nat} (hai : t pc = some (.irem, nx, a, b, c, v)) (hx : x < 2 ^ 31) (hy0 : 0 < y) (hy : y < 2 ^ 31) (K : zGoP d t nx ls (.int (nI (x % y)) :: st) h r) : zGoP d t pc ls (.int (nI y) :: .int (nI x) :: st) h r := by
  rw [← pk_rem hx hy0 hy] at K
  refine zG_s hai (pc' := nx) (ls' := ls) (st' := .int (nI x - nI x / nI y * nI y) :: st) (h' := h) ?_ K
  rw [zq_irem]
  have : decide (¬ nI y = 0) = true := decide_eq_true (nI_ne0 hy0 hy)
  simp only [z2d, this]
theorem zN_div {x y : Nat} (hai : t pc = some (.idiv, nx, a, b, c, v)) (hx : x < 2 ^ 31) (hy0 : 0 < y) (hy : y < 2 ^ 31) (K : zGoP d t nx ls (.int (nI (x / y)) :: st) h r) : zGoP d t pc ls (.int (nI y) :: .int (nI x) :: st) h r := by
  rw [← pk_div hx hy0 hy] at K
  refine zG_s hai (pc' := nx) (ls' := ls) (st' := .int (nI x / nI y) :: st) (h' := h) ?_ K
  rw [zq_idiv]
  have : decide (¬ nI y = 0) = true := decide_eq_true (nI_ne0 hy0 hy)
  simp only [z2d, this]
/-- fields -/
theorem zN_get {q x ci k : Nat} {fs : List Value} {w : Value} (hai : t pc = some (.getfield x, nx, ci, k, c, v)) (ho : h.2.2 q = .inr (ci, fs)) (hv : fs[k]? = some w) (K : zGoP d t nx ls (w :: st) h r) : zGoP d t pc ls (.ref q :: st) h r := by
  have hl := (List.getElem?_eq_some_iff.mp hv).1
  refine zG_s hai (pc' := nx) (ls' := ls) (st' := w :: st) (h' := h) ?_ K
  rw [zq_getf]
  have e1 : Nat.beq ci ci = true := Nat.beq_refl ci
  have e2 : Nat.blt k fs.length = true := Nat.ble_eq_true_of_le hl
  simp only [zgetf, ho, e1, e2, List.getD_eq_getElem?_getD, hv]
  rfl
theorem zN_put {q x ci k : Nat} {fs fs' : List Value} {w : Value} (hai : t pc = some (.putfield x, nx, ci, k, c, v)) (ho : h.2.2 q = .inr (ci, fs)) (hk : Nat.blt k fs.length = true) (hw : zfit (ztf ci k) w = true) (hf : fs.set k w = fs') (K : zGoP d t nx ls st (zset h q (.inr (ci, fs'))) r) : zGoP d t pc ls (w :: .ref q :: st) h r := by
  subst hf
  refine zG_s hai (pc' := nx) (ls' := ls) (st' := st) (h' := zset h q (.inr (ci, fs.set k w))) ?_ K
  rw [zq_putf]
  have e1 : Nat.beq ci ci = true := Nat.beq_refl ci
  simp only [zputf, ho, e1, hk, hw]
  rfl
/-- rows of ints -/
theorem zN_ald {q k n : Nat} {f : Nat → Int32} {w : Int32} (hai : t pc = some (.iaload, nx, a, b, c, v)) (ho : h.2.2 q = .inl (0, n, .inl f)) (hk : k < n) (hn : n < 2 ^ 31) (hf : f k = w) (K : zGoP d t nx ls (.int w :: st) h r) : zGoP d t pc ls (.int (nI k) :: .ref q :: st) h r := by
  subst hf
  refine zG_s hai (pc' := nx) (ls' := ls) (st' := .int (f k) :: st) (h' := h) ?_ K
  rw [zq_ald]
  simp only [zald, ho, zin_n hk hn, nI_cl (Nat.lt_trans hk hn)]
theorem zN_ast {q k n : Nat} {f : Nat → Int32} {w : Int32} (hai : t pc = some (.iastore, nx, a, b, c, v)) (ho : h.2.2 q = .inl (0, n, .inl f)) (hk : k < n) (hn : n < 2 ^ 31) (h2 : Nat.ble 2 q = true) (K : zGoP d t nx ls st (zset h q (.inl (0, n, .inl (upd f k w)))) r) : zGoP d t pc ls (.int w :: .int (nI k) :: .ref q :: st) h r := by
  refine zG_s hai (pc' := nx) (ls' := ls) (st' := st) (h' := zset h q (.inl (0, n, .inl (upd f k w)))) ?_ K
  rw [zq_ast]
  simp only [zast, ho, zin_n hk hn, nI_cl (Nat.lt_trans hk hn), h2]
  rfl
theorem zN_bld {q k n tt : Nat} {f : Nat → Int32} {w : Int32} (hai : t pc = some (.baload, nx, a, b, c, v)) (htt : tt = 2 ∨ tt = 3) (ho : h.2.2 q = .inl (tt, n, .inl f)) (hk : k < n) (hn : n < 2 ^ 31) (hf : f k = w) (K : zGoP d t nx ls (.int w :: st) h r) : zGoP d t pc ls (.int (nI k) :: .ref q :: st) h r := by
  subst hf
  refine zG_s hai (pc' := nx) (ls' := ls) (st' := .int (f k) :: st) (h' := h) ?_ K
  rw [zq_bld]
  rcases htt with rfl | rfl <;> simp only [zbld, ho, zin_n hk hn, nI_cl (Nat.lt_trans hk hn)]
theorem zN_bst {q k n tt : Nat} {ty : FieldType} {f : Nat → Int32} {w : Int32} (hai : t pc = some (.bastore, nx, a, b, c, v)) (htt : tt = 2 ∧ ty = .byte ∨ tt = 3 ∧ ty = .boolean) (ho : h.2.2 q = .inl (tt, n, .inl f)) (hk : k < n) (hn : n < 2 ^ 31) (h2 : Nat.ble 2 q = true) (K : zGoP d t nx ls st (zset h q (.inl (tt, n, .inl (upd f k (vp_nar ty w))))) r) : zGoP d t pc ls (.int w :: .int (nI k) :: .ref q :: st) h r := by
  refine zG_s hai (pc' := nx) (ls' := ls) (st' := st) (h' := zset h q (.inl (tt, n, .inl (upd f k (vp_nar ty w))))) ?_ K
  rw [zq_bst]
  rcases htt with ⟨rfl, rfl⟩ | ⟨rfl, rfl⟩
  · simp only [zbst, ho, zin_n hk hn, nI_cl (Nat.lt_trans hk hn), h2]; rfl
  · simp only [zbst, ho, zin_n hk hn, nI_cl (Nat.lt_trans hk hn), h2]; rfl
theorem zN_lld {q k n : Nat} {f : Nat → Int64} {w : Int64} (hai : t pc = some (.laload, nx, a, b, c, v)) (ho : h.2.2 q = .inl (1, n, .inr (.inl f))) (hk : k < n) (hn : n < 2 ^ 31) (hf : f k = w) (K : zGoP d t nx ls (.long w :: st) h r) : zGoP d t pc ls (.int (nI k) :: .ref q :: st) h r := by
  subst hf
  refine zG_s hai (pc' := nx) (ls' := ls) (st' := .long (f k) :: st) (h' := h) ?_ K
  rw [zq_lld]
  simp only [zlld, ho, zin_n hk hn, nI_cl (Nat.lt_trans hk hn)]
theorem zN_lst {q k n : Nat} {f : Nat → Int64} {w : Int64} (hai : t pc = some (.lastore, nx, a, b, c, v)) (ho : h.2.2 q = .inl (1, n, .inr (.inl f))) (hk : k < n) (hn : n < 2 ^ 31) (h2 : Nat.ble 2 q = true) (K : zGoP d t nx ls st (zset h q (.inl (1, n, .inr (.inl (vp_updL f k w))))) r) : zGoP d t pc ls (.long w :: .int (nI k) :: .ref q :: st) h r := by
  refine zG_s hai (pc' := nx) (ls' := ls) (st' := st) (h' := zset h q (.inl (1, n, .inr (.inl (vp_updL f k w))))) ?_ K
  rw [zq_lst]
  simp only [zlst, ho, zin_n hk hn, nI_cl (Nat.lt_trans hk hn), h2]
  rfl
theorem zN_qld {q k n tt g : Nat} {f : Nat → Option Nat} (hai : t pc = some (.aaload, nx, a, b, c, v)) (ho : h.2.2 q = .inl (tt + 4, n, .inr (.inr f))) (hk : k < n) (hn : n < 2 ^ 31) (hf : f k = some g) (K : zGoP d t nx ls (.ref g :: st) h r) : zGoP d t pc ls (.int (nI k) :: .ref q :: st) h r := by
  refine zG_s hai (pc' := nx) (ls' := ls) (st' := .ref g :: st) (h' := h) ?_ K
  rw [zq_qld]
  simp only [zqld, ho, zin_n hk hn, nI_cl (Nat.lt_trans hk hn), hf, zrf]
/-- branches on numbers -/
theorem zN_if {q : ClassFile.Cond} {z : Int} {x : Int32} (hai : t pc = some (.ifCond q z, nx, a, b, c, v)) (K1 : zc1 q x = true → zGoP d t a ls st h r) (K2 : zc1 q x = false → zGoP d t nx ls st h r) : zGoP d t pc ls (.int x :: st) h r := zG_br hai rfl K1 K2
theorem zN_if2 {q : ClassFile.Cond} {z : Int} {x y : Int32} (hai : t pc = some (.if_icmp q z, nx, a, b, c, v)) (K1 : zc2 q x y = true → zGoP d t a ls st h r) (K2 : zc2 q x y = false → zGoP d t nx ls st h r) : zGoP d t pc ls (.int y :: .int x :: st) h r := zG_br hai rfl K1 K2
theorem zN_ifb {z : Int} {x : Bool} (hai : t pc = some (.ifCond .eq z, nx, a, b, c, v)) (K1 : x = false → zGoP d t a ls st h r) (K2 : x = true → zGoP d t nx ls st h r) : zGoP d t pc ls (.int (nI (b2n x)) :: st) h r := by
  cases x with
  | false => exact zG_br hai rfl (fun _ => K1 rfl) (fun q => absurd q (by decide))
  | true => exact zG_br hai rfl (fun q => absurd q (by decide)) (fun _ => K2 rfl)
theorem zN_ifnb {z : Int} {x : Bool} (hai : t pc = some (.ifCond .ne z, nx, a, b, c, v)) (K1 : x = true → zGoP d t a ls st h r) (K2 : x = false → zGoP d t nx ls st h r) : zGoP d t pc ls (.int (nI (b2n x)) :: st) h r := by
  cases x with
  | false => exact zG_br hai rfl (fun q => absurd q (by decide)) (fun _ => K2 rfl)
  | true => exact zG_br hai rfl (fun _ => K1 rfl) (fun q => absurd q (by decide))
theorem zN_eq0 {z : Int} {x : Nat} (hai : t pc = some (.ifCond .eq z, nx, a, b, c, v)) (hx : x < 2 ^ 31) (K1 : x = 0 → zGoP d t a ls st h r) (K2 : 0 < x → zGoP d t nx ls st h r) : zGoP d t pc ls (.int (nI x) :: st) h r := by
  refine zG_br hai rfl (fun q => K1 ?_) (fun q => K2 ?_)
  · exact (nI_eq hx (by decide)).mp (of_decide_eq_true q)
  · rcases Nat.eq_zero_or_pos x with e | e
    · subst e
      exact absurd q (by decide)
    · exact e
theorem zN_ne0 {z : Int} {x : Nat} (hai : t pc = some (.ifCond .ne z, nx, a, b, c, v)) (hx : x < 2 ^ 31) (K1 : 0 < x → zGoP d t a ls st h r) (K2 : x = 0 → zGoP d t nx ls st h r) : zGoP d t pc ls (.int (nI x) :: st) h r := by
  refine zG_br hai rfl (fun q => K1 ?_) (fun q => K2 ?_)
  · rcases Nat.eq_zero_or_pos x with e | e
    · subst e
      exact absurd q (by decide)
    · exact e
  · rcases Nat.eq_zero_or_pos x with e | e
    · exact e
    · have : decide (¬ nI x = 0) = true := decide_eq_true (nI_ne0 e hx)
      exact absurd (this.symm.trans q) (by decide)
theorem zN_ge0 {z : Int} {x : Nat} (hai : t pc = some (.ifCond .ge z, nx, a, b, c, v)) (hx : x < 2 ^ 31) (K1 : zGoP d t a ls st h r) : zGoP d t pc ls (.int (nI x) :: st) h r := by
  refine zG_br hai rfl (fun q => K1) (fun q => ?_)
  have : decide (0 ≤ nI x) = true := decide_eq_true (nI_pos' hx)
  exact absurd (this.symm.trans q) (by decide)
theorem zN_lt0 {z : Int} {x : Nat} (hai : t pc = some (.ifCond .lt z, nx, a, b, c, v)) (hx : x < 2 ^ 31) (K2 : zGoP d t nx ls st h r) : zGoP d t pc ls (.int (nI x) :: st) h r := by
  refine zG_br hai rfl (fun q => ?_) (fun q => K2)
  exact absurd (of_decide_eq_true q) (nI_pos hx)
theorem zN_ige {z : Int} {x y : Nat} (hai : t pc = some (.if_icmp .ge z, nx, a, b, c, v)) (hx : x < 2 ^ 31) (hy : y < 2 ^ 31) (K1 : y ≤ x → zGoP d t a ls st h r) (K2 : x < y → zGoP d t nx ls st h r) : zGoP d t pc ls (.int (nI y) :: .int (nI x) :: st) h r := by
  refine zG_br hai rfl (fun q => K1 ?_) (fun q => K2 ?_)
  · have q : nI y ≤ nI x := of_decide_eq_true q
    exact (nI_leI hy hx).mp q
  · exact Nat.lt_of_not_le (fun g => of_decide_eq_false q ((nI_leI hy hx).mpr g))
theorem zN_ilt {z : Int} {x y : Nat} (hai : t pc = some (.if_icmp .lt z, nx, a, b, c, v)) (hx : x < 2 ^ 31) (hy : y < 2 ^ 31) (K1 : x < y → zGoP d t a ls st h r) (K2 : y ≤ x → zGoP d t nx ls st h r) : zGoP d t pc ls (.int (nI y) :: .int (nI x) :: st) h r := by
  refine zG_br hai rfl (fun q => K1 ?_) (fun q => K2 ?_)
  · have q : nI x < nI y := of_decide_eq_true q
    exact (nI_ltI hx hy).mp q
  · exact Nat.le_of_not_lt (fun g => of_decide_eq_false q ((nI_ltI hx hy).mpr g))
theorem zN_igt {z : Int} {x y : Nat} (hai : t pc = some (.if_icmp .gt z, nx, a, b, c, v)) (hx : x < 2 ^ 31) (hy : y < 2 ^ 31) (K1 : y < x → zGoP d t a ls st h r) (K2 : x ≤ y → zGoP d t nx ls st h r) : zGoP d t pc ls (.int (nI y) :: .int (nI x) :: st) h r := by
  refine zG_br hai rfl (fun q => K1 ?_) (fun q => K2 ?_)
  · have q : nI y < nI x := of_decide_eq_true q
    exact (nI_ltI hy hx).mp q
  · exact Nat.le_of_not_lt (fun g => of_decide_eq_false q ((nI_ltI hy hx).mpr g))
theorem zN_ile {z : Int} {x y : Nat} (hai : t pc = some (.if_icmp .le z, nx, a, b, c, v)) (hx : x < 2 ^ 31) (hy : y < 2 ^ 31) (K1 : x ≤ y → zGoP d t a ls st h r) (K2 : y < x → zGoP d t nx ls st h r) : zGoP d t pc ls (.int (nI y) :: .int (nI x) :: st) h r := by
  refine zG_br hai rfl (fun q => K1 ?_) (fun q => K2 ?_)
  · have q : nI x ≤ nI y := of_decide_eq_true q
    exact (nI_leI hx hy).mp q
  · exact Nat.lt_of_not_le (fun g => of_decide_eq_false q ((nI_leI hx hy).mpr g))
theorem zN_ieq {z : Int} {x y : Nat} (hai : t pc = some (.if_icmp .eq z, nx, a, b, c, v)) (hx : x < 2 ^ 31) (hy : y < 2 ^ 31) (K1 : x = y → zGoP d t a ls st h r) (K2 : x ≠ y → zGoP d t nx ls st h r) : zGoP d t pc ls (.int (nI y) :: .int (nI x) :: st) h r := by
  refine zG_br hai rfl (fun q => K1 ?_) (fun q => K2 ?_)
  · have q : nI x = nI y := of_decide_eq_true q
    exact (nI_eq hx hy).mp q
  · exact fun g => of_decide_eq_false q ((nI_eq hx hy).mpr g)
theorem zN_ine {z : Int} {x y : Nat} (hai : t pc = some (.if_icmp .ne z, nx, a, b, c, v)) (hx : x < 2 ^ 31) (hy : y < 2 ^ 31) (K1 : x ≠ y → zGoP d t a ls st h r) (K2 : x = y → zGoP d t nx ls st h r) : zGoP d t pc ls (.int (nI y) :: .int (nI x) :: st) h r := by
  refine zG_br hai rfl (fun q => K1 ?_) (fun q => K2 ?_)
  · have q : ¬ nI x = nI y := of_decide_eq_true q
    exact fun g => q ((nI_eq hx hy).mpr g)
  · rcases Nat.lt_trichotomy x y with g | g | g
    · exact absurd (show decide (¬ nI x = nI y) = true from decide_eq_true (fun e => by have := (nI_eq hx hy).mp e; omega)) (by rw [show decide (¬ nI x = nI y) = false from q]; decide)
    · exact g
    · exact absurd (show decide (¬ nI x = nI y) = true from decide_eq_true (fun e => by have := (nI_eq hx hy).mp e; omega)) (by rw [show decide (¬ nI x = nI y) = false from q]; decide)
end ZW
/-- from the end of a loop backwards -/
theorem zdown {P : Nat → Prop} (n : Nat) (h0 : P n) (hs : ∀ p, p < n → P (p + 1) → P p) : ∀ p, p ≤ n → P p := by
  intro p hp
  obtain ⟨k, hk⟩ : ∃ k, n = p + k := ⟨n - p, by omega⟩
  induction k generalizing p with
  | zero => rw [hk] at h0; exact h0
  | succ k ih => exact hs p (by omega) (ih (p + 1) (by omega) (by omega))
theorem zset_eq (h : zH) (k : Nat) (c : zC) : (zset h k c).2.2 k = c := if_pos rfl
theorem zset_ne (h : zH) {k j : Nat} (c : zC) (e : j ≠ k) : (zset h k c).2.2 j = h.2.2 j := if_neg e
theorem zset_set (h : zH) (k : Nat) (c c' : zC) : zset (zset h k c) k c' = zset h k c' := by
  show (h.1, h.2.1, _) = (h.1, h.2.1, _)
  congr 2
  funext j
  by_cases e : j = k <;> simp [e, zset]
theorem zset_comm (h : zH) {k j : Nat} (c c' : zC) (e : j ≠ k) : zset (zset h k c) j c' = zset (zset h j c') k c := by
  show (h.1, h.2.1, _) = (h.1, h.2.1, _)
  congr 2
  funext i
  by_cases e2 : i = j
  · subst e2; simp [zset, e]
  · by_cases e1 : i = k
    · subst e1; simp [zset, e2]
    · simp [zset, e1, e2]
theorem zset_self (h : zH) {k : Nat} {c : zC} (e : h.2.2 k = c) : zset h k c = h := by
  obtain ⟨h1, h2, h3⟩ := h
  show (h1, h2, _) = (h1, h2, h3)
  congr 2
  funext j
  by_cases q : j = k
  · subst q; simp [← e]
  · simp [q]
