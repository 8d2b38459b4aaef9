/-! longs told by numbers -/
def nL (x : Nat) : Int64 := Int64.ofNat x
theorem nL_bit (x : Nat) {i : Nat} (hi : i < 64) : (nL x).toBitVec.getLsbD i = x.testBit i := by
  rw [show (nL x).toBitVec = BitVec.ofNat 64 x from rfl, BitVec.getLsbD_ofNat]
  simp [hi]
theorem nL_and (a b : Nat) : nL a &&& nL b = nL (a &&& b) := by
  apply Int64.toBitVec_inj.mp
  apply BitVec.eq_of_getLsbD_eq
  intro i hi
  rw [Int64.toBitVec_and, BitVec.getLsbD_and, nL_bit _ hi, nL_bit _ hi, nL_bit _ hi, Nat.testBit_and]
theorem nL_or (a b : Nat) : nL a ||| nL b = nL (a ||| b) := by
  apply Int64.toBitVec_inj.mp
  apply BitVec.eq_of_getLsbD_eq
  intro i hi
  rw [Int64.toBitVec_or, BitVec.getLsbD_or, nL_bit _ hi, nL_bit _ hi, nL_bit _ hi, Nat.testBit_or]
theorem nL_xor (a b : Nat) : nL a ^^^ nL b = nL (a ^^^ b) := by
  apply Int64.toBitVec_inj.mp
  apply BitVec.eq_of_getLsbD_eq
  intro i hi
  rw [Int64.toBitVec_xor, BitVec.getLsbD_xor, nL_bit _ hi, nL_bit _ hi, nL_bit _ hi, Nat.testBit_xor]
theorem nL_tn {a : Nat} (ha : a < 2 ^ 64) : (nL a).toBitVec.toNat = a := by
  rw [show (nL a).toBitVec = BitVec.ofNat 64 a from rfl, BitVec.toNat_ofNat, Nat.mod_eq_of_lt ha]
theorem nL_inj {a b : Nat} (ha : a < 2 ^ 64) (hb : b < 2 ^ 64) (h : nL a = nL b) : a = b := by
  have := congrArg (fun z : Int64 => z.toBitVec.toNat) h
  simpa [nL_tn ha, nL_tn hb] using this
theorem nL_cnt : ∀ k, k < 64 → (((nI k).toInt64 &&& 63).toBitVec.smod 64).toNat = k := by decide +kernel
theorem nL_shl (a : Nat) {k : Nat} (hk : k < 64) : nL a <<< ((nI k).toInt64 &&& 63) = nL (a <<< k) := by
  apply Int64.toBitVec_inj.mp
  apply BitVec.eq_of_toNat_eq
  show ((nL a).toBitVec <<< (((nI k).toInt64 &&& 63).toBitVec.smod 64).toNat).toNat = _
  rw [nL_cnt k hk, BitVec.toNat_shiftLeft, show (nL a).toBitVec = BitVec.ofNat 64 a from rfl, show (nL (a <<< k)).toBitVec = BitVec.ofNat 64 (a <<< k) from rfl, BitVec.toNat_ofNat, BitVec.toNat_ofNat, Nat.shiftLeft_eq, Nat.shiftLeft_eq]
  simp
theorem nL_neg {b : Nat} (hb : b < 2 ^ 64) : -(nL b) = nL (2 ^ 64 - b) := by
  apply Int64.toBitVec_inj.mp
  apply BitVec.eq_of_toNat_eq
  rw [Int64.toBitVec_neg, BitVec.toNat_neg, nL_tn hb, show (nL (2 ^ 64 - b)).toBitVec = BitVec.ofNat 64 (2 ^ 64 - b) from rfl, BitVec.toNat_ofNat]
/-- the lowest bit -/
def zLb (b : Nat) : Nat := b &&& (2 ^ 64 - b)
section ZL
variable {d : Nat} {t : Nat → Option zI} {pc : Nat} {ls st : List Value} {h : zH} {r : zR → Prop} {nx a b c : Nat} {v : Value}
theorem zN_lor {x y : Nat} (hai : t pc = some (.lor, nx, a, b, c, v)) (K : zGoP d t nx ls (.long (nL (x ||| y)) :: st) h r) : zGoP d t pc ls (.long (nL y) :: .long (nL x) :: st) h r := by
  rw [← nL_or] at K
  exact zG_s hai rfl K
theorem zN_land {x y : Nat} (hai : t pc = some (.land, nx, a, b, c, v)) (K : zGoP d t nx ls (.long (nL (x &&& y)) :: st) h r) : zGoP d t pc ls (.long (nL y) :: .long (nL x) :: st) h r := by
  rw [← nL_and] at K
  exact zG_s hai rfl K
theorem zN_lxor {x y : Nat} (hai : t pc = some (.lxor, nx, a, b, c, v)) (K : zGoP d t nx ls (.long (nL (x ^^^ y)) :: st) h r) : zGoP d t pc ls (.long (nL y) :: .long (nL x) :: st) h r := by
  rw [← nL_xor] at K
  exact zG_s hai rfl K
theorem zN_lshl {x y : Nat} (hai : t pc = some (.lshl, nx, a, b, c, v)) (hy : y < 64) (K : zGoP d t nx ls (.long (nL (x <<< y)) :: st) h r) : zGoP d t pc ls (.int (nI y) :: .long (nL x) :: st) h r := by
  rw [← nL_shl x hy] at K
  exact zG_s hai rfl K
theorem zN_lowb {x : Nat} {n1 n2 a2 b2 c2 : Nat} {v2 : Value} (hai : t pc = some (.lneg, n1, a, b, c, v)) (hai2 : t n1 = some (.land, n2, a2, b2, c2, v2)) (hx : x < 2 ^ 64) (K : zGoP d t n2 ls (.long (nL (zLb x)) :: st) h r) : zGoP d t pc ls (.long (nL x) :: .long (nL x) :: st) h r := by
  refine zG_s (st' := .long (-(nL x)) :: .long (nL x) :: st) hai rfl ?_
  rw [nL_neg hx]
  exact zN_land hai2 K
theorem zN_lc0 {z : Int} {x : Nat} (hai : t pc = some (.ifCond .eq z, nx, a, b, c, v)) (hx : x < 2 ^ 64) (K1 : x = 0 → zGoP d t a ls st h r) (K2 : x ≠ 0 → zGoP d t nx ls st h r) : zGoP d t pc ls (.int (lg_cmp (nL x) (nL 0)) :: st) h r := by
  refine zN_if hai (fun q => K1 ?_) (fun q => K2 ?_)
  · have q : lg_cmp (nL x) (nL 0) = 0 := of_decide_eq_true q
    exact nL_inj hx (by decide) ((lg_cmp_eq _ _).mp q)
  · have q : ¬ lg_cmp (nL x) (nL 0) = 0 := of_decide_eq_false q
    exact fun e => q ((lg_cmp_eq _ _).mpr (by rw [e]))
theorem zN_stl2 {ai : zI} {y0 y1 y2 y3 : Value} {R : List Value} {x : Int64} (hai : t pc = some ai) (hs : ∀ ls st h, zstep ai ls st h = zputL ls 2 nx st h) (hk : zok1 (y0 :: y1 :: y2 :: y3 :: R) 2 = true) (K : zGoP d t nx (y0 :: y1 :: .long x :: .null :: R) st h r) : zGoP d t pc (y0 :: y1 :: y2 :: y3 :: R) (.long x :: st) h r := by
  refine zG_s hai (pc' := nx) (ls' := y0 :: y1 :: .long x :: .null :: R) (st' := st) (h' := h) ?_ K
  rw [hs]
  simp only [zputL, hk, List.length_cons, List.set]
  rfl
theorem zN_stl3 {ai : zI} {y0 y1 y2 y3 y4 : Value} {R : List Value} {x : Int64} (hai : t pc = some ai) (hs : ∀ ls st h, zstep ai ls st h = zputL ls 3 nx st h) (hk : zok1 (y0 :: y1 :: y2 :: y3 :: y4 :: R) 3 = true) (K : zGoP d t nx (y0 :: y1 :: y2 :: .long x :: .null :: R) st h r) : zGoP d t pc (y0 :: y1 :: y2 :: y3 :: y4 :: R) (.long x :: st) h r := by
  refine zG_s hai (pc' := nx) (ls' := y0 :: y1 :: y2 :: .long x :: .null :: R) (st' := st) (h' := h) ?_ K
  rw [hs]
  simp only [zputL, hk, List.length_cons, List.set]
  rfl
theorem zN_stl4 {ai : zI} {y0 y1 y2 y3 y4 y5 : Value} {R : List Value} {x : Int64} (hai : t pc = some ai) (hs : ∀ ls st h, zstep ai ls st h = zputL ls 4 nx st h) (hk : zok1 (y0 :: y1 :: y2 :: y3 :: y4 :: y5 :: R) 4 = true) (K : zGoP d t nx (y0 :: y1 :: y2 :: y3 :: .long x :: .null :: R) st h r) : zGoP d t pc (y0 :: y1 :: y2 :: y3 :: y4 :: y5 :: R) (.long x :: st) h r := by
  refine zG_s hai (pc' := nx) (ls' := y0 :: y1 :: y2 :: y3 :: .long x :: .null :: R) (st' := st) (h' := h) ?_ K
  rw [hs]
  simp only [zputL, hk, List.length_cons, List.set]
  rfl
theorem zN_stl5 {ai : zI} {y0 y1 y2 y3 y4 y5 y6 : Value} {R : List Value} {x : Int64} (hai : t pc = some ai) (hs : ∀ ls st h, zstep ai ls st h = zputL ls 5 nx st h) (hk : zok1 (y0 :: y1 :: y2 :: y3 :: y4 :: y5 :: y6 :: R) 5 = true) (K : zGoP d t nx (y0 :: y1 :: y2 :: y3 :: y4 :: .long x :: .null :: R) st h r) : zGoP d t pc (y0 :: y1 :: y2 :: y3 :: y4 :: y5 :: y6 :: R) (.long x :: st) h r := by
  refine zG_s hai (pc' := nx) (ls' := y0 :: y1 :: y2 :: y3 :: y4 :: .long x :: .null :: R) (st' := st) (h' := h) ?_ K
  rw [hs]
  simp only [zputL, hk, List.length_cons, List.set]
  rfl
theorem zN_stl6 {ai : zI} {y0 y1 y2 y3 y4 y5 y6 y7 : Value} {R : List Value} {x : Int64} (hai : t pc = some ai) (hs : ∀ ls st h, zstep ai ls st h = zputL ls 6 nx st h) (hk : zok1 (y0 :: y1 :: y2 :: y3 :: y4 :: y5 :: y6 :: y7 :: R) 6 = true) (K : zGoP d t nx (y0 :: y1 :: y2 :: y3 :: y4 :: y5 :: .long x :: .null :: R) st h r) : zGoP d t pc (y0 :: y1 :: y2 :: y3 :: y4 :: y5 :: y6 :: y7 :: R) (.long x :: st) h r := by
  refine zG_s hai (pc' := nx) (ls' := y0 :: y1 :: y2 :: y3 :: y4 :: y5 :: .long x :: .null :: R) (st' := st) (h' := h) ?_ K
  rw [hs]
  simp only [zputL, hk, List.length_cons, List.set]
  rfl
theorem zN_stl7 {ai : zI} {y0 y1 y2 y3 y4 y5 y6 y7 y8 : Value} {R : List Value} {x : Int64} (hai : t pc = some ai) (hs : ∀ ls st h, zstep ai ls st h = zputL ls 7 nx st h) (hk : zok1 (y0 :: y1 :: y2 :: y3 :: y4 :: y5 :: y6 :: y7 :: y8 :: R) 7 = true) (K : zGoP d t nx (y0 :: y1 :: y2 :: y3 :: y4 :: y5 :: y6 :: .long x :: .null :: R) st h r) : zGoP d t pc (y0 :: y1 :: y2 :: y3 :: y4 :: y5 :: y6 :: y7 :: y8 :: R) (.long x :: st) h r := by
  refine zG_s hai (pc' := nx) (ls' := y0 :: y1 :: y2 :: y3 :: y4 :: y5 :: y6 :: .long x :: .null :: R) (st' := st) (h' := h) ?_ K
  rw [hs]
  simp only [zputL, hk, List.length_cons, List.set]
  rfl
theorem zN_stl8 {ai : zI} {y0 y1 y2 y3 y4 y5 y6 y7 y8 y9 : Value} {R : List Value} {x : Int64} (hai : t pc = some ai) (hs : ∀ ls st h, zstep ai ls st h = zputL ls 8 nx st h) (hk : zok1 (y0 :: y1 :: y2 :: y3 :: y4 :: y5 :: y6 :: y7 :: y8 :: y9 :: R) 8 = true) (K : zGoP d t nx (y0 :: y1 :: y2 :: y3 :: y4 :: y5 :: y6 :: y7 :: .long x :: .null :: R) st h r) : zGoP d t pc (y0 :: y1 :: y2 :: y3 :: y4 :: y5 :: y6 :: y7 :: y8 :: y9 :: R) (.long x :: st) h r := by
  refine zG_s hai (pc' := nx) (ls' := y0 :: y1 :: y2 :: y3 :: y4 :: y5 :: y6 :: y7 :: .long x :: .null :: R) (st' := st) (h' := h) ?_ K
  rw [hs]
  simp only [zputL, hk, List.length_cons, List.set]
  rfl
theorem zN_stl9 {ai : zI} {y0 y1 y2 y3 y4 y5 y6 y7 y8 y9 y10 : Value} {R : List Value} {x : Int64} (hai : t pc = some ai) (hs : ∀ ls st h, zstep ai ls st h = zputL ls 9 nx st h) (hk : zok1 (y0 :: y1 :: y2 :: y3 :: y4 :: y5 :: y6 :: y7 :: y8 :: y9 :: y10 :: R) 9 = true) (K : zGoP d t nx (y0 :: y1 :: y2 :: y3 :: y4 :: y5 :: y6 :: y7 :: y8 :: .long x :: .null :: R) st h r) : zGoP d t pc (y0 :: y1 :: y2 :: y3 :: y4 :: y5 :: y6 :: y7 :: y8 :: y9 :: y10 :: R) (.long x :: st) h r := by
  refine zG_s hai (pc' := nx) (ls' := y0 :: y1 :: y2 :: y3 :: y4 :: y5 :: y6 :: y7 :: y8 :: .long x :: .null :: R) (st' := st) (h' := h) ?_ K
  rw [hs]
  simp only [zputL, hk, List.length_cons, List.set]
  rfl
end ZL
