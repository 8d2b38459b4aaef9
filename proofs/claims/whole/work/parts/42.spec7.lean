/-! sheets and the tape of the class -/
def zShO (o st ln : Nat) : zC := .inr (6, [.int (zbv st), .int (nI ln), .ref (o + 1)])
def zNar (st : Nat) (v : Int32) : Int32 := if st = 1 then v.toInt8.toInt32 else if st = 2 then (v.toUInt32 % 65536).toInt32 else v
def zSh (h : zH) (o st ln : Nat) (f : Nat → Int32) : Prop := h.2.2 o = .inr (6, [.int (zbv st), .int (nI ln), .ref (o + 1)]) ∧ h.2.2 (o + 1) = .inl (0, 40, .inl f)
/-- is a run of n places from place i within ln -/
def zInr (ln : Nat) (i n : Int32) : Bool := zin i (ln + 1) && zin n (ln - i.toNatClampNeg + 1)
theorem zbv_in {st k : Nat} (hk : k < 2 ^ 31) (hs : st < 2 ^ 31) : zbv st = nI k ↔ st = k + 1 := by
  unfold zbv
  split
  · next e =>
    subst e
    constructor
    · intro h
      exact absurd (h.symm ▸ nI_pos hk : ¬ (-1 : Int32) < 0) (by decide)
    · intro h; omega
  · next e =>
    rw [nI_eq (by omega) hk]
    omega
def zTo (o ln p : Nat) : zC := .inr (8, [.ref (o + 1), .int (nI ln), .int (nI p)])
/-- a byte as the class' row of bytes holds it -/
def zS8 (b : Nat) : Int32 := if b < 128 then nI b else nI b - 256
theorem zS8_255 : ∀ b, b < 256 → zS8 b &&& nI 255 = nI b := by decide +kernel
theorem zS8_32 : ∀ b, b < 256 → (zS8 b = nI 32 ↔ b = 32) := by decide +kernel
/-- where the next one that is no blank stands -/
def zSk (B : Nat → Nat) (ln p : Nat) : Nat := p + zfs (fun j => !decide (B (p + j) = 32)) (ln - p)
theorem zSk_le {B : Nat → Nat} {ln p : Nat} (h : p ≤ ln) : p ≤ zSk B ln p ∧ zSk B ln p ≤ ln := by
  have := zfs_le (fun j => !decide (B (p + j) = 32)) (ln - p)
  unfold zSk
  omega
theorem zSk_end {B : Nat → Nat} {ln p : Nat} (h : p ≤ ln) (hb : ∀ i, p ≤ i → i < ln → B i = 32) : zSk B ln p = ln := by
  unfold zSk
  rw [zfs_none (fun j hj => by rw [hb (p + j) (by omega) (by omega)]; rfl)]
  omega
theorem zSk_at {B : Nat → Nat} {ln p q : Nat} (h : p ≤ q) (hq : q < ln) (hb : ∀ i, p ≤ i → i < q → B i = 32) (hn : B q ≠ 32) : zSk B ln p = q := by
  unfold zSk
  rw [zfs_at (i := q - p) (by omega) (by rw [show p + (q - p) = q by omega, decide_eq_false hn]; rfl) (fun j hj => by rw [hb (p + j) (by omega) (by omega)]; rfl)]
  omega
/-- the next one, or below 0 -/
def zAt8 (B : Nat → Nat) (ln p : Nat) : Int32 := if zSk B ln p < ln then nI (B (zSk B ln p)) else -1
def zIsn (B : Nat → Nat) (ln p c : Nat) : Bool := decide (zSk B ln p < ln) && decide (B (zSk B ln p) = c)
/-- a digit below lim, not a barred one (both behind 0: none) -/
def zDgv (B : Nat → Nat) (ln lim bb p : Nat) : Nat := if zSk B ln p < ln ∧ 48 ≤ B (zSk B ln p) ∧ B (zSk B ln p) - 48 < lim ∧ B (zSk B ln p) - 48 + 1 ≠ bb then B (zSk B ln p) - 48 + 1 else 0
def zDge (B : Nat → Nat) (ln lim bb p : Nat) : Nat := if zDgv B ln lim bb p = 0 then zSk B ln p else zSk B ln p + 1
/-- byte i of eight -/
def zEb (e : Int64) (i : Nat) : Nat := (e >>> ((nI (8 * i)).toInt64 &&& 63)).toInt32.toBitVec.toNat % 256
theorem zEb_lt (e : Int64) (i : Nat) : zEb e i < 256 := Nat.mod_lt _ (by decide)
theorem zS8_nar : ∀ b, b < 256 → vp_nar .byte (zS8 b) = zS8 b := by decide +kernel
theorem zi2b (x : Int32) : x.toInt8.toInt32 = zS8 (x.toBitVec.toNat % 256) := by
  have hk : ∀ b, b < 256 → (Int8.ofBitVec (BitVec.ofNat 8 b)).toInt32 = zS8 b := by decide +kernel
  rw [← hk _ (Nat.mod_lt _ (by decide))]
  congr 1
  apply Int8.toBitVec_inj.mp
  rw [Int32.toBitVec_toInt8, BitVec.signExtend_eq_setWidth_of_le _ (by decide)]
  apply BitVec.eq_of_toNat_eq
  simp
theorem zN_b255 {d : Nat} {t : Nat → Option zI} {pc : Nat} {ls st : List Value} {h : zH} {r : zR → Prop} {nx a b c : Nat} {v : Value} {b9 : Nat} (hai : t pc = some (.iand, nx, a, b, c, v)) (hb : b9 < 256) (K : zGoP d t nx ls (.int (nI b9) :: st) h r) : zGoP d t pc ls (.int (nI 255) :: .int (zS8 b9) :: st) h r := by
  rw [← zS8_255 b9 hb] at K
  exact zG_s hai rfl K
theorem zN_b32 {d : Nat} {t : Nat → Option zI} {pc : Nat} {ls st : List Value} {h : zH} {r : zR → Prop} {nx a b c : Nat} {v : Value} {b9 : Nat} {z : Int} (hai : t pc = some (.if_icmp .ne z, nx, a, b, c, v)) (hb : b9 < 256) (K1 : b9 ≠ 32 → zGoP d t a ls st h r) (K2 : b9 = 32 → zGoP d t nx ls st h r) : zGoP d t pc ls (.int (nI 32) :: .int (zS8 b9) :: st) h r := by
  refine zN_if2 hai (fun q => K1 ?_) (fun q => K2 ?_)
  · have q : ¬ zS8 b9 = nI 32 := of_decide_eq_true q
    rwa [zS8_32 b9 hb] at q
  · have q : zS8 b9 = nI 32 := Decidable.not_not.mp (of_decide_eq_false q)
    rwa [zS8_32 b9 hb] at q
