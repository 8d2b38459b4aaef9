/-! heights and parts: as the reference finds them -/
theorem zmx_ge {f : Nat → Nat} {b : Nat} : ∀ {n : Nat} {x : Nat}, x < n → b ≤ f x → b ≤ zmx f n
  | n + 1, x, hx, h => by
    simp only [zmx]
    by_cases e : x = n
    · subst e; omega
    · have := zmx_ge (f := f) (b := b) (n := n) (x := x) (by omega) h
      omega
theorem zmx_at {f : Nat → Nat} {b : Nat} : ∀ {n : Nat}, 0 < b → b ≤ zmx f n → ∃ x, x < n ∧ b ≤ f x
  | 0, hb, h => by simp only [zmx] at h; omega
  | n + 1, hb, h => by
    simp only [zmx] at h
    by_cases e : b ≤ f n
    · exact ⟨n, by omega, e⟩
    · obtain ⟨x, hx, h2⟩ := zmx_at (f := f) (b := b) (n := n) hb (by omega)
      exact ⟨x, by omega, h2⟩
section ZHG
variable {n : Nat} {lo : Nat → Nat}
theorem zBw_bit {x y : Nat} (hx : x < n) : (zBw lo (zTr n lo) x).testBit y = ((lo x).testBit y && !(decide (y < n) && (lo y).testBit x)) := by
  rw [zBw, zan_bit, zTr_bit]
theorem zPre.bn (hP : zPre n lo) {x y : Nat} (hx : x < n) (h : (lo x).testBit y = true) : y < n := zlt_bit (hP.2 x hx).1 h
theorem zBw_in (hP : zPre n lo) {x y : Nat} (hx : x < n) : (zBw lo (zTr n lo) x).testBit y = true ↔ y < n ∧ (lo x).testBit y = true ∧ (lo y).testBit x = false := by
  rw [zBw_bit hx]
  constructor
  · intro h
    rw [Bool.and_eq_true] at h
    have hy := hP.bn hx h.1
    rw [decide_eq_true hy] at h
    refine ⟨hy, h.1, ?_⟩
    cases q : (lo y).testBit x with
    | false => rfl
    | true => rw [q] at h; exact absurd h.2 (by decide)
  · rintro ⟨h1, h2, h3⟩
    rw [h2, h3, decide_eq_true h1]; rfl
theorem zBw_tr (hP : zPre n lo) {x y z : Nat} (hx : x < n) (h1 : (zBw lo (zTr n lo) x).testBit y = true) (h2 : (zBw lo (zTr n lo) y).testBit z = true) : (zBw lo (zTr n lo) x).testBit z = true := by
  obtain ⟨a1, a2, a3⟩ := (zBw_in hP hx).mp h1
  obtain ⟨b1, b2, b3⟩ := (zBw_in hP a1).mp h2
  refine (zBw_in hP hx).mpr ⟨b1, (hP.2 x hx).2.2 y a2 z b2, ?_⟩
  cases q : (lo z).testBit x with
  | false => rfl
  | true =>
    have := (hP.2 z b1).2.2 x q y a2
    rw [b3] at this
    exact absurd this (by decide)
theorem zBw_ir (hP : zPre n lo) {x : Nat} (hx : x < n) : (zBw lo (zTr n lo) x).testBit x = false := by
  cases q : (zBw lo (zTr n lo) x).testBit x with
  | false => rfl
  | true =>
    obtain ⟨_, a, b⟩ := (zBw_in hP hx).mp q
    rw [a] at b
    exact absurd b (by decide)
theorem zBw_cnt (hP : zPre n lo) {x y : Nat} (hx : x < n) (h1 : (zBw lo (zTr n lo) x).testBit y = true) : zcnt (zBw lo (zTr n lo) y) + 1 ≤ zcnt (zBw lo (zTr n lo) x) := by
  have hy := ((zBw_in hP hx).mp h1).1
  have := hP.1
  exact zct_lt (k := y) (by omega) (fun i _ hi => zBw_tr hP hx h1 hi) (zBw_ir hP hy) h1
theorem zBw_c8 (hP : zPre n lo) {x : Nat} (hx : x < n) : zcnt (zBw lo (zTr n lo) x) + 1 ≤ 8 := by
  have := hP.1
  have h := zct_lt (c := fun i => (zBw lo (zTr n lo) x).testBit i) (c' := fun _ => true) (n := 8) (k := x) (by omega) (fun _ _ _ => rfl) (zBw_ir hP hx) rfl
  have e : zct (fun _ => true) 8 = 8 := by decide
  rw [e] at h
  exact h
abbrev zRs9 (n : Nat) (lo : Nat → Nat) (i : Nat) : Nat := zRest n lo (zTr n lo) i
theorem zLow_in {s x : Nat} (hx : x < n) : (zLow n lo (zTr n lo) s).testBit x = (s.testBit x && decide (zBw lo (zTr n lo) x &&& s = 0)) := by
  rw [zLow, zbits_bit, decide_eq_true hx, Bool.true_and]
  rfl
theorem zmeet {a b : Nat} : ¬ a &&& b = 0 ↔ ∃ y, a.testBit y = true ∧ b.testBit y = true := by
  constructor
  · intro h
    obtain ⟨i, hi⟩ := zbit_of h
    rw [Nat.testBit_and, Bool.and_eq_true] at hi
    exact ⟨i, hi⟩
  · rintro ⟨y, h1, h2⟩ e
    have : (a &&& b).testBit y = true := by rw [Nat.testBit_and, h1, h2]; rfl
    rw [e, Nat.zero_testBit] at this
    exact absurd this (by decide)
theorem zRs9_0 {x : Nat} (hn : n ≤ 8) : (zRs9 n lo 0).testBit x = decide (x < n) := by
  show (1 <<< n - 1).testBit x = _
  rw [Nat.shiftLeft_eq, Nat.one_mul, Nat.testBit_two_pow_sub_one]
theorem zRs9_s {i x : Nat} (hx : x < n) : (zRs9 n lo (i + 1)).testBit x = true ↔ (zRs9 n lo i).testBit x = true ∧ ∃ y, (zBw lo (zTr n lo) x).testBit y = true ∧ (zRs9 n lo i).testBit y = true := by
  show (zan (zRest n lo (zTr n lo) i) (zLow n lo (zTr n lo) (zRest n lo (zTr n lo) i))).testBit x = true ↔ _
  rw [zan_bit, zLow_in hx]
  rw [← zmeet]
  cases q : (zRest n lo (zTr n lo) i).testBit x with
  | false => simp [zRs9, q]
  | true => simp [zRs9, q]
theorem zRs9_n {x : Nat} (hn : n ≤ 8) : ∀ {i}, (zRs9 n lo i).testBit x = true → x < n
  | 0, h => by rw [zRs9_0 hn] at h; exact of_decide_eq_true h
  | i + 1, h => by
    refine zRs9_n hn (i := i) ?_
    have : (zan (zRest n lo (zTr n lo) i) (zLow n lo (zTr n lo) (zRest n lo (zTr n lo) i))).testBit x = true := h
    rw [zan_bit, Bool.and_eq_true] at this
    exact this.1
theorem zRs9_dn {x : Nat} (hn : n ≤ 8) {i : Nat} : ∀ {k}, (zRs9 n lo (i + k)).testBit x = true → (zRs9 n lo i).testBit x = true
  | 0, h => h
  | k + 1, h => zRs9_dn hn (k := k) (((zRs9_s (i := i + k) (zRs9_n hn h)).mp h).1)
theorem zRs9_up (hP : zPre n lo) {x y : Nat} (hx : x < n) (hb : (zBw lo (zTr n lo) x).testBit y = true) : ∀ {i}, (zRs9 n lo i).testBit y = true → (zRs9 n lo i).testBit x = true
  | 0, h => by rw [zRs9_0 hP.1]; exact decide_eq_true hx
  | i + 1, h => by
    have hy := ((zBw_in hP hx).mp hb).1
    have h1 := (zRs9_s hy).mp h
    exact (zRs9_s hx).mpr ⟨zRs9_up hP hx hb h1.1, y, hb, h1.1⟩
theorem zRs9_c (hP : zPre n lo) : ∀ {i x : Nat}, x < n → (zRs9 n lo i).testBit x = true → i ≤ zcnt (zBw lo (zTr n lo) x)
  | 0, x, hx, h => Nat.zero_le _
  | i + 1, x, hx, h => by
    obtain ⟨_, y, h1, h2⟩ := (zRs9_s hx).mp h
    have := zRs9_c hP ((zBw_in hP hx).mp h1).1 h2
    have := zBw_cnt hP hx h1
    omega
theorem zHgt_in (hP : zPre n lo) {x i : Nat} (hx : x < n) : (zRs9 n lo i).testBit x = true ↔ i ≤ zHgt n lo (zTr n lo) x := by
  have h8 : (zRs9 n lo 8).testBit x = false := by
    cases q : (zRs9 n lo 8).testBit x with
    | false => rfl
    | true =>
      have := zRs9_c hP hx q
      have := zBw_c8 hP hx
      omega
  have hlow : ∀ j, (zLow n lo (zTr n lo) (zRest n lo (zTr n lo) j)).testBit x = ((zRs9 n lo j).testBit x && !(zRs9 n lo (j + 1)).testBit x) := fun j => by
    show _ = ((zRest n lo (zTr n lo) j).testBit x && !(zan (zRest n lo (zTr n lo) j) (zLow n lo (zTr n lo) (zRest n lo (zTr n lo) j))).testBit x)
    rw [zan_bit, zLow_in hx]
    cases (zRest n lo (zTr n lo) j).testBit x <;> cases decide (zBw lo (zTr n lo) x &&& zRest n lo (zTr n lo) j = 0) <;> rfl
  have h0 : (zRs9 n lo 0).testBit x = true := by rw [zRs9_0 hP.1]; exact decide_eq_true hx
  have hle := zfs_le (fun i => (zLow n lo (zTr n lo) (zRest n lo (zTr n lo) i)).testBit x) 8
  have hH : zHgt n lo (zTr n lo) x < 8 := by
    refine Classical.byContradiction (fun c => ?_)
    have e : zfs (fun i => (zLow n lo (zTr n lo) (zRest n lo (zTr n lo) i)).testBit x) 8 = 8 := by unfold zHgt at c; omega
    have hno := zfs_no e
    have all : ∀ j, j ≤ 8 → (zRs9 n lo j).testBit x = true := by
      intro j
      induction j with
      | zero => exact fun _ => h0
      | succ j ih =>
        intro hj
        have h1 := hno j (by omega)
        rw [hlow, ih (by omega)] at h1
        cases q : (zRs9 n lo (j + 1)).testBit x with
        | true => rfl
        | false => rw [q] at h1; exact absurd h1 (by decide)
    have := all 8 (by omega)
    rw [h8] at this
    exact absurd this (by decide)
  obtain ⟨s1, s2⟩ := zfs_spec (p := fun i => (zLow n lo (zTr n lo) (zRest n lo (zTr n lo) i)).testBit x) hH
  change (zLow n lo (zTr n lo) (zRest n lo (zTr n lo) (zHgt n lo (zTr n lo) x))).testBit x = true at s1
  rw [hlow, Bool.and_eq_true] at s1
  constructor
  · intro h
    refine Classical.byContradiction (fun c => ?_)
    have h1 := zRs9_dn hP.1 (i := zHgt n lo (zTr n lo) x + 1) (k := i - (zHgt n lo (zTr n lo) x + 1)) (x := x) (by rw [show zHgt n lo (zTr n lo) x + 1 + (i - (zHgt n lo (zTr n lo) x + 1)) = i by omega]; exact h)
    rw [h1] at s1
    exact absurd s1.2 (by decide)
  · intro h
    exact zRs9_dn hP.1 (i := i) (k := zHgt n lo (zTr n lo) x - i) (by rw [show i + (zHgt n lo (zTr n lo) x - i) = zHgt n lo (zTr n lo) x by omega]; exact s1.1)
/-- the height is one more than the greatest below it -/
def zHgf (n : Nat) (lo : Nat → Nat) (x y : Nat) : Nat := if (zBw lo (zTr n lo) x).testBit y then zHgt n lo (zTr n lo) y + 1 else 0
theorem zHgt_eq (hP : zPre n lo) {x : Nat} (hx : x < n) : zHgt n lo (zTr n lo) x = zmx (zHgf n lo x) n := by
  have key : ∀ i, i + 1 ≤ zHgt n lo (zTr n lo) x ↔ i + 1 ≤ zmx (zHgf n lo x) n := fun i => by
    rw [← zHgt_in hP hx, zRs9_s hx]
    constructor
    · rintro ⟨_, y, h1, h2⟩
      have hy := ((zBw_in hP hx).mp h1).1
      refine zmx_ge hy ?_
      rw [zHgf, if_pos h1]
      have := (zHgt_in hP hy).mp h2
      omega
    · intro h
      obtain ⟨y, hy, h1⟩ := zmx_at (by omega) h
      unfold zHgf at h1
      by_cases e : (zBw lo (zTr n lo) x).testBit y = true
      · rw [if_pos e] at h1
        have h2 := (zHgt_in hP hy).mpr (show i ≤ zHgt n lo (zTr n lo) y by omega)
        exact ⟨zRs9_up hP hx e h2, y, e, h2⟩
      · rw [if_neg e] at h1; omega
  have k1 := key (zHgt n lo (zTr n lo) x - 1)
  have k2 := key (zmx (zHgf n lo x) n - 1)
  omega
theorem zHgt_lt8 (hP : zPre n lo) {x : Nat} (hx : x < n) : zHgt n lo (zTr n lo) x < 8 := by
  have h1 := (zHgt_in hP hx (i := zHgt n lo (zTr n lo) x)).mpr (Nat.le_refl _)
  have := zRs9_c hP hx h1
  have := zBw_c8 hP hx
  omega
end ZHG
