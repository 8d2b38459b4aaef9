/-! why shrinking ends -/
theorem zfs_no {p : Nat → Bool} : ∀ {n : Nat}, zfs p n = n → ∀ j, j < n → p j = false
  | 0, _, j, hj => absurd hj (Nat.not_lt_zero _)
  | n + 1, h, j, hj => by
    by_cases h1 : zfs p n < n
    · have e : zfs p (n + 1) = zfs p n := by simp only [zfs]; rw [if_pos h1]
      omega
    · have hn : zfs p n = n := Nat.le_antisymm (zfs_le p n) (by omega)
      by_cases h2 : p n = true
      · have e : zfs p (n + 1) = n := by simp only [zfs]; rw [if_neg h1, if_pos h2]
        omega
      · rcases Nat.lt_or_ge j n with g | g
        · exact zfs_no hn j g
        · have : j = n := by omega
          subst this
          cases q : p j with
          | false => rfl
          | true => exact absurd q h2
theorem zfs_spec {p : Nat → Bool} : ∀ {n : Nat}, zfs p n < n → p (zfs p n) = true ∧ ∀ j, j < zfs p n → p j = false
  | 0, h => absurd h (Nat.not_lt_zero _)
  | n + 1, h => by
    by_cases h1 : zfs p n < n
    · have e : zfs p (n + 1) = zfs p n := by simp only [zfs]; rw [if_pos h1]
      rw [e]
      exact zfs_spec h1
    · have hn : zfs p n = n := Nat.le_antisymm (zfs_le p n) (by omega)
      have hno : ∀ j, j < n → p j = false := zfs_no hn
      by_cases h2 : p n = true
      · have e : zfs p (n + 1) = n := by simp only [zfs]; rw [if_neg h1, if_pos h2]
        rw [e]
        exact ⟨h2, hno⟩
      · have e : zfs p (n + 1) = n + 1 := by simp only [zfs]; rw [if_neg h1, if_neg h2]
        omega
theorem zbit_of {s : Nat} (h : s ≠ 0) : ∃ i, s.testBit i = true := by
  refine Classical.byContradiction (fun q => h (zext (fun i => ?_)))
  rw [Nat.zero_testBit]
  cases e : s.testBit i with
  | false => rfl
  | true => exact absurd ⟨i, e⟩ q
theorem zbit_lt8 {s i : Nat} (hs : s < 256) (h : s.testBit i = true) : i < 8 := by
  rcases Nat.lt_or_ge i 8 with g | g
  · exact g
  · have : s.testBit i = false := Nat.testBit_lt_two_pow (Nat.lt_of_lt_of_le hs (Nat.pow_le_pow_right (n := 2) (i := 8) (by omega) g))
    rw [this] at h; cases h
theorem zcnt_cut : ∀ s, s < 256 → ∀ x, x < 8 → s.testBit x = true → zcnt (zan s (1 <<< x)) + 1 = zcnt s := by decide +kernel
theorem zcnt_pos {s x : Nat} (hs : s < 256) (hx : s.testBit x = true) : 1 ≤ zcnt s := by
  have := zcnt_cut s hs x (zbit_lt8 hs hx) hx
  omega
theorem zcnt_two {s x y : Nat} (hs : s < 256) (hx : s.testBit x = true) (hy : s.testBit y = true) (hne : y ≠ x) : 2 ≤ zcnt s := by
  have h1 := zcnt_cut s hs x (zbit_lt8 hs hx) hx
  have h2 := zcnt_pos (s := zan s (1 <<< x)) (x := y) (zan_lt _ hs) (by rw [zan_bit, hy, z1bit, decide_eq_false hne]; rfl)
  omega
/-- each is in its own sets -/
def zRfl (n : Nat) (lo hi : Nat → Nat) : Prop := ∀ x, x < n → (lo x).testBit x = true ∧ (hi x).testBit x = true
theorem zLB_two {n s : Nat} {lo hi : Nat → Nat} (hr : zRfl n lo hi) (hs : s < 256) (h : zLB n lo hi s < n) : s.testBit (zLB n lo hi s) = true ∧ 2 ≤ zcnt s := by
  obtain ⟨h1, -⟩ := zfs_spec h
  change (s.testBit (zLB n lo hi s) && zBt n lo hi (zLB n lo hi s) s) = true at h1
  generalize zLB n lo hi s = x at h h1
  rw [Bool.and_eq_true] at h1
  refine ⟨h1.1, ?_⟩
  have key : ∃ y, s.testBit y = true ∧ y ≠ x := by
    have hl : ∀ b : Bool, (zLk lo hi x s || b) = true → (b = true → ∃ y, s.testBit y = true ∧ y ≠ x) → ∃ y, s.testBit y = true ∧ y ≠ x := by
      intro b hb hk
      rw [Bool.or_eq_true] at hb
      rcases hb with hb | hb
      · obtain ⟨y, hy⟩ := zbit_of (of_decide_eq_true hb)
        rw [Nat.testBit_and, zTw, zan_bit, z1bit, Bool.and_eq_true, Bool.and_eq_true] at hy
        refine ⟨y, hy.2, fun e => ?_⟩
        rw [e] at hy
        simp at hy
      · exact hk hb
    have h2 := h1.2
    unfold zBt at h2
    rw [Bool.or_eq_true] at h2
    rcases h2 with h2 | h2
    · refine hl _ h2 (fun hb => ?_)
      obtain ⟨h3, -⟩ := zfs_spec (of_decide_eq_true hb)
      change ((zBw lo hi x &&& s).testBit (zHold n lo (zBw lo hi x &&& s)) && _) = true at h3
      generalize zHold n lo (zBw lo hi x &&& s) = y at h3
      rw [Bool.and_eq_true, Nat.testBit_and, zBw, zan_bit, Bool.and_eq_true] at h3
      refine ⟨y, h3.1.2, fun e => ?_⟩
      rw [e, (hr x h).2] at h3
      simp at h3
    · refine hl _ h2 (fun hb => ?_)
      obtain ⟨h3, -⟩ := zfs_spec (of_decide_eq_true hb)
      change ((zAb lo hi x &&& s).testBit (zHold n hi (zAb lo hi x &&& s)) && _) = true at h3
      generalize zHold n hi (zAb lo hi x &&& s) = y at h3
      rw [Bool.and_eq_true, Nat.testBit_and, zAb, zan_bit, Bool.and_eq_true] at h3
      refine ⟨y, h3.1.2, fun e => ?_⟩
      rw [e, (hr x h).1] at h3
      simp at h3
  obtain ⟨y, hy, hne⟩ := key
  exact zcnt_two hs h1.1 hy hne
theorem zit_add (f : Nat → Nat) (a : Nat) : ∀ (b s : Nat), zit f (b + a) s = zit f b (zit f a s)
  | 0, s => by rw [Nat.zero_add]; rfl
  | b + 1, s => by rw [show b + 1 + a = (b + a) + 1 by omega, zit, zit_add f a b s, zit]
theorem zit_stay {f : Nat → Nat} {s : Nat} (h : f s = s) : ∀ k, zit f k s = s
  | 0 => rfl
  | k + 1 => by rw [zit, zit_stay h k, h]
theorem zSt_le (n : Nat) (lo hi : Nat → Nat) (s : Nat) : zSt n lo hi s ≤ s := by
  unfold zSt
  split
  · exact zan_le _ _
  · exact Nat.le_refl _
theorem zSts_le (n : Nat) (lo hi : Nat → Nat) (s : Nat) : ∀ k, zit (zSt n lo hi) k s ≤ s
  | 0 => Nat.le_refl _
  | k + 1 => Nat.le_trans (zSt_le n lo hi _) (zSts_le n lo hi s k)
/-- as long as points went, each step has taken one -/
theorem zSts_cnt {n s : Nat} {lo hi : Nat → Nat} (hr : zRfl n lo hi) (hs : s < 256) : ∀ k, (∀ j, j < k → zLB n lo hi (zit (zSt n lo hi) j s) < n) → zcnt (zit (zSt n lo hi) k s) + k = zcnt s ∧ (0 < k → 1 ≤ zcnt (zit (zSt n lo hi) k s))
  | 0, _ => ⟨rfl, fun h => absurd h (Nat.lt_irrefl 0)⟩
  | k + 1, h => by
    obtain ⟨i1, i2⟩ := zSts_cnt hr hs k (fun j hj => h j (by omega))
    have hk := h k (by omega)
    have hb : zit (zSt n lo hi) k s < 256 := Nat.lt_of_le_of_lt (zSts_le n lo hi s k) hs
    obtain ⟨h1, h2⟩ := zLB_two hr hb hk
    have e : zit (zSt n lo hi) (k + 1) s = zan (zit (zSt n lo hi) k s) (1 <<< zLB n lo hi (zit (zSt n lo hi) k s)) := by
      rw [zit, zSt, if_pos hk]
    have h3 := zcnt_cut _ hb _ (zbit_lt8 hb h1) h1
    rw [e]
    omega
theorem zSts_end {n s : Nat} {lo hi : Nat → Nat} (hr : zRfl n lo hi) (hs : s < 256) : ¬ ∀ j, j < 8 → zLB n lo hi (zit (zSt n lo hi) j s) < n := by
  intro h
  have h1 := zSts_cnt hr hs 8 h
  have := zcnt_le s
  omega
theorem zSts_stop {n s : Nat} {lo hi : Nat → Nat} (hr : zRfl n lo hi) (hs : s < 256) : ∃ j, j < 8 ∧ zSt n lo hi (zit (zSt n lo hi) j s) = zit (zSt n lo hi) j s := by
  refine Classical.byContradiction (fun q => zSts_end hr hs (fun j hj => ?_))
  refine Classical.byContradiction (fun g => q ⟨j, hj, ?_⟩)
  rw [zSt, if_neg g]
/-- a set shrinks just if what is left behind some steps does -/
theorem zShr_it {n s : Nat} {lo hi : Nat → Nat} (hr : zRfl n lo hi) (hs : s < 256) (k : Nat) : zShr n lo hi (zit (zSt n lo hi) k s) = zShr n lo hi s := by
  obtain ⟨j, hj, e⟩ := zSts_stop hr hs
  have st : ∀ m, j ≤ m → zit (zSt n lo hi) m s = zit (zSt n lo hi) j s := by
    intro m hm
    rw [show m = (m - j) + j by omega, zit_add, zit_stay e]
  unfold zShr
  rw [← zit_add, st (8 + k) (by omega), st 8 (by omega)]
theorem zShr_end {n s : Nat} {lo hi : Nat → Nat} (h : ¬ zLB n lo hi s < n) : zShr n lo hi s = decide (zcnt s = 1) := by
  unfold zShr
  rw [zit_stay (by rw [zSt, if_neg h])]
