/-! sets as bits of a number -/
def zbits (c : Nat → Bool) : Nat → Nat
  | 0 => 0
  | n + 1 => zbits c n ||| (if c n then 1 <<< n else 0)
theorem zbits_no {c : Nat → Bool} {n : Nat} (h : c n = false) : zbits c (n + 1) = zbits c n := by simp [zbits, h]
theorem zbits_yes {c : Nat → Bool} {n : Nat} (h : c n = true) : zbits c (n + 1) = zbits c n ||| 1 <<< n := by simp [zbits, h]
theorem z1bit (n i : Nat) : (1 <<< n).testBit i = decide (i = n) := by
  rw [Nat.one_shiftLeft, Nat.testBit_two_pow]
  simp [eq_comm]
theorem zbits_bit (c : Nat → Bool) : ∀ (n i : Nat), (zbits c n).testBit i = (decide (i < n) && c i)
  | 0, i => by simp [zbits]
  | n + 1, i => by
    rw [zbits, Nat.testBit_or, zbits_bit c n i]
    by_cases hc : c n = true
    · rw [if_pos hc, z1bit]
      by_cases e : i = n
      · subst e; simp [hc]
      · have : (i < n + 1) = (i < n) := by apply propext; omega
        simp [e, this]
    · rw [if_neg hc]
      simp only [Nat.zero_testBit, Bool.or_false]
      by_cases e : i = n
      · subst e; simp [hc]
      · have : (i < n + 1) = (i < n) := by apply propext; omega
        simp [this]
theorem zbits_lt (c : Nat → Bool) (n : Nat) : zbits c n < 2 ^ n := by
  refine Nat.lt_pow_two_of_testBit _ (fun i hi => ?_)
  rw [zbits_bit]
  simp; omega
theorem zext {a b : Nat} (h : ∀ i, a.testBit i = b.testBit i) : a = b := Nat.eq_of_testBit_eq h
theorem zan_le (a b : Nat) : zan a b ≤ a := by
  have : zan a b ||| a = a := by
    apply zext; intro i
    rw [Nat.testBit_or, zan_bit]
    cases a.testBit i <;> simp
  calc zan a b ≤ zan a b ||| a := Nat.left_le_or
    _ = a := this
theorem zan_lt {a : Nat} (b : Nat) {m : Nat} (h : a < m) : zan a b < m := Nat.lt_of_le_of_lt (zan_le a b) h
theorem zand_lt {a : Nat} (b : Nat) {m : Nat} (h : a < m) : a &&& b < m := Nat.lt_of_le_of_lt Nat.and_le_left h
theorem zand_lt' (a : Nat) {b : Nat} {m : Nat} (h : b < m) : a &&& b < m := Nat.lt_of_le_of_lt Nat.and_le_right h
theorem zor_lt8 {a b : Nat} (ha : a < 256) (hb : b < 256) : a ||| b < 256 := Nat.or_lt_two_pow (n := 8) ha hb
theorem zsh1_lt {x : Nat} (h : x < 8) : 1 <<< x < 256 := by
  rw [Nat.one_shiftLeft]
  exact Nat.pow_lt_pow_right (a := 2) (by omega) h
theorem zbits_lt8 (c : Nat → Bool) {n : Nat} (h : n ≤ 8) : zbits c n < 256 := Nat.lt_of_lt_of_le (zbits_lt c n) (Nat.pow_le_pow_right (by omega) (n := 2) (i := n) (j := 8) h)
theorem zshr_le (a k : Nat) : a >>> k ≤ a := by rw [Nat.shiftRight_eq_div_pow]; exact Nat.div_le_self _ _
theorem ztb1 (a k : Nat) : (a >>> k) &&& 1 = if a.testBit k then 1 else 0 := by
  rw [Nat.and_one_is_mod, Nat.testBit_eq_decide_div_mod_eq, Nat.shiftRight_eq_div_pow]
  have := Nat.mod_two_eq_zero_or_one (a / 2 ^ k)
  rcases this with h | h <;> simp [h]
/-- a space of the class: its object, its two rows behind it -/
def zSp (h : zH) (o n : Nat) (lo hi : Nat → Nat) : Prop := h.2.2 o = .inr (7, [.int (nI n), .ref (o + 1), .ref (o + 2)]) ∧ ∃ fl fh : Nat → Int32, h.2.2 (o + 1) = .inl (0, 8, .inl fl) ∧ h.2.2 (o + 2) = .inl (0, 8, .inl fh) ∧ ∀ x, x < n → fl x = nI (lo x) ∧ fh x = nI (hi x)
