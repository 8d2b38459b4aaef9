/-! numbers: counts of bits, raw numbers that are small ones -/
def zct (c : Nat → Bool) : Nat → Nat
  | 0 => 0
  | n + 1 => zct c n + b2n (c n)
theorem zct_no {c : Nat → Bool} {n : Nat} (h : c n = false) : zct c (n + 1) = zct c n := by simp [zct, h, b2n]
theorem zct_yes {c : Nat → Bool} {n : Nat} (h : c n = true) : zct c (n + 1) = zct c n + 1 := by simp [zct, h, b2n]
theorem zct_le (c : Nat → Bool) : ∀ n, zct c n ≤ n
  | 0 => Nat.le_refl _
  | n + 1 => by have := zct_le c n; have := b2n_le (c n); simp only [zct]; omega
theorem zct_cong {c c' : Nat → Bool} : ∀ {n : Nat}, (∀ i, i < n → c i = c' i) → zct c n = zct c' n
  | 0, _ => rfl
  | n + 1, h => by rw [zct, zct, zct_cong (fun i hi => h i (by omega)), h n (by omega)]
theorem zbits_cong {c c' : Nat → Bool} : ∀ {n : Nat}, (∀ i, i < n → c i = c' i) → zbits c n = zbits c' n
  | 0, _ => rfl
  | n + 1, h => by rw [zbits, zbits, zbits_cong (fun i hi => h i (by omega)), h n (by omega)]
/-- how many a set below 256 has -/
def zcnt (s : Nat) : Nat := zct (fun i => s.testBit i) 8
theorem zcnt_le (s : Nat) : zcnt s ≤ 8 := zct_le _ 8
theorem zcnt_step : ∀ s, s < 256 → s ≠ 0 → s &&& (s - 1) < s ∧ zcnt (s &&& (s - 1)) + 1 = zcnt s := by decide +kernel
theorem zw32 (x : Int32) : ∃ w, w < 2 ^ 32 ∧ x = nI w := ⟨x.toBitVec.toNat, x.toBitVec.isLt, by
  apply Int32.toBitVec_inj.mp
  simp [nI]⟩
theorem nI_inj32 {a b : Nat} (ha : a < 2 ^ 32) (hb : b < 2 ^ 32) (h : nI a = nI b) : a = b := by
  have := congrArg (fun z : Int32 => z.toBitVec.toNat) h
  simpa [pk_tn ha, pk_tn hb] using this
theorem zin_iff {x : Int32} {n : Nat} (hn : n < 2 ^ 31) : zin x n = true ↔ ∃ j, j < n ∧ x = nI j :=
  ⟨fun h => zin_of h hn, fun ⟨j, hj, e⟩ => by rw [e]; exact zin_n hj hn⟩
theorem zmask_iff {x : Int32} {n : Nat} (hn : n ≤ 8) : x &&& (nI (1 <<< n - 1) ^^^ (-1)) = 0 ↔ zin x (1 <<< n) = true := by
  have hp : 1 <<< n ≤ 256 := by
    rw [Nat.one_shiftLeft]
    exact Nat.pow_le_pow_right (by omega) (n := 2) (i := n) (j := 8) hn
  rw [zin_iff (by omega)]
  obtain ⟨w, hw, rfl⟩ := zw32 x
  rw [nI_andn]
  have hz : nI (zan w (1 <<< n - 1)) = 0 ↔ zan w (1 <<< n - 1) = 0 :=
    ⟨fun h => nI_inj32 (zan_lt _ hw) (by decide) (h.trans nI_0.symm), fun h => by rw [h]; rfl⟩
  rw [hz]
  constructor
  · intro h
    refine ⟨w, ?_, rfl⟩
    rw [Nat.one_shiftLeft]
    refine Nat.lt_pow_two_of_testBit _ (fun i hi => ?_)
    have := congrArg (fun z => z.testBit i) h
    simp only [zan_bit, Nat.zero_testBit, Nat.one_shiftLeft, Nat.testBit_two_pow_sub_one] at this
    have h2 : decide (i < n) = false := decide_eq_false (by omega)
    rw [h2] at this
    simpa using this
  · rintro ⟨j, hj, e⟩
    have := nI_inj32 hw (by omega) e
    subst this
    apply zext; intro i
    simp only [zan_bit, Nat.zero_testBit, Nat.one_shiftLeft, Nat.testBit_two_pow_sub_one]
    by_cases hi : i < n
    · simp [hi]
    · rw [Nat.one_shiftLeft] at hj
      have : w.testBit i = false := Nat.testBit_lt_two_pow (Nat.lt_of_lt_of_le hj (Nat.pow_le_pow_right (by omega) (by omega)))
      simp [this]
theorem zraw_lt0 {x : Int32} {n : Nat} (h : zc1 .lt x = true) : zin x n = false := by
  have h : x < 0 := of_decide_eq_true h
  cases q : zin x n with
  | false => rfl
  | true => exact absurd h (fun g => zin_vp q (Or.inl g))
theorem zraw_ge {x : Int32} {n : Nat} (hn : n < 2 ^ 31) (h : zc2 .ge x (nI n) = true) : zin x n = false := by
  have h : nI n ≤ x := of_decide_eq_true h
  cases q : zin x n with
  | false => rfl
  | true =>
    obtain ⟨j, hj, rfl⟩ := zin_of q hn
    exact absurd ((nI_leI hn (by omega)).mp h) (by omega)
theorem zraw_in {x : Int32} {n : Nat} (hn : n < 2 ^ 31) (h0 : zc1 .lt x = false) (h : zc2 .ge x (nI n) = false) : zin x n = true := by
  have h0 : ¬ x < 0 := of_decide_eq_false h0
  have h : ¬ nI n ≤ x := of_decide_eq_false h
  obtain ⟨j, hj, rfl⟩ := nI_of h0
  exact zin_n (Nat.lt_of_not_le (fun g => h ((nI_leI hn hj).mpr g))) hn
