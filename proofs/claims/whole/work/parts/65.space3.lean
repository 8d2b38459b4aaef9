/-! what is made is a space -/
theorem zan_0 {a b : Nat} : zan a b = 0 ↔ ∀ i, a.testBit i = true → b.testBit i = true := by
  constructor
  · intro h i hi
    have := congrArg (fun z => z.testBit i) h
    simp only [zan_bit, Nat.zero_testBit, hi, Bool.true_and] at this
    simpa using this
  · intro h
    apply zext; intro i
    rw [zan_bit, Nat.zero_testBit]
    cases e : a.testBit i with
    | false => rfl
    | true => rw [h i e]; rfl
theorem zlt_of_bits {n w : Nat} (h : ∀ i, w.testBit i = true → i < n) : w < 1 <<< n := by
  rw [Nat.one_shiftLeft]
  refine Nat.lt_pow_two_of_testBit _ (fun i hi => ?_)
  cases e : w.testBit i with
  | false => rfl
  | true => exact absurd (h i e) (by omega)
theorem zTr_tr {n x : Nat} {lo : Nat → Nat} (hP : zPre n lo) (hx : x < n) : zTr n (zTr n lo) x = lo x := by
  apply zext; intro i
  rw [zTr_bit, zTr_bit, decide_eq_true hx, Bool.true_and]
  rcases Nat.lt_or_ge i n with h | h
  · rw [decide_eq_true h]; rfl
  · rw [decide_eq_false (by omega), zhigh (hP.2 x hx).1 i h]; rfl
theorem zPre.tr {n : Nat} {lo : Nat → Nat} (hP : zPre n lo) : zPre n (zTr n lo) := by
  refine ⟨hP.1, fun x hx => ⟨zTr_lt, by rw [zTr_bit, decide_eq_true hx, (hP.2 x hx).2.1]; rfl, fun y hy z hz => ?_⟩⟩
  rw [zTr_bit, Bool.and_eq_true] at hy hz ⊢
  have hz1 : z < n := of_decide_eq_true hz.1
  exact ⟨hz.1, (hP.2 z hz1).2.2 y hz.2 x hy.2⟩
theorem zones {m i : Nat} : (1 <<< m - 1).testBit i = decide (i < m) := by rw [Nat.one_shiftLeft, Nat.testBit_two_pow_sub_one]
theorem zSumL_bit {m j i : Nat} {l1 l2 : Nat → Nat} {jn : Bool} : (zSumL m l1 l2 (if jn then 1 <<< m - 1 else 0) j).testBit i = if j < m then (l1 j).testBit i else (decide (m ≤ i) && (l2 (j - m)).testBit (i - m)) || (jn && decide (i < m)) := by
  unfold zSumL
  split
  · rfl
  · rw [Nat.testBit_or, Nat.testBit_shiftLeft]
    cases jn with
    | false => simp
    | true =>
      rw [if_pos rfl, zones]
      rfl
theorem zPre.sum {m m2 : Nat} {l1 l2 : Nat → Nat} {jn : Bool} (h1 : zPre m l1) (h2 : zPre m2 l2) (hm : m + m2 ≤ 8) : zPre (m + m2) (zSumL m l1 l2 (if jn then 1 <<< m - 1 else 0)) := by
  refine ⟨hm, fun x hx => ⟨zlt_of_bits (fun i hi => ?_), ?_, fun y hy z hz => ?_⟩⟩
  · rw [zSumL_bit] at hi
    split at hi
    · next g => have := zlt_bit (h1.2 x g).1 hi; omega
    · next g =>
      simp only [Bool.or_eq_true, Bool.and_eq_true, decide_eq_true_eq] at hi
      rcases hi with ⟨a, b⟩ | ⟨a, b⟩
      · have := zlt_bit (h2.2 (x - m) (by omega)).1 b; omega
      · omega
  · rw [zSumL_bit]
    split
    · next g => exact (h1.2 x g).2.1
    · next g => rw [decide_eq_true (by omega), (h2.2 (x - m) (by omega)).2.1]; rfl
  · rw [zSumL_bit] at hy hz ⊢
    by_cases gx : x < m
    · rw [if_pos gx] at hy ⊢
      have gy := zlt_bit (h1.2 x gx).1 hy
      rw [if_pos gy] at hz
      exact (h1.2 x gx).2.2 y hy z hz
    · rw [if_neg gx] at hy ⊢
      simp only [Bool.or_eq_true, Bool.and_eq_true, decide_eq_true_eq] at hy ⊢
      rcases hy with ⟨a, b⟩ | ⟨a, b⟩
      · have gy : ¬ y < m := by omega
        rw [if_neg gy] at hz
        simp only [Bool.or_eq_true, Bool.and_eq_true, decide_eq_true_eq] at hz
        rcases hz with ⟨c, e⟩ | ⟨c, e⟩
        · exact Or.inl ⟨c, (h2.2 (x - m) (by omega)).2.2 (y - m) b (z - m) e⟩
        · exact Or.inr ⟨c, e⟩
      · rw [if_pos b] at hz
        exact Or.inr ⟨a, zlt_bit (h1.2 y b).1 hz⟩
theorem zTopL_bit {m j i : Nat} {l1 : Nat → Nat} : (zTopL m l1 j).testBit i = if j < m then (l1 j).testBit i else decide (i < m) || decide (i = j) := by
  unfold zTopL
  split
  · rfl
  · rw [Nat.testBit_or, zones, z1bit]
theorem zPre.top {m k : Nat} {l1 : Nat → Nat} (h1 : zPre m l1) (hm : m + k ≤ 8) : zPre (m + k) (zTopL m l1) := by
  refine ⟨hm, fun x hx => ⟨zlt_of_bits (fun i hi => ?_), ?_, fun y hy z hz => ?_⟩⟩
  · rw [zTopL_bit] at hi
    split at hi
    · next g => have := zlt_bit (h1.2 x g).1 hi; omega
    · next g =>
      simp only [Bool.or_eq_true, decide_eq_true_eq] at hi
      omega
  · rw [zTopL_bit]
    split
    · next g => exact (h1.2 x g).2.1
    · rw [decide_eq_true (rfl : x = x), Bool.or_true]
  · rw [zTopL_bit] at hy hz ⊢
    by_cases gx : x < m
    · rw [if_pos gx] at hy ⊢
      have gy := zlt_bit (h1.2 x gx).1 hy
      rw [if_pos gy] at hz
      exact (h1.2 x gx).2.2 y hy z hz
    · rw [if_neg gx] at hy ⊢
      simp only [Bool.or_eq_true, decide_eq_true_eq] at hy ⊢
      rcases hy with a | a
      · rw [if_pos a] at hz
        exact Or.inl (zlt_bit (h1.2 y a).1 hz)
      · subst a
        rw [if_neg gx] at hz
        simpa using hz
theorem zor_bit {f : Nat → Nat} {i : Nat} : ∀ {n : Nat}, (zor f n).testBit i = true ↔ ∃ x, x < n ∧ (f x).testBit i = true
  | 0 => ⟨(fun h => by
    rw [zor, Nat.zero_testBit] at h
    cases h), fun ⟨x, hx, _⟩ => absurd hx (Nat.not_lt_zero _)⟩
  | n + 1 => by
    rw [zor, Nat.testBit_or, Bool.or_eq_true, zor_bit]
    constructor
    · rintro (⟨x, h1, h2⟩ | h)
      · exact ⟨x, by omega, h2⟩
      · exact ⟨n, by omega, h⟩
    · rintro ⟨x, h1, h2⟩
      by_cases e : x = n
      · subst e; exact Or.inr h2
      · exact Or.inl ⟨x, by omega, h2⟩
theorem zProL_bit {m m2 j i : Nat} {l1 l2 : Nat → Nat} (h2 : ∀ x, x < m2 → l2 x < 1 <<< m2) (hm : 0 < m2) (hi : i < m * m2) : (zProL m m2 l1 l2 j).testBit i = ((l1 (j / m2)).testBit (i / m2) && (l2 (j % m2)).testBit (i % m2)) := by
  have hj := Nat.mod_lt j hm
  have hd : i / m2 < m := Nat.div_lt_of_lt_mul (by rw [Nat.mul_comm]; exact hi)
  have hdm := Nat.div_add_mod i m2
  have him := Nat.mod_lt i hm
  have key : (zProL m m2 l1 l2 j).testBit i = true ↔ ((l1 (j / m2)).testBit (i / m2) && (l2 (j % m2)).testBit (i % m2)) = true := by
    unfold zProL
    rw [zor_bit, Bool.and_eq_true]
    constructor
    · rintro ⟨y, hy, h⟩
      split at h
      · next g =>
        rw [Nat.testBit_shiftLeft, Bool.and_eq_true, decide_eq_true_eq] at h
        have hb := zlt_bit (h2 _ hj) h.2
        have e : i / m2 = y := by
          refine Nat.div_eq_of_lt_le (by rw [Nat.mul_comm] at *; omega) ?_
          rw [Nat.succ_mul]
          omega
        subst e
        have e2 : i - i / m2 * m2 = i % m2 := by rw [Nat.mul_comm]; omega
        rw [e2] at h
        exact ⟨g, h.2⟩
      · rw [Nat.zero_testBit] at h; cases h
    · rintro ⟨g1, g2⟩
      refine ⟨i / m2, hd, ?_⟩
      have e1 : i / m2 * m2 ≤ i := Nat.div_mul_le_self i m2
      have e2 : i - i / m2 * m2 = i % m2 := by rw [Nat.mul_comm]; omega
      rw [if_pos g1, Nat.testBit_shiftLeft, decide_eq_true e1, e2, g2]
      rfl
  cases e1 : (zProL m m2 l1 l2 j).testBit i <;> cases e2 : ((l1 (j / m2)).testBit (i / m2) && (l2 (j % m2)).testBit (i % m2)) <;> simp_all
theorem zProL_hi {m m2 j i : Nat} {l1 l2 : Nat → Nat} (h2 : ∀ x, x < m2 → l2 x < 1 <<< m2) (hm : 0 < m2) (h : (zProL m m2 l1 l2 j).testBit i = true) : i < m * m2 := by
  unfold zProL at h
  obtain ⟨y, hy, h⟩ := zor_bit.mp h
  split at h
  · rw [Nat.testBit_shiftLeft, Bool.and_eq_true, decide_eq_true_eq] at h
    have hb := zlt_bit (h2 _ (Nat.mod_lt j hm)) h.2
    have : (y + 1) * m2 ≤ m * m2 := Nat.mul_le_mul_right _ hy
    rw [Nat.succ_mul] at this
    omega
  · rw [Nat.zero_testBit] at h; cases h
theorem zPre.prod {m m2 : Nat} {l1 l2 : Nat → Nat} (h1 : zPre m l1) (h2 : zPre m2 l2) (hm : m * m2 ≤ 8) : zPre (m * m2) (zProL m m2 l1 l2) := by
  refine ⟨hm, fun x hx => ?_⟩
  have hp : 0 < m2 := by
    rcases Nat.eq_zero_or_pos m2 with e | e
    · subst e; rw [Nat.mul_zero] at hx; exact absurd hx (Nat.not_lt_zero _)
    · exact e
  have hl : ∀ x, x < m2 → l2 x < 1 <<< m2 := fun x hx => (h2.2 x hx).1
  have hd : ∀ i, i < m * m2 → i / m2 < m := fun i hi => Nat.div_lt_of_lt_mul (by rw [Nat.mul_comm]; exact hi)
  refine ⟨zlt_of_bits (fun i hi => zProL_hi hl hp hi), ?_, fun y hy z hz => ?_⟩
  · rw [zProL_bit hl hp hx, (h1.2 _ (hd x hx)).2.1, (h2.2 _ (Nat.mod_lt x hp)).2.1]
    rfl
  · have hy1 := zProL_hi hl hp hy
    have hz1 := zProL_hi hl hp hz
    rw [zProL_bit hl hp hy1, Bool.and_eq_true] at hy
    rw [zProL_bit hl hp hz1, Bool.and_eq_true] at hz
    rw [zProL_bit hl hp hz1, (h1.2 _ (hd x hx)).2.2 _ hy.1 _ hz.1, (h2.2 _ (Nat.mod_lt x hp)).2.2 _ hy.2 _ hz.2]
    rfl
theorem zPre.sub {n : Nat} {c : Nat → Nat} (hn : n ≤ 8) : zPre n (zSubL n c) := by
  have hb : ∀ x i, (zSubL n c x).testBit i = (decide (i < n) && decide (zan (c i) (c x) = 0)) := fun x i => by
    unfold zSubL
    rw [zbits_bit]
  refine ⟨hn, fun x hx => ⟨zlt_of_bits (fun i hi => ?_), ?_, fun y hy z hz => ?_⟩⟩
  · rw [hb, Bool.and_eq_true, decide_eq_true_eq] at hi
    exact hi.1
  · rw [hb, decide_eq_true hx, decide_eq_true (zan_0.mpr (fun i h => h))]
    rfl
  · rw [hb, Bool.and_eq_true, decide_eq_true_eq, decide_eq_true_eq] at hy hz ⊢
    exact ⟨hz.1, zan_0.mpr (fun i h => zan_0.mp hy.2 i (zan_0.mp hz.2 i h))⟩
theorem zDl_bit {n c x i : Nat} : (zDl n c x).testBit i = true ↔ i = x ∨ (i < n ∧ i ≠ x ∧ c.testBit (zBo n x i) = true) := by
  unfold zDl
  rw [Nat.testBit_or, Bool.or_eq_true, z1bit, zor_bit, decide_eq_true_eq]
  constructor
  · rintro (h | ⟨y, hy, h⟩)
    · exact Or.inl (by omega)
    · unfold zDlf at h
      split at h
      · next g =>
        rw [z1bit, decide_eq_true_eq] at h
        have : y = i := by omega
        subst this
        exact Or.inr ⟨hy, g.1, g.2⟩
      · rw [Nat.zero_testBit] at h; cases h
  · rintro (h | ⟨h1, h2, h3⟩)
    · exact Or.inl (by omega)
    · refine Or.inr ⟨i, h1, ?_⟩
      unfold zDlf
      rw [if_pos ⟨h2, h3⟩, z1bit]
      exact decide_eq_true rfl
theorem zPre.dl {n c : Nat} (hn : n < 6) (hv : zVal n c = true) : zPre n (zDl n c) := by
  refine ⟨by omega, fun x hx => ⟨zlt_of_bits (fun i hi => ?_), zDl_bit.mpr (Or.inl rfl), fun y hy z hz => ?_⟩⟩
  · rcases zDl_bit.mp hi with h | h <;> omega
  · have hy1 : y < n := by rcases zDl_bit.mp hy with h | h <;> omega
    have h1 := zAl_iff.mp (zAl_iff.mp hv x hx) y hy1
    rw [hy, Bool.not_true, Bool.false_or, decide_eq_true_eq] at h1
    exact zan_0.mp h1 z hz
