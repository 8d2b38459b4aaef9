/-! parts of spaces; sums, products, tops -/
theorem zSqz_bit {f s q : Nat} : ∀ {i : Nat}, (zSqz f s i).testBit q = true ↔ ∃ x, x < i ∧ s.testBit x = true ∧ f.testBit x = true ∧ zPos s x = q
  | 0 => ⟨(fun h => by
    rw [zSqz, Nat.zero_testBit] at h
    cases h), fun ⟨x, hx, _⟩ => absurd hx (Nat.not_lt_zero _)⟩
  | i + 1 => by
    have ih := zSqz_bit (f := f) (s := s) (q := q) (i := i)
    rw [zSqz]
    constructor
    · intro h
      split at h
      · next hb =>
        rw [Nat.testBit_or, Bool.or_eq_true] at h
        rcases h with h | h
        · obtain ⟨x, h1, h2⟩ := ih.mp h
          exact ⟨x, by omega, h2⟩
        · split at h
          · next hf =>
            rw [z1bit] at h
            exact ⟨i, by omega, hb, hf, by have := of_decide_eq_true h; omega⟩
          · rw [Nat.zero_testBit] at h; cases h
      · obtain ⟨x, h1, h2⟩ := ih.mp h
        exact ⟨x, by omega, h2⟩
    · rintro ⟨x, h1, h2, h3, h4⟩
      by_cases e : x = i
      · subst e
        rw [if_pos h2, Nat.testBit_or, if_pos h3, z1bit, decide_eq_true (show _ from by omega), Bool.or_true]
      · have := ih.mpr ⟨x, by omega, h2, h3, h4⟩
        split
        · rw [Nat.testBit_or, this]; rfl
        · exact this
theorem zPos_inj {s a b : Nat} (ha : s.testBit a = true) (hb : s.testBit b = true) (h : zPos s a = zPos s b) : a = b := by
  rcases Nat.lt_trichotomy a b with g | g | g
  · have := zPos_lt ha g; omega
  · exact g
  · have := zPos_lt hb g; omega
theorem zPos_n {s n : Nat} (hs : s < 1 <<< n) : ∀ m, zPos s (n + m) = zPos s n
  | 0 => rfl
  | m + 1 => by
    have := zPos_n hs m
    rw [show n + (m + 1) = (n + m) + 1 by omega]
    show zPos s (n + m) + b2n (s.testBit (n + m)) = _
    rw [this, zhigh hs (n + m) (by omega)]
    rfl
theorem zPos_8 {s n : Nat} (hn : n ≤ 8) (hs : s < 1 <<< n) : zPos s 8 = zPos s n := by
  have := zPos_n hs (8 - n)
  rwa [show n + (8 - n) = 8 by omega] at this
theorem zPl_bit {g : Nat → Nat} {n s a q : Nat} (hn : n ≤ 8) (ha : a < n) (hb : s.testBit a = true) : (zPl g s (zPos s a)).testBit q = true ↔ ∃ b, b < 8 ∧ s.testBit b = true ∧ (g a).testBit b = true ∧ zPos s b = q := by
  rw [zPl, zNth_pos (by omega) hb, zSqz_bit]
theorem zPl_at {g : Nat → Nat} {n s a b : Nat} (hn : n ≤ 8) (ha : a < n) (hsa : s.testBit a = true) (hb : b < n) (hsb : s.testBit b = true) : (zPl g s (zPos s a)).testBit (zPos s b) = (g a).testBit b := by
  cases e : (g a).testBit b with
  | true => exact (zPl_bit hn ha hsa).mpr ⟨b, by omega, hsb, e, rfl⟩
  | false =>
    cases e2 : (zPl g s (zPos s a)).testBit (zPos s b) with
    | false => rfl
    | true =>
      obtain ⟨c, h1, h2, h3, h4⟩ := (zPl_bit hn ha hsa).mp e2
      have := zPos_inj h2 hsb h4
      subst this
      rw [e] at h3
      cases h3
theorem zPl_lt {g : Nat → Nat} {n s a : Nat} (hn : n ≤ 8) (hs : s < 1 <<< n) (ha : a < n) (hsa : s.testBit a = true) : zPl g s (zPos s a) < 1 <<< zPos s n := by
  rw [Nat.one_shiftLeft]
  refine Nat.lt_pow_two_of_testBit _ (fun i hi => ?_)
  cases e : (zPl g s (zPos s a)).testBit i with
  | false => rfl
  | true =>
    obtain ⟨b, h1, h2, h3, h4⟩ := (zPl_bit hn ha hsa).mp e
    have h5 := zPos_lt h2 h1
    rw [zPos_8 hn hs] at h5
    omega
theorem zPl_tr {lo : Nat → Nat} {n s p : Nat} (hn : n ≤ 8) (hs : s < 1 <<< n) (hp : p < zPos s n) : zPl (zTr n lo) s p = zTr (zPos s n) (zPl lo s) p := by
  obtain ⟨a, ha, hsa, rfl⟩ := zPos_of hp
  apply zext; intro q
  rw [zTr_bit]
  rcases Nat.lt_or_ge q (zPos s n) with hq | hq
  · obtain ⟨b, hb, hsb, rfl⟩ := zPos_of hq
    rw [zPl_at hn ha hsa hb hsb, zPl_at hn hb hsb ha hsa, decide_eq_true hq, zTr_bit, decide_eq_true hb]
  · rw [decide_eq_false (by omega), Bool.false_and]
    exact zhigh (zPl_lt hn hs ha hsa) q hq
theorem zPre.part {lo : Nat → Nat} {n s : Nat} (hP : zPre n lo) (hs : s < 1 <<< n) : zPre (zPos s n) (zPl lo s) := by
  have hn := hP.1
  refine ⟨Nat.le_trans (zct_le _ _) hn, fun p hp => ?_⟩
  obtain ⟨a, ha, hsa, rfl⟩ := zPos_of hp
  refine ⟨zPl_lt hn hs ha hsa, by rw [zPl_at hn ha hsa ha hsa]; exact (hP.2 a ha).2.1, fun y hy z hz => ?_⟩
  obtain ⟨b, h1, h2, h3, rfl⟩ := (zPl_bit hn ha hsa).mp hy
  have hb : b < n := zlt_bit hs h2
  obtain ⟨c, g1, g2, g3, rfl⟩ := (zPl_bit hn hb h2).mp hz
  exact (zPl_bit hn ha hsa).mpr ⟨c, g1, g2, (hP.2 a ha).2.2 b h3 c g3, rfl⟩
section ZP9
variable {d : Nat} {h : zH} {o q n m : Nat} {lo l0 h0 : Nat → Nat}
theorem cs_part {s : Nat} (ho2 : 2 ≤ o) (hX : zSp h o n l0 h0) (hq : zSq h q m lo) (hP : zPre m lo) (ha : zApart o q) (hs : s < 1 <<< m) : zCallP (d + 3) 83 [.ref o, .ref q, .int (nI s)] h (zRN (fun h1 => zFr (zsS o) h h1 ∧ zSq h1 o (zPos s m) (zPl lo s))) :=
  (cp_part ho2 hX hq hP.ok ha (Nat.lt_of_lt_of_le hs (zpow_le hP.1).2)).nm (fun h1 hh => ⟨hh.1, hh.2.vals (fun p hp => ⟨rfl, zPl_tr hP.1 hs hp⟩)⟩)
theorem cs_become (ho2 : 2 ≤ o) (hX : zSp h o n l0 h0) (hq : zSq h q m lo) (hm : m ≤ 8) (ha : zApart o q) : zCallP (d + 1) 65 [.ref o, .ref q] h (zRN (fun h1 => zFr (zsS o) h h1 ∧ zSq h1 o m lo)) := cp_become ho2 hX hq hm ha
end ZP9
theorem zGA.x {h0 h : zH} {n : Nat} {lo hi : Nat → Nat} {ec : Int32} {rw en im : Nat → Int32} (hA : zGA h0 8 n lo hi ec rw en im h) : zc_go h := by
  obtain ⟨-, fl, fh, fb, fa, ft, sh, hG, -⟩ := hA
  exact ⟨n, ec, fl, fh, fb, fa, ft, sh, rw, en, im, hG⟩
