/-! rows of chains, as the reference finds them -/
theorem zsub_one {s t : Nat} (hs : s < 256) (h : zan t s = 0) (hc : zcnt s = zcnt t + 1) : ∃ x, x < 8 ∧ s.testBit x = true ∧ zan s (1 <<< x) = t := by
  have hts := zan_0.mp h
  have hne : ∃ x, s.testBit x = true ∧ t.testBit x = false := by
    refine Classical.byContradiction (fun g => ?_)
    have : s = t := zext (fun i => by
      cases e : s.testBit i with
      | true =>
        cases e2 : t.testBit i with
        | true => rfl
        | false => exact absurd ⟨i, e, e2⟩ g
      | false =>
        cases e2 : t.testBit i with
        | false => rfl
        | true => rw [hts i e2] at e; cases e)
    rw [this] at hc
    omega
  obtain ⟨x, h1, h2⟩ := hne
  have hx := zbit_lt8 hs h1
  refine ⟨x, hx, h1, ?_⟩
  have h3 := zcnt_cut s hs x hx h1
  have h4 : zsub t (zan s (1 <<< x)) := fun i hi => by
    rw [zan_bit, hts i hi, z1bit]
    by_cases e : i = x
    · rw [e, h2] at hi; cases hi
    · rw [decide_eq_false e]; rfl
  rcases zcnt_up h4 (zan_lt _ hs) with e | e
  · exact e
  · omega
section ZROW
variable {n k m : Nat} {lo : Nat → Nat} {c : Nat → Nat}
/-- the sets below s that count as k, in their order -/
def zClst (C : Nat → Nat) (k s m : Nat) (c : Nat → Nat) : Prop := m = zPlc C k s ∧ ∀ i, i < m → 1 ≤ c i ∧ c i < s ∧ C (c i) = k ∧ zPlc C k (c i) = i
theorem zPlc_inj {C : Nat → Nat} {a b : Nat} (ha : 1 ≤ a) (hb : 1 ≤ b) (hca : C a = k) (hcb : C b = k) (h : zPlc C k a = zPlc C k b) : a = b := by
  have key : ∀ a b, 1 ≤ a → C a = k → a < b → zPlc C k a < zPlc C k b := fun a b h1 h2 h3 => by
    have e : zPlc C k (a + 1) = zPlc C k a + 1 := zct_yes (by rw [decide_eq_true h1, decide_eq_true h2]; rfl)
    have := zPlc_up C k (show a + 1 ≤ b by omega)
    omega
  rcases Nat.lt_trichotomy a b with g | g | g
  · have := key a b ha hca g; omega
  · exact g
  · have := key b a hb hcb g; omega
theorem zCc_k {s : Nat} (hk : 1 ≤ k) : zCc n lo (zTr n lo) s = k ↔ zChn n lo (zTr n lo) s = true ∧ zcnt s = k := by
  unfold zCc
  constructor
  · intro h
    split at h
    · next g => exact ⟨g, h⟩
    · omega
  · rintro ⟨h1, h2⟩
    rw [if_pos h1]; exact h2
theorem zrow_eq (hk : 1 ≤ k) (hl : zClst (zCc n lo (zTr n lo)) k 256 m c) {s : Nat} (hs : s < 256) (hC : zCc n lo (zTr n lo) s = k + 1) : zbits (fun j => decide (zan (c j) s = 0)) m = zBnd (zPlc (zCc n lo (zTr n lo)) k) s := by
  obtain ⟨hm, hc⟩ := hl
  have hs2 := (zCc_k (by omega)).mp hC
  refine zext (fun i => ?_)
  have key : (zbits (fun j => decide (zan (c j) s = 0)) m).testBit i = true ↔ (zBnd (zPlc (zCc n lo (zTr n lo)) k) s).testBit i = true := by
    rw [zbits_bit, Bool.and_eq_true, decide_eq_true_eq, decide_eq_true_eq]
    unfold zBnd
    rw [zor_bit]
    constructor
    · rintro ⟨hi, h0⟩
      obtain ⟨a1, a2, a3, a4⟩ := hc i hi
      have a5 := (zCc_k hk).mp a3
      obtain ⟨x, hx, hb, he⟩ := zsub_one hs h0 (by rw [hs2.2, a5.2])
      refine ⟨x, hx, ?_⟩
      rw [if_pos hb, he, a4, z1bit]
      exact decide_eq_true rfl
    · rintro ⟨x, hx, hb⟩
      split at hb
      · next hsx =>
        rw [z1bit] at hb
        have hb := of_decide_eq_true hb
        obtain ⟨-, b2, b3, b4⟩ := zCc_clo hk s hs hC x hsx
        have hlt : i < m := by
          rw [hb, hm]
          exact zPlc_lt b2 b3 b4
        obtain ⟨a1, a2, a3, a4⟩ := hc i hlt
        have : c i = zan s (1 <<< x) := zPlc_inj a1 b2 a3 b4 (by rw [a4, hb])
        refine ⟨hlt, ?_⟩
        rw [this]
        exact zan_0.mpr (fun q hq => by
          rw [zan_bit, Bool.and_eq_true] at hq
          exact hq.1)
      · rw [Nat.zero_testBit] at hb; cases hb
  cases e1 : (zbits (fun j => decide (zan (c j) s = 0)) m).testBit i with
  | true => exact (key.mp e1).symm
  | false =>
    cases e2 : (zBnd (zPlc (zCc n lo (zTr n lo)) k) s).testBit i with
    | false => rfl
    | true => rw [key.mpr e2] at e1; cases e1
theorem zPlc_big {s : Nat} (hn : n ≤ 8) (hk : 1 ≤ k) (hs : 1 <<< n ≤ s) (h256 : s ≤ 256) : zPlc (zCc n lo (zTr n lo)) k s = zPlc (zCc n lo (zTr n lo)) k (1 <<< n) := zct_none hs (fun i h1 h2 => by rw [zCc_big h1, decide_eq_false (show ¬ 0 = k by omega), Bool.and_false])
theorem zClst_all (hn : n ≤ 8) (hk : 1 ≤ k) (hl : zClst (zCc n lo (zTr n lo)) k (1 <<< n) m c) : zClst (zCc n lo (zTr n lo)) k 256 m c := by
  have hp := zpow_le hn
  refine ⟨by rw [zPlc_big hn hk hp.2 (Nat.le_refl _)]; exact hl.1, fun i hi => ?_⟩
  obtain ⟨a1, a2, a3, a4⟩ := hl.2 i hi
  exact ⟨a1, by omega, a3, a4⟩
/-- sets that are none of the space change nothing -/
theorem zR2_big (hn : n ≤ 8) : ∀ {j}, zR2 (zCc n lo (zTr n lo)) k (1 <<< n + j) = zR2 (zCc n lo (zTr n lo)) k (1 <<< n)
  | 0 => rfl
  | j + 1 => by
    rw [show 1 <<< n + (j + 1) = 1 <<< n + j + 1 by omega, zR2_s, zR2_big hn]
    rw [zRw2, zCc_big (Nat.le_add_right _ _), if_neg (fun g => absurd g.2 (by omega))]
theorem zR2_rank (hn : n ≤ 7) (hk : 1 ≤ k) (hk9 : k < 9) : (zR2 (zCc n lo (zTr n lo)) k (1 <<< n)).1 = zRkC (zCc n lo (zTr n lo)) k := by
  have hp := zpow_le (show n ≤ 8 by omega)
  have h := (zRk_two (zCc_clo hk) (zCc_num (lo := lo) (hi := zTr n lo) hn hk (by omega)) 256 (Nat.le_refl _)).1
  obtain ⟨j, hj⟩ : ∃ j, 256 = 1 <<< n + j := ⟨256 - 1 <<< n, by omega⟩
  rw [zRkC_p hk, ← h]
  conv => rhs; rw [hj]
  rw [zR2_big (by omega)]
theorem zRk_none (hk : 1 ≤ k) (h : zNum (zCc n lo (zTr n lo)) k = 0) : ∀ s, s ≤ 256 → (zRk (zCc n lo (zTr n lo)) k s).1 = 0
  | 0, _ => rfl
  | s + 1, hs => by
    rw [zRk_s, zRk_none hk h s (by omega)]
    rw [zRkw, if_neg]
    rintro ⟨g1, g2⟩
    have h2 := (zCc_k (by omega)).mp g2
    have h3 : ∃ x, s.testBit x = true := by
      refine Classical.byContradiction (fun g => ?_)
      have : s = 0 := zext (fun i => by
        rw [Nat.zero_testBit]
        cases e : s.testBit i with
        | false => rfl
        | true => exact absurd ⟨i, e⟩ g)
      omega
    obtain ⟨x, hx⟩ := h3
    obtain ⟨-, b2, b3, b4⟩ := zCc_clo hk s (by omega) g2 x hx
    have := zPlc_lt b2 b3 b4
    omega
theorem zR2_lt (hn : n ≤ 7) (hk : 1 ≤ k) (hk9 : k < 9) : ∀ s, s ≤ 256 → ∀ i, i < (zR2 (zCc n lo (zTr n lo)) k s).1 → (zR2 (zCc n lo (zTr n lo)) k s).2 i < 2 ^ 63
  | 0, _, i, hi => absurd hi (Nat.not_lt_zero i)
  | s + 1, hs, i, hi => by
    have ih := zR2_lt hn hk hk9 s (by omega)
    by_cases e : zRw2 (zCc n lo (zTr n lo)) k s (zR2 (zCc n lo (zTr n lo)) k s) = 0
    · rw [zR2_s e] at hi ⊢; exact ih i hi
    · rw [zR2_a e] at hi ⊢
      show zupd (zR2 (zCc n lo (zTr n lo)) k s).2 (zR2 (zCc n lo (zTr n lo)) k s).1 _ i < 2 ^ 63
      have hi : i < (zR2 (zCc n lo (zTr n lo)) k s).1 + 1 := hi
      by_cases g : i = (zR2 (zCc n lo (zTr n lo)) k s).1
      · rw [g, zupd_at, zRw2]
        split
        · next g2 =>
          refine zRdg_lt ih (zor_ltb (fun x hx => ?_))
          split
          · next e3 =>
            obtain ⟨-, b2, b3, b4⟩ := zCc_clo hk s (by omega) g2.2 x e3
            have h5 := zPlc_lt b2 b3 b4
            have h6 := zCc_num (lo := lo) (hi := zTr n lo) hn hk (show k < 10 by omega)
            rw [Nat.one_shiftLeft]
            exact Nat.pow_lt_pow_right (by decide) (by omega)
          · exact Nat.two_pow_pos 63
        · exact Nat.two_pow_pos 63
      · rw [zupd_ne _ _ g]; exact ih i (by omega)
theorem zR2_le (hn : n ≤ 7) (hk : 1 ≤ k) (hk9 : k < 9) {s : Nat} (hs : s ≤ 256) : (zR2 (zCc n lo (zTr n lo)) k s).1 ≤ zPlc (zCc n lo (zTr n lo)) (k + 1) s := by
  rw [(zRk_two (zCc_clo hk) (zCc_num (lo := lo) (hi := zTr n lo) hn hk (by omega)) s hs).1]
  exact zRk_le s
end ZROW
theorem zlc_ge {a b : Nat} (ha : a < 2 ^ 63) (hb : b < 2 ^ 63) : zc1 .ge (lg_cmp (nL a) (nL b)) = decide (b ≤ a) := by
  show decide (0 ≤ lg_cmp _ _) = _
  rw [decide_eq_decide, lg_cmp_ge]
  exact pk_lLE hb ha
theorem zlc_lt0 {a : Nat} (ha : a < 2 ^ 63) : zc1 .lt (lg_cmp (nL a) (nL 0)) = false := by
  refine decide_eq_false (fun g => ?_)
  have := (pk_lLT ha (show 0 < 2 ^ 63 by decide)).mp ((lg_cmp_lt _ _).mp g)
  omega
