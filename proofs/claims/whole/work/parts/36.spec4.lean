/-! raw ints against bounds; maps told by digits -/
theorem zraw_gt {x : Int32} {n : Nat} (hn : n + 1 < 2 ^ 31) (h : zc2 .gt x (nI n) = true) : zin x (n + 1) = false := by
  have h : nI n < x := of_decide_eq_true h
  cases q : zin x (n + 1) with
  | false => rfl
  | true =>
    obtain ⟨j, hj, rfl⟩ := zin_of q hn
    exact absurd ((nI_ltI (by omega) (by omega)).mp h) (by omega)
theorem zraw_in2 {x : Int32} {n : Nat} (hn : n + 1 < 2 ^ 31) (h0 : zc1 .lt x = false) (h : zc2 .gt x (nI n) = false) : zin x (n + 1) = true := by
  have h0 : ¬ x < 0 := of_decide_eq_false h0
  have h : ¬ nI n < x := of_decide_eq_false h
  obtain ⟨j, hj, rfl⟩ := nI_of h0
  exact zin_n (by have := Nat.lt_of_not_le (fun g => h ((nI_ltI (by omega) hj).mpr g)); omega) hn
theorem zcode30_iff {x : Int32} {k : Nat} (hk : k ≤ 30) : (zc1 .lt x = false ∧ x >>> (nI k &&& 31) = 0) ↔ zin x (1 <<< k) = true := by
  have hp : 1 <<< k ≤ 2 ^ 30 := by
    rw [Nat.one_shiftLeft]
    exact Nat.pow_le_pow_right (by omega) hk
  rw [zin_iff (by omega)]
  constructor
  · rintro ⟨h1, h2⟩
    obtain ⟨j, hj, rfl⟩ := nI_of (show ¬ x < 0 from of_decide_eq_false h1)
    rw [nI_shr hj (by omega)] at h2
    have h3 : j >>> k = 0 := nI_inj32 (by have := zshr_le j k; omega) (by decide) (h2.trans nI_0.symm)
    rw [Nat.shiftRight_eq_div_pow] at h3
    refine ⟨j, ?_, rfl⟩
    rw [Nat.one_shiftLeft]
    exact (Nat.div_eq_zero_iff_lt (Nat.two_pow_pos k)).mp h3
  · rintro ⟨j, hj, rfl⟩
    refine ⟨decide_eq_false (nI_pos (by omega)), ?_⟩
    rw [nI_shr (by omega) (by omega), Nat.shiftRight_eq_div_pow, Nat.div_eq_of_lt (by rw [← Nat.one_shiftLeft]; exact hj)]
    rfl
def zDig (w i : Nat) : Nat := (w >>> (3 * i)) &&& 7
theorem zDig_lt (w i : Nat) : zDig w i < 8 := Nat.lt_of_le_of_lt Nat.and_le_right (by decide)
def zAl (p : Nat → Bool) : Nat → Bool
  | 0 => true
  | n + 1 => zAl p n && p n
theorem zAl_iff {p : Nat → Bool} : ∀ {n : Nat}, zAl p n = true ↔ ∀ i, i < n → p i = true
  | 0 => ⟨fun _ i hi => absurd hi (Nat.not_lt_zero i), fun _ => rfl⟩
  | n + 1 => by
    rw [zAl, Bool.and_eq_true, zAl_iff]
    constructor
    · rintro ⟨h1, h2⟩ i hi
      by_cases e : i = n
      · subst e; exact h2
      · exact h1 i (by omega)
    · intro h
      exact ⟨fun i hi => h i (by omega), h n (by omega)⟩
theorem zAl_no {p : Nat → Bool} {n i : Nat} (hi : i < n) (h : p i = false) : zAl p n = false := by
  cases q : zAl p n with
  | false => rfl
  | true => rw [zAl_iff.mp q i hi] at h; cases h
theorem zAl_cong {p q : Nat → Bool} {n : Nat} (h : ∀ i, i < n → p i = q i) : zAl p n = zAl q n := by
  induction n with
  | zero => rfl
  | succ n ih => rw [zAl, zAl, ih (fun i hi => h i (by omega)), h n (by omega)]
/-- a map, told by digits -/
def zMp (na nb : Nat) (x : Int32) : Bool := zin x (1 <<< (3 * na)) && zAl (fun i => decide (zDig x.toNatClampNeg i < nb)) na
def zTearF (na : Nat) (la lb : Nat → Nat) (w x y : Nat) : Option Nat := if (la x).testBit y && !(lb (zDig w x)).testBit (zDig w y) then some (1 + 8 * x + y) else none
def zTear (na : Nat) (la lb : Nat → Nat) (w : Nat) : Nat := (zfo (fun x => zfo (zTearF na la lb w x) na) na).getD 0
def zWh (na nb : Nat) (la lb : Nat → Nat) (x : Int32) : Bool := zMp na nb x && decide (zTear na la lb x.toNatClampNeg = 0)
theorem zMp_w {na nb : Nat} {x : Int32} (hn : na ≤ 8) (h : zMp na nb x = true) : ∃ w, w < 1 <<< (3 * na) ∧ w < 2 ^ 24 ∧ x = nI w ∧ x.toNatClampNeg = w ∧ ∀ i, i < na → zDig w i < nb := by
  unfold zMp at h
  rw [Bool.and_eq_true] at h
  have hp : 1 <<< (3 * na) ≤ 2 ^ 24 := by
    rw [Nat.one_shiftLeft]
    exact Nat.pow_le_pow_right (by omega) (by omega)
  obtain ⟨w, hw, rfl⟩ := (zin_iff (by omega)).mp h.1
  have e : (nI w).toNatClampNeg = w := nI_cl (by omega)
  rw [e] at h
  exact ⟨w, hw, by omega, rfl, e, fun i hi => of_decide_eq_true (zAl_iff.mp h.2 i hi)⟩
theorem zfo_none {α : Type} {f : Nat → Option α} : ∀ {n : Nat}, (∀ i, i < n → f i = none) → zfo f n = none
  | 0, _ => rfl
  | n + 1, h => by rw [zfo, zfo_none (fun i hi => h i (by omega))]; exact h n (by omega)
theorem zfo_at {α : Type} {f : Nat → Option α} {i n : Nat} {v : α} (hi : i < n) (h : f i = some v) (hn : ∀ j, j < i → f j = none) : zfo f n = some v := by
  have h1 : zfo f (i + 1) = some v := by rw [zfo, zfo_none hn]; exact h
  have := zfo_more h1 (n - (i + 1))
  rwa [show i + 1 + (n - (i + 1)) = n by omega] at this
theorem zfo_in {α : Type} {f : Nat → Option α} {u : α} {j : Nat} (e : f j = some u) : ∀ {n : Nat}, j < n → (zfo f n).isSome = true
  | 0, h => absurd h (Nat.not_lt_zero _)
  | n + 1, h => by
    rw [zfo]
    by_cases g : j = n
    · subst g
      cases q : zfo f j with
      | some _ => rfl
      | none => show (f j).isSome = true; rw [e]; rfl
    · have := zfo_in e (n := n) (by omega)
      cases q : zfo f n with
      | some _ => rfl
      | none => rw [q] at this; cases this
theorem zfo_some {α : Type} {f : Nat → Option α} {v : α} : ∀ {n : Nat}, zfo f n = some v → ∃ i, i < n ∧ f i = some v ∧ ∀ j, j < i → f j = none
  | 0, h => by cases h
  | n + 1, h => by
    rw [zfo] at h
    cases q : zfo f n with
    | some u =>
      rw [q] at h
      cases h
      obtain ⟨i, h1, h2, h3⟩ := zfo_some q
      exact ⟨i, by omega, h2, h3⟩
    | none =>
      rw [q] at h
      refine ⟨n, by omega, h, ?_⟩
      intro j hj
      cases e : f j with
      | none => rfl
      | some u =>
        exfalso
        have := zfo_in e hj
        rw [q] at this
        cases this
theorem zTear_le {na w : Nat} {la lb : Nat → Nat} (hn : na ≤ 8) : zTear na la lb w ≤ 80 := by
  unfold zTear
  cases q : zfo (fun x => zfo (zTearF na la lb w x) na) na with
  | none => exact Nat.zero_le _
  | some v =>
    obtain ⟨x, hx, h1, -⟩ := zfo_some q
    obtain ⟨y, hy, h2, -⟩ := zfo_some h1
    unfold zTearF at h2
    split at h2
    · cases h2; show 1 + 8 * x + y ≤ 80; omega
    · cases h2
theorem zAl_stop {p : Nat → Bool} {x n : Nat} (h : zAl p x = false) (hx : x ≤ n) : zAl p n = false := by
  cases q : zAl p n with
  | false => rfl
  | true =>
    have := zAl_iff.mpr (fun i (hi : i < x) => zAl_iff.mp q i (by omega))
    rw [h] at this
    cases this
theorem zraw_nle {x : Int32} {n : Nat} (hn : n + 1 < 2 ^ 31) (h : zc2 .le x (nI n) = false) : zin x (n + 1) = false := by
  have h : ¬ x ≤ nI n := of_decide_eq_false h
  cases q : zin x (n + 1) with
  | false => rfl
  | true =>
    obtain ⟨j, hj, rfl⟩ := zin_of q hn
    exact absurd ((nI_leI (by omega) (by omega)).mpr (by omega)) h
theorem zraw_le {x : Int32} {n : Nat} (hn : n + 1 < 2 ^ 31) (h0 : zc1 .lt x = false) (h : zc2 .le x (nI n) = true) : zin x (n + 1) = true := by
  have h0 : ¬ x < 0 := of_decide_eq_false h0
  have h : x ≤ nI n := of_decide_eq_true h
  obtain ⟨j, hj, rfl⟩ := nI_of h0
  exact zin_n (by have := (nI_leI hj (by omega)).mp h; omega) hn
