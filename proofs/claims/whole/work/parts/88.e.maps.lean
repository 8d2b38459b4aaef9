/-! whole maps: how many, by all numbers that tell a map, and point by point -/
theorem zsm_add {f g : Nat → Nat} : ∀ n, zsm (fun i => f i + g i) n = zsm f n + zsm g n
  | 0 => rfl
  | n + 1 => by rw [zsm, zsm, zsm, zsm_add n]; omega
theorem zsm_8 {F : Nat → Nat} : ∀ N, zsm F (8 * N) = zsm (fun y => zsm (fun v => F (y + 8 * v)) N) 8
  | 0 => rfl
  | N + 1 => by
    have e1 : zsm F (8 * (N + 1)) = zsm F (8 * N) + zsm (fun y => F (y + 8 * N)) 8 := by
      rw [show 8 * (N + 1) = 8 * N + 1 + 1 + 1 + 1 + 1 + 1 + 1 + 1 by omega]
      simp only [zsm, Nat.zero_add]
      rw [show 1 + 8 * N = 8 * N + 1 by omega, show 2 + 8 * N = 8 * N + 2 by omega, show 3 + 8 * N = 8 * N + 3 by omega, show 4 + 8 * N = 8 * N + 4 by omega, show 5 + 8 * N = 8 * N + 5 by omega, show 6 + 8 * N = 8 * N + 6 by omega, show 7 + 8 * N = 8 * N + 7 by omega]
      omega
    rw [e1, zsm_8 N, ← zsm_add]
    rfl
theorem zsm_z {f : Nat → Nat} {m : Nat} : ∀ {n : Nat}, m ≤ n → (∀ y, m ≤ y → y < n → f y = 0) → zsm f n = zsm f m
  | 0, h, _ => by rw [show m = 0 by omega]
  | n + 1, h, hz => by
    by_cases e : m = n + 1
    · rw [e]
    · rw [zsm, hz n (by omega) (by omega), zsm_z (by omega) (fun y h1 h2 => hz y h1 (by omega))]; rfl
theorem zDig_eq (w i : Nat) : zDig w i = w / 8 ^ i % 8 := by
  unfold zDig
  rw [Nat.shiftRight_eq_div_pow, Nat.pow_mul, show (7 : Nat) = 2 ^ 3 - 1 from rfl, Nat.and_two_pow_sub_one_eq_mod]
theorem zDig_lo {w k v i : Nat} (hi : i < k) : zDig (w + 8 ^ k * v) i = zDig w i := by
  obtain ⟨m, rfl⟩ : ∃ m, k = i + (m + 1) := ⟨k - i - 1, by omega⟩
  rw [zDig_eq, zDig_eq, Nat.pow_add, Nat.mul_assoc, Nat.add_mul_div_left _ _ (Nat.pow_pos (by decide)), Nat.pow_succ, Nat.mul_comm (8 ^ m) 8, Nat.mul_assoc, Nat.add_mul_mod_self_left]
theorem zDig_at {w k y v : Nat} (hw : w < 8 ^ k) (hy : y < 8) : zDig (w + 8 ^ k * (y + 8 * v)) k = y := by
  rw [zDig_eq, Nat.add_mul_div_left _ _ (Nat.pow_pos (by decide)), Nat.div_eq_of_lt hw, Nat.zero_add, Nat.add_mul_mod_self_left, Nat.mod_eq_of_lt hy]
section ZMAP
variable {n n2 : Nat} {lo lo2 : Nat → Nat}
/-- the first k images are points, and nothing is torn among them -/
def zMok (n2 : Nat) (lo lo2 : Nat → Nat) (k w : Nat) : Bool := zAl (fun i => decide (zDig w i < n2)) k && zAl (fun x => zAl (fun y => !(lo x).testBit y || (lo2 (zDig w x)).testBit (zDig w y)) k) k
theorem zMok_iff {k w : Nat} : zMok n2 lo lo2 k w = true ↔ (∀ i, i < k → zDig w i < n2) ∧ ∀ x, x < k → ∀ y, y < k → (lo x).testBit y = true → (lo2 (zDig w x)).testBit (zDig w y) = true := by
  unfold zMok
  rw [Bool.and_eq_true, zAl_iff, zAl_iff]
  refine and_congr ⟨fun h i hi => of_decide_eq_true (h i hi), fun h i hi => decide_eq_true (h i hi)⟩ ⟨fun h x hx y hy hb => ?_, fun h x hx => zAl_iff.mpr (fun y hy => ?_)⟩
  · have := zAl_iff.mp (h x hx) y hy
    rw [hb] at this
    simpa using this
  · cases e : (lo x).testBit y with
    | false => rfl
    | true => rw [h x hx y hy e]; rfl
theorem zTear_0 {w : Nat} : decide (zTear n lo lo2 w = 0) = zAl (fun x => zAl (fun y => !(lo x).testBit y || (lo2 (zDig w x)).testBit (zDig w y)) n) n := by
  have key : zTear n lo lo2 w = 0 ↔ ∀ x, x < n → ∀ y, y < n → (lo x).testBit y = true → (lo2 (zDig w x)).testBit (zDig w y) = true := by
    have hsome : ∀ v, zfo (fun x => zfo (zTearF n lo lo2 w x) n) n = some v → v ≠ 0 := by
      have h1 : ∀ x m v, zfo (zTearF n lo lo2 w x) m = some v → v ≠ 0 := fun x m => by
        induction m with
        | zero => intro v h; cases h
        | succ m ih =>
          intro v h
          cases q : zfo (zTearF n lo lo2 w x) m with
          | some u => rw [zfo, q] at h; exact ih v (by rw [q]; exact h)
          | none =>
            rw [zfo, q] at h
            have h : zTearF n lo lo2 w x m = some v := h
            unfold zTearF at h
            split at h
            · cases h; omega
            · cases h
      have h2 : ∀ m v, zfo (fun x => zfo (zTearF n lo lo2 w x) n) m = some v → v ≠ 0 := fun m => by
        induction m with
        | zero => intro v h; cases h
        | succ m ih =>
          intro v h
          cases q : zfo (fun x => zfo (zTearF n lo lo2 w x) n) m with
          | some u => rw [zfo, q] at h; exact ih v (by rw [q]; exact h)
          | none => rw [zfo, q] at h; exact h1 m n v h
      exact h2 n
    unfold zTear
    constructor
    · intro h x hx y hy hb
      cases q : zfo (fun x => zfo (zTearF n lo lo2 w x) n) n with
      | some v => rw [q] at h; exact absurd h (hsome v q)
      | none =>
        have h3 := zfo_0.mp (zfo_0.mp q x hx) y hy
        unfold zTearF at h3
        rw [hb] at h3
        cases e : (lo2 (zDig w x)).testBit (zDig w y) with
        | true => rfl
        | false => rw [e] at h3; cases h3
    · intro h
      have h4 : zfo (fun x => zfo (zTearF n lo lo2 w x) n) n = none := zfo_0.mpr (fun x hx => zfo_0.mpr (fun y hy => by
        unfold zTearF
        cases e : (lo x).testBit y with
        | false => rfl
        | true => rw [h x hx y hy e]; rfl))
      rw [h4]; rfl
  cases q : zAl (fun x => zAl (fun y => !(lo x).testBit y || (lo2 (zDig w x)).testBit (zDig w y)) n) n with
  | true =>
    refine decide_eq_true (key.mpr (fun x hx y hy hb => ?_))
    have := zAl_iff.mp (zAl_iff.mp q x hx) y hy
    rw [hb] at this
    simpa using this
  | false =>
    refine decide_eq_false (fun g => ?_)
    rw [zAl_iff.mpr (fun x hx => zAl_iff.mpr (fun y hy => by
      cases e : (lo x).testBit y with
      | false => rfl
      | true => rw [key.mp g x hx y hy e]; rfl))] at q
    cases q
theorem zChoF_bit {nB k u i : Nat} {fl fh tl th I : Nat → Nat} : ∀ j, (zCho false nB fl fh tl th I k u j).testBit i = (decide (i < nB) && zAl (fun j => (!(fh k).testBit j || (tl (I j)).testBit i) && (!(fl k).testBit j || (th (I j)).testBit i)) j)
  | 0 => by
    show (1 <<< nB - 1).testBit i = _
    rw [zall_bit]
    exact (Bool.and_true _).symm
  | j + 1 => by
    show (zCh1 false ((fh k).testBit j) (zCh1 false ((fl k).testBit j) (zCho false nB fl fh tl th I k u j) (th (I j))) (tl (I j))).testBit i = _
    have h1 : ∀ b a s, (zCh1 false b a s).testBit i = (a.testBit i && (!b || s.testBit i)) := fun b a s => by
      unfold zCh1
      cases b
      · exact (Bool.and_true _).symm
      · show (a &&& s).testBit i = _
        rw [Nat.testBit_and]; rfl
    rw [h1, h1, zChoF_bit j, zAl]
    generalize zAl _ j = A
    generalize (!(fl k).testBit j || (th (I j)).testBit i) = C
    generalize (!(fh k).testBit j || (tl (I j)).testBit i) = D
    cases decide (i < nB) <;> cases A <;> cases C <;> cases D <;> rfl
theorem zFcF_s {nB r k u : Nat} {fl fh tl th I : Nat → Nat} (hB : nB ≤ 8) : zFc false nB fl fh tl th (r + 1) k u I = zsm (fun y => if (zCho false nB fl fh tl th I k u k).testBit y then zFc false nB fl fh tl th r (k + 1) (u ||| 1 <<< y) (zupd I k y) else 0) nB := by
  rw [zFc]
  by_cases e : r = 0
  · subst e
    rw [if_pos rfl]
    show zct (fun y => (zCho false nB fl fh tl th I k u k).testBit y) 8 = zsm (fun y => if (zCho false nB fl fh tl th I k u k).testBit y then 1 else 0) nB
    rw [zct_none hB (fun i h1 h2 => by rw [zChoF_bit, decide_eq_false (by omega)]; rfl), zct_sm]
  · rw [if_neg e]
/-- one image more -/
theorem zMok_s (hP : zPre n lo) (hP2 : zPre n2 lo2) {k w y u : Nat} {I : Nat → Nat} (hk : k < n) (hw : w < 8 ^ k) (hy : y < 8) (hI : ∀ j, j < k → I j = zDig w j) : zMok n2 lo lo2 (k + 1) (w + 8 ^ k * y) = (zMok n2 lo lo2 k w && (zCho false n2 lo (zTr n lo) lo2 (zTr n2 lo2) I k u k).testBit y) := by
  have d1 : ∀ i, i < k → zDig (w + 8 ^ k * y) i = zDig w i := fun i hi => zDig_lo hi
  have d2 : zDig (w + 8 ^ k * y) k = y := by have := zDig_at (v := 0) hw hy; rwa [Nat.mul_zero, Nat.add_zero] at this
  have hb : (zMok n2 lo lo2 (k + 1) (w + 8 ^ k * y) = true) ↔ ((zMok n2 lo lo2 k w && (zCho false n2 lo (zTr n lo) lo2 (zTr n2 lo2) I k u k).testBit y) = true) := by
    rw [zMok_iff, Bool.and_eq_true, zMok_iff, zChoF_bit, Bool.and_eq_true, decide_eq_true_eq, zAl_iff]
    constructor
    · rintro ⟨h1, h2⟩
      have hyn : y < n2 := by have := h1 k (by omega); rwa [d2] at this
      refine ⟨⟨fun i hi => by rw [← d1 i hi]; exact h1 i (by omega), fun a ha b hb hab => by rw [← d1 a ha, ← d1 b hb]; exact h2 a (by omega) b (by omega) hab⟩, hyn, fun j hj => ?_⟩
      have hjn : I j < n2 := by rw [hI j hj, ← d1 j hj]; exact h1 j (by omega)
      rw [Bool.and_eq_true]
      constructor
      · cases e : (zTr n lo k).testBit j with
        | false => rfl
        | true =>
          rw [zTr_bit, Bool.and_eq_true] at e
          have := h2 j (by omega) k (by omega) e.2
          rw [d1 j hj, d2, ← hI j hj] at this
          rw [this]; rfl
      · cases e : (lo k).testBit j with
        | false => rfl
        | true =>
          have := h2 k (by omega) j (by omega) e
          rw [d1 j hj, d2, ← hI j hj] at this
          rw [zTr_bit, decide_eq_true hyn, this]; rfl
    · rintro ⟨⟨h1, h2⟩, hyn, h3⟩
      refine ⟨fun i hi => ?_, fun a ha b hb hab => ?_⟩
      · by_cases e : i = k
        · rw [e, d2]; exact hyn
        · rw [d1 i (by omega)]; exact h1 i (by omega)
      · by_cases ea : a = k
        · by_cases eb : b = k
          · rw [ea, eb, d2]; exact (hP2.2 y hyn).2.1
          · rw [ea, d2, d1 b (by omega)]
            have := h3 b (by omega)
            rw [Bool.and_eq_true] at this
            rw [ea] at hab
            have h4 := this.2
            rw [hab, hI b (by omega), zTr_bit] at h4
            rw [decide_eq_true hyn] at h4
            simpa using h4
        · by_cases eb : b = k
          · rw [eb, d2, d1 a (by omega)]
            have := h3 a (by omega)
            rw [Bool.and_eq_true] at this
            rw [eb] at hab
            have h4 := this.1
            rw [zTr_bit, decide_eq_true (show a < n by omega), hab, hI a (by omega)] at h4
            simpa using h4
          · rw [d1 a (by omega), d1 b (by omega)]; exact h2 a (by omega) b (by omega) hab
  cases e1 : zMok n2 lo lo2 (k + 1) (w + 8 ^ k * y) with
  | true => exact (hb.mp e1).symm
  | false =>
    cases e2 : (zMok n2 lo lo2 k w && (zCho false n2 lo (zTr n lo) lo2 (zTr n2 lo2) I k u k).testBit y) with
    | false => rfl
    | true => rw [hb.mpr e2] at e1; cases e1
theorem zmaps_q (hP : zPre n lo) (hP2 : zPre n2 lo2) : ∀ (q k w u : Nat) (I : Nat → Nat), k + q = n → w < 8 ^ k → (∀ j, j < k → I j = zDig w j) → zct (fun v => zMok n2 lo lo2 n (w + 8 ^ k * v)) (8 ^ q) = if zMok n2 lo lo2 k w then zFc false n2 lo (zTr n lo) lo2 (zTr n2 lo2) q k u I else 0
  | 0, k, w, u, I, hk, hw, hI => by
    have hk : k = n := by omega
    subst hk
    show zct _ 1 = _
    rw [zct, zct, Nat.mul_zero, Nat.add_zero, Nat.zero_add]
    cases zMok n2 lo lo2 k w <;> rfl
  | q + 1, k, w, u, I, hk, hw, hI => by
    rw [zct_sm, Nat.pow_succ, Nat.mul_comm (8 ^ q) 8, zsm_8]
    have h1 : ∀ y, y < 8 → zsm (fun v => if zMok n2 lo lo2 n (w + 8 ^ k * (y + 8 * v)) = true then 1 else 0) (8 ^ q) = if zMok n2 lo lo2 k w = true then (if (zCho false n2 lo (zTr n lo) lo2 (zTr n2 lo2) I k u k).testBit y then zFc false n2 lo (zTr n lo) lo2 (zTr n2 lo2) q (k + 1) (u ||| 1 <<< y) (zupd I k y) else 0) else 0 := fun y hy => by
      have hwy : w + 8 ^ k * y < 8 ^ (k + 1) := by
        have : 8 ^ k * (y + 1) ≤ 8 ^ k * 8 := Nat.mul_le_mul_left _ hy
        rw [Nat.mul_succ] at this
        rw [Nat.pow_succ]
        omega
      have hI2 : ∀ j, j < k + 1 → zupd I k y j = zDig (w + 8 ^ k * y) j := fun j hj => by
        by_cases e : j = k
        · have := zDig_at (v := 0) hw hy
          rw [Nat.mul_zero, Nat.add_zero] at this
          rw [e, zupd_at, this]
        · rw [zupd_ne _ _ e, zDig_lo (by omega), hI j (by omega)]
      have ih := zmaps_q hP hP2 q (k + 1) (w + 8 ^ k * y) (u ||| 1 <<< y) (zupd I k y) (by omega) hwy hI2
      rw [zct_sm, zMok_s hP hP2 (u := u) (by omega) hw hy hI] at ih
      have e : ∀ v, w + 8 ^ k * (y + 8 * v) = w + 8 ^ k * y + 8 ^ (k + 1) * v := fun v => by rw [Nat.mul_add, Nat.pow_succ, Nat.mul_assoc, Nat.add_assoc]
      simp only [e]
      rw [ih]
      cases zMok n2 lo lo2 k w <;> cases (zCho false n2 lo (zTr n lo) lo2 (zTr n2 lo2) I k u k).testBit y <;> rfl
    rw [zsm_cong h1]
    cases e : zMok n2 lo lo2 k w with
    | false => exact zsm_0.mpr (fun y _ => rfl)
    | true =>
      show zsm (fun y => if (zCho false n2 lo (zTr n lo) lo2 (zTr n2 lo2) I k u k).testBit y then _ else 0) 8 = zFc false n2 lo (zTr n lo) lo2 (zTr n2 lo2) (q + 1) k u I
      rw [zFcF_s hP2.1]
      exact zsm_z hP2.1 (fun y h1 h2 => by rw [zChoF_bit, decide_eq_false (by omega)]; rfl)
def zMg (n n2 : Nat) (lo lo2 : Nat → Nat) (w : Nat) : Bool := zAl (fun i => decide (zDig w i < n2)) n && decide (zTear n lo lo2 w = 0)
theorem zmaps_eq (hP : zPre n lo) (hP2 : zPre n2 lo2) : zct (zMg n n2 lo lo2) (1 <<< (3 * n)) = zFc false n2 lo (zTr n lo) lo2 (zTr n2 lo2) n 0 0 (fun _ => 0) := by
  have h := zmaps_q hP hP2 n 0 0 0 (fun _ => 0) (by omega) (by decide) (fun j hj => absurd hj (Nat.not_lt_zero j))
  have e0 : zMok n2 lo lo2 0 0 = true := rfl
  rw [e0, if_pos rfl] at h
  rw [← h, Nat.one_shiftLeft, Nat.pow_mul]
  refine zct_cong (fun w _ => ?_)
  unfold zMg
  rw [zTear_0]
  show zMok n2 lo lo2 n w = zMok n2 lo lo2 n (0 + 8 ^ 0 * w)
  rw [Nat.pow_zero, Nat.one_mul, Nat.zero_add]
end ZMAP
