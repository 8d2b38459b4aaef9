/-! ranks: two ways to reduce rows of bits find one rank -/
def zSpn (B : Nat → Nat) : Nat → Nat → Prop
  | 0, w => w = 0
  | r + 1, w => zSpn B r w ∨ zSpn B r (w ^^^ B r)
section ZSPN
variable {B B' : Nat → Nat} {t : Nat → Nat → Bool} {p : Nat → Nat}
theorem zx_as (a b c : Nat) : (a ^^^ b) ^^^ c = a ^^^ (b ^^^ c) := zext (fun i => by
  simp only [Nat.testBit_xor]
  cases a.testBit i <;> cases b.testBit i <;> cases c.testBit i <;> rfl)
theorem zx_co (a b : Nat) : a ^^^ b = b ^^^ a := zext (fun i => by
  simp only [Nat.testBit_xor]
  cases a.testBit i <;> cases b.testBit i <;> rfl)
theorem zx_se (a : Nat) : a ^^^ a = 0 := zext (fun i => by
  rw [Nat.testBit_xor, Nat.zero_testBit]
  cases a.testBit i <;> rfl)
theorem zx_0 (a : Nat) : a ^^^ 0 = a := zext (fun i => by
  rw [Nat.testBit_xor, Nat.zero_testBit]
  cases a.testBit i <;> rfl)
theorem zx_2 (a b : Nat) : (a ^^^ b) ^^^ b = a := by rw [zx_as, zx_se, zx_0]
theorem zSpn_z : ∀ r, zSpn B r 0
  | 0 => rfl
  | r + 1 => Or.inl (zSpn_z r)
theorem zSpn_x : ∀ {r a b}, zSpn B r a → zSpn B r b → zSpn B r (a ^^^ b)
  | 0, a, b, h1, h2 => by
    have h1 : a = 0 := h1
    have h2 : b = 0 := h2
    rw [h1, h2]; rfl
  | r + 1, a, b, h1, h2 => by
    rcases h1 with h1 | h1 <;> rcases h2 with h2 | h2
    · exact Or.inl (zSpn_x h1 h2)
    · refine Or.inr ?_
      rw [zx_as]; exact zSpn_x h1 h2
    · refine Or.inr ?_
      rw [zx_co a b, zx_as, zx_co]; exact zSpn_x h1 h2
    · refine Or.inl ?_
      have := zSpn_x h1 h2
      rwa [zx_co b (B r), ← zx_as, zx_2] at this
theorem zSpn_b : ∀ {r i}, i < r → zSpn B r (B i)
  | r + 1, i, h => by
    by_cases e : i = r
    · rw [e]
      refine Or.inr ?_
      rw [zx_se]; exact zSpn_z r
    · exact Or.inl (zSpn_b (by omega))
theorem zSpn_cg : ∀ {r w}, (∀ i, i < r → B i = B' i) → (zSpn B r w ↔ zSpn B' r w)
  | 0, w, _ => Iff.rfl
  | r + 1, w, h => by
    rw [zSpn, zSpn, zSpn_cg (fun i hi => h i (by omega)), zSpn_cg (w := w ^^^ B r) (fun i hi => h i (by omega)), h r (by omega)]
def zRdg (t : Nat → Nat → Bool) (B : Nat → Nat) : Nat → Nat → Nat
  | 0, w => w
  | i + 1, w => if t (zRdg t B i w) (B i) then zRdg t B i w ^^^ B i else zRdg t B i w
theorem zRdg_sp : ∀ {r w}, zSpn B r (zRdg t B r w ^^^ w)
  | 0, w => zx_se w
  | r + 1, w => by
    rw [zRdg]
    split
    · refine Or.inr ?_
      rw [zx_as, zx_co w, ← zx_as, zx_2]
      exact zRdg_sp
    · exact Or.inl zRdg_sp
theorem zRdg_lt {b : Nat} : ∀ {r w}, (∀ i, i < r → B i < 2 ^ b) → w < 2 ^ b → zRdg t B r w < 2 ^ b
  | 0, _, _, hw => hw
  | r + 1, w, hB, hw => by
    have ih := zRdg_lt (r := r) (fun i hi => hB i (by omega)) hw
    rw [zRdg]
    split
    · exact Nat.xor_lt_two_pow ih (hB r (by omega))
    · exact ih
theorem zRdg_cg : ∀ {r w}, (∀ i, i < r → B i = B' i) → zRdg t B r w = zRdg t B' r w
  | 0, _, _ => rfl
  | r + 1, w, h => by rw [zRdg, zRdg, zRdg_cg (fun i hi => h i (by omega)), h r (by omega)]
/-- each row has a bit that is asked for -/
def zPv (t : Nat → Nat → Bool) (p : Nat → Nat) : Prop := ∀ b, b ≠ 0 → b < 2 ^ 64 → b.testBit (p b) = true ∧ ∀ a, t a b = a.testBit (p b)
/-- and lacks those of the rows ahead of it -/
def zBg (p : Nat → Nat) (B : Nat → Nat) (r : Nat) : Prop := ∀ i, i < r → B i ≠ 0 ∧ B i < 2 ^ 64 ∧ ∀ j, j < r → i < j → (B j).testBit (p (B i)) = false
theorem zBg.dn {r : Nat} (h : zBg p B (r + 1)) : zBg p B r := fun i hi => ⟨(h i (by omega)).1, (h i (by omega)).2.1, fun j hj hij => (h i (by omega)).2.2 j (by omega) hij⟩
theorem zRdg_no (hp : zPv t p) : ∀ {r w}, zBg p B r → ∀ i, i < r → (zRdg t B r w).testBit (p (B i)) = false
  | 0, _, _, i, hi => absurd hi (Nat.not_lt_zero i)
  | r + 1, w, h, i, hi => by
    have ih := zRdg_no hp (r := r) (w := w) h.dn
    have hr := h r (by omega)
    obtain ⟨q1, q2⟩ := hp (B r) hr.1 hr.2.1
    rw [zRdg, q2]
    by_cases e : i = r
    · rw [e]
      split
      · next g => rw [Nat.testBit_xor, g, q1]; rfl
      · next g => simpa using g
    · have h1 := ih i (by omega)
      have h2 := (h i (by omega)).2.2 r (by omega) (by omega)
      split
      · rw [Nat.testBit_xor, h1, h2]; rfl
      · exact h1
theorem zSpn_0 (hp : zPv t p) : ∀ {r w}, zBg p B r → zSpn B r w → (∀ i, i < r → w.testBit (p (B i)) = false) → w = 0
  | 0, _, _, h, _ => h
  | r + 1, w, hB, h, hn => by
    rcases h with h | h
    · exact zSpn_0 hp hB.dn h (fun i hi => hn i (by omega))
    · have hr := hB r (by omega)
      have h0 : w ^^^ B r = 0 := zSpn_0 hp hB.dn h (fun i hi => by rw [Nat.testBit_xor, hn i (by omega), (hB i (by omega)).2.2 r (by omega) hi]; rfl)
      have hw : w = B r := by rw [← zx_2 w (B r), h0, zx_co, zx_0]
      have h1 := hn r (by omega)
      rw [hw, (hp (B r) hr.1 hr.2.1).1] at h1
      cases h1
theorem zRdg_0 (hp : zPv t p) {r w : Nat} (hB : zBg p B r) : zRdg t B r w = 0 ↔ zSpn B r w := by
  constructor
  · intro h
    have h1 := zRdg_sp (t := t) (B := B) (r := r) (w := w)
    rwa [h, zx_co, zx_0] at h1
  · intro h
    refine zSpn_0 hp hB ?_ (zRdg_no hp hB)
    have h1 := zSpn_x (zRdg_sp (t := t) (B := B) (r := r) (w := w)) h
    rwa [zx_2] at h1
/-- one row more -/
theorem zBg.up (hp : zPv t p) {r w : Nat} (hB : zBg p B r) (hw : w < 2 ^ 64) (h0 : zRdg t B r w ≠ 0) : zBg p (zupd B r (zRdg t B r w)) (r + 1) := fun i hi => by
  by_cases e : i = r
  · rw [e, zupd_at]
    exact ⟨h0, zRdg_lt (fun i hi => (hB i hi).2.1) hw, fun j hj hij => absurd hij (by omega)⟩
  · rw [zupd_ne _ _ e]
    refine ⟨(hB i (by omega)).1, (hB i (by omega)).2.1, fun j hj hij => ?_⟩
    by_cases e2 : j = r
    · rw [e2, zupd_at]; exact zRdg_no hp hB i (by omega)
    · rw [zupd_ne _ _ e2]; exact (hB i (by omega)).2.2 j (by omega) hij
theorem zSpn_up {r w u : Nat} : zSpn (zupd B r (zRdg t B r w)) (r + 1) u ↔ (zSpn B r u ∨ zSpn B r (u ^^^ w)) := by
  have hc : ∀ v, zSpn (zupd B r (zRdg t B r w)) r v ↔ zSpn B r v := fun v => zSpn_cg (fun i hi => zupd_ne _ _ (by omega))
  have hs := zRdg_sp (t := t) (B := B) (r := r) (w := w)
  rw [zSpn, hc, hc, zupd_at]
  refine or_congr Iff.rfl ⟨fun h => ?_, fun h => ?_⟩
  · have := zSpn_x h hs
    rwa [zx_as, ← zx_as (zRdg t B r w), zx_se, zx_co 0, zx_0] at this
  · have := zSpn_x h hs
    rwa [zx_as, zx_co w, zx_2] at this
end ZSPN
/-- the lowest bit of a row -/
def zLo9 (b : Nat) : Nat := zfs (fun i => b.testBit i) 64
theorem zLo9_spec {b : Nat} (h0 : b ≠ 0) (hb : b < 2 ^ 64) : zLo9 b < 64 ∧ b.testBit (zLo9 b) = true ∧ ∀ j, j < zLo9 b → b.testBit j = false := by
  have h1 : zLo9 b < 64 := by
    refine Classical.byContradiction (fun g => h0 (zext (fun i => ?_)))
    rw [Nat.zero_testBit]
    have h2 := zfs_le (fun i => b.testBit i) 64
    by_cases hi : i < 64
    · exact zfs_no (show zfs (fun i => b.testBit i) 64 = 64 by unfold zLo9 at g; omega) i hi
    · exact Nat.testBit_lt_two_pow (Nat.lt_of_lt_of_le hb (Nat.pow_le_pow_right (by decide) (by omega)))
  exact ⟨h1, zfs_spec h1⟩
theorem zLb_bit {b i : Nat} (h0 : b ≠ 0) (hb : b < 2 ^ 64) : (zLb b).testBit i = decide (i = zLo9 b) := by
  obtain ⟨h1, h2, h3⟩ := zLo9_spec h0 hb
  generalize zLo9 b = q at *
  have e1 : b % 2 ^ q = 0 := zext (fun i => by
    rw [Nat.testBit_mod_two_pow, Nat.zero_testBit]
    by_cases g : i < q
    · rw [h3 i g, Bool.and_false]
    · rw [decide_eq_false g, Bool.false_and])
  have e2 : b / 2 ^ q % 2 = 1 := by
    have := h2
    rw [Nat.testBit_eq_decide_div_mod_eq] at this
    exact of_decide_eq_true this
  have hb2 : b = 2 ^ (q + 1) * (b / 2 ^ q / 2) + 2 ^ q := by
    have a1 := Nat.div_add_mod b (2 ^ q)
    have a2 := Nat.div_add_mod (b / 2 ^ q) 2
    rw [e1, Nat.add_zero] at a1
    rw [e2] at a2
    rw [Nat.pow_succ, Nat.mul_assoc]
    have a3 : 2 ^ q * (b / 2 ^ q) = 2 ^ q * (2 * (b / 2 ^ q / 2) + 1) := by rw [a2]
    rw [Nat.mul_add, Nat.mul_one] at a3
    omega
  generalize b / 2 ^ q / 2 = m at hb2
  have hq : 0 < 2 ^ q := Nat.two_pow_pos q
  have t1 : ∀ j, b.testBit j = if j < q + 1 then (2 ^ q).testBit j else m.testBit (j - (q + 1)) := fun j => by
    rw [hb2, Nat.testBit_two_pow_mul_add _ (by rw [Nat.pow_succ]; omega)]
  have t2 : ∀ j, (b - 1).testBit j = if j < q + 1 then (2 ^ q - 1).testBit j else m.testBit (j - (q + 1)) := fun j => by
    rw [hb2, show 2 ^ (q + 1) * m + 2 ^ q - 1 = 2 ^ (q + 1) * m + (2 ^ q - 1) by omega, Nat.testBit_two_pow_mul_add _ (by rw [Nat.pow_succ]; omega)]
  have t3 : (2 ^ 64 - b).testBit i = (decide (i < 64) && !(b - 1).testBit i) := by
    have := Nat.testBit_two_pow_sub_succ (x := b - 1) (n := 64) (by omega) i
    rwa [show b - 1 + 1 = b by omega] at this
  unfold zLb
  rw [Nat.testBit_and, t3, t1 i, t2 i]
  by_cases g : i < q + 1
  · rw [if_pos g, if_pos g, Nat.testBit_two_pow, Nat.testBit_two_pow_sub_one, decide_eq_true (show i < 64 by omega)]
    by_cases g2 : i = q
    · rw [decide_eq_true g2, decide_eq_true g2.symm, decide_eq_false (show ¬ i < q by omega)]; rfl
    · rw [decide_eq_false g2, decide_eq_false (fun e => g2 e.symm)]; rfl
  · rw [if_neg g, if_neg g, decide_eq_false (show ¬ i = q by omega)]
    cases m.testBit (i - (q + 1)) <;> simp
/-- the class' way -/
def zT1 (a b : Nat) : Bool := !decide (a &&& zLb b = 0)
theorem zPv1 : zPv zT1 zLo9 := fun b h0 hb => by
  refine ⟨(zLo9_spec h0 hb).2.1, fun a => ?_⟩
  have hb1 := fun i => zLb_bit (i := i) h0 hb
  unfold zT1
  cases e : a.testBit (zLo9 b) with
  | true =>
    rw [decide_eq_false (fun g => ?_)]; rfl
    have h := congrArg (fun z => z.testBit (zLo9 b)) g
    simp only [Nat.testBit_and, Nat.zero_testBit, e, hb1] at h
    simp at h
  | false =>
    rw [decide_eq_true (zext (fun i => ?_))]; rfl
    rw [Nat.testBit_and, Nat.zero_testBit, hb1]
    by_cases g : i = zLo9 b
    · rw [g, e]; rfl
    · rw [decide_eq_false g, Bool.and_false]
theorem zRed_g {B : Nat → Nat} : ∀ {r w}, zRed B r w = zRdg zT1 B r w
  | 0, _ => rfl
  | r + 1, w => by
    rw [zRed, zRdg, zRed_g, show zT1 (zRdg zT1 B r w) (B r) = !decide (zRdg zT1 B r w &&& zLb (B r) = 0) from rfl]
    by_cases g : zRdg zT1 B r w &&& zLb (B r) = 0
    · rw [if_pos g, decide_eq_true g]; rfl
    · rw [if_neg g, decide_eq_false g]; rfl
theorem zlt_tb : ∀ (i n m : Nat), n.testBit i = false → m.testBit i = true → (∀ j, i < j → n.testBit j = m.testBit j) → n < m
  | 0, n, m, h1, h2, h3 => by
    have e : n / 2 = m / 2 := zext (fun j => by
      have := h3 (j + 1) (by omega)
      rwa [Nat.testBit_succ, Nat.testBit_succ] at this)
    rw [Nat.testBit_zero] at h1 h2
    have h1 := of_decide_eq_false h1
    have h2 := of_decide_eq_true h2
    omega
  | i + 1, n, m, h1, h2, h3 => by
    rw [Nat.testBit_succ] at h1 h2
    have h := zlt_tb i (n / 2) (m / 2) h1 h2 (fun j hj => by
      have := h3 (j + 1) (by omega)
      rwa [Nat.testBit_succ, Nat.testBit_succ] at this)
    omega
/-- the highest bit of a row -/
def zHi9 (b : Nat) : Nat := 63 - zfs (fun j => b.testBit (63 - j)) 64
theorem zHi9_spec {b : Nat} (h0 : b ≠ 0) (hb : b < 2 ^ 64) : b.testBit (zHi9 b) = true ∧ ∀ j, zHi9 b < j → b.testBit j = false := by
  have h64 : ∀ i, 64 ≤ i → b.testBit i = false := fun i hi => Nat.testBit_lt_two_pow (Nat.lt_of_lt_of_le hb (Nat.pow_le_pow_right (by decide) hi))
  have h1 : zfs (fun j => b.testBit (63 - j)) 64 < 64 := by
    refine Classical.byContradiction (fun g => h0 (zext (fun i => ?_)))
    rw [Nat.zero_testBit]
    have h2 := zfs_le (fun j => b.testBit (63 - j)) 64
    by_cases hi : i < 64
    · have := zfs_no (show zfs (fun j => b.testBit (63 - j)) 64 = 64 by omega) (63 - i) (by omega)
      rwa [show 63 - (63 - i) = i by omega] at this
    · exact h64 i (by omega)
  obtain ⟨a1, a2⟩ := zfs_spec h1
  refine ⟨a1, fun j hj => ?_⟩
  unfold zHi9 at hj
  by_cases g : j < 64
  · have := a2 (63 - j) (by omega)
    rwa [show 63 - (63 - j) = j by omega] at this
  · exact h64 j (by omega)
/-- the reference's way -/
def zT2 (a b : Nat) : Bool := decide (a ^^^ b < a)
theorem zPv2 : zPv zT2 zHi9 := fun b h0 hb => by
  obtain ⟨h1, h2⟩ := zHi9_spec h0 hb
  refine ⟨h1, fun a => ?_⟩
  have hs : ∀ j, zHi9 b < j → (a ^^^ b).testBit j = a.testBit j := fun j hj => by rw [Nat.testBit_xor, h2 j hj, Bool.xor_false]
  have ht : (a ^^^ b).testBit (zHi9 b) = !a.testBit (zHi9 b) := by rw [Nat.testBit_xor, h1, Bool.xor_true]
  unfold zT2
  cases e : a.testBit (zHi9 b) with
  | true => exact decide_eq_true (zlt_tb (zHi9 b) _ _ (by rw [ht, e]; rfl) e hs)
  | false =>
    have h3 : a < a ^^^ b := zlt_tb (zHi9 b) _ _ e (by rw [ht, e]; rfl) (fun j hj => (hs j hj).symm)
    exact decide_eq_false (by omega)
/-- the reference's rows, and their rank -/
def zRw2 (C : Nat → Nat) (k s : Nat) (q : Nat × (Nat → Nat)) : Nat := if 1 ≤ s ∧ C s = k + 1 then zRdg zT2 q.2 q.1 (zBnd (zPlc C k) s) else 0
def zR2 (C : Nat → Nat) (k : Nat) : Nat → Nat × (Nat → Nat)
  | 0 => (0, fun _ => 0)
  | s + 1 => let q := zR2 C k s; let w := zRw2 C k s q; if w = 0 then q else (q.1 + 1, zupd q.2 q.1 w)
theorem zR2_s {C : Nat → Nat} {k s : Nat} (h : zRw2 C k s (zR2 C k s) = 0) : zR2 C k (s + 1) = zR2 C k s := if_pos h
theorem zR2_a {C : Nat → Nat} {k s : Nat} (h : zRw2 C k s (zR2 C k s) ≠ 0) : zR2 C k (s + 1) = ((zR2 C k s).1 + 1, zupd (zR2 C k s).2 (zR2 C k s).1 (zRw2 C k s (zR2 C k s))) := if_neg h
theorem zRk_two {C : Nat → Nat} {k : Nat} (hc : zClo C k) (hn : zNum C k ≤ 63) : ∀ s, s ≤ 256 → (zR2 C k s).1 = (zRk C k s).1 ∧ zBg zLo9 (zRk C k s).2 (zRk C k s).1 ∧ zBg zHi9 (zR2 C k s).2 (zR2 C k s).1 ∧ ∀ w, zSpn (zRk C k s).2 (zRk C k s).1 w ↔ zSpn (zR2 C k s).2 (zR2 C k s).1 w
  | 0, _ => ⟨rfl, fun i hi => absurd hi (Nat.not_lt_zero i), fun i hi => absurd hi (Nat.not_lt_zero i), fun w => Iff.rfl⟩
  | s + 1, hs => by
    obtain ⟨h1, h2, h3, h4⟩ := zRk_two hc hn s (by omega)
    by_cases g : 1 ≤ s ∧ C s = k + 1
    · have hb : zBnd (zPlc C k) s < 2 ^ 64 := zBnd_lt (fun x hx hbx => by
        obtain ⟨-, a2, a3, a4⟩ := hc s (by omega) g.2 x hbx
        have := zPlc_lt a2 a3 a4
        omega)
      have e1 : zRkw C k s (zRk C k s) = zRdg zT1 (zRk C k s).2 (zRk C k s).1 (zBnd (zPlc C k) s) := by rw [zRkw, if_pos g, zRed_g]
      have e2 : zRw2 C k s (zR2 C k s) = zRdg zT2 (zR2 C k s).2 (zR2 C k s).1 (zBnd (zPlc C k) s) := by rw [zRw2, if_pos g]
      have hz : zRkw C k s (zRk C k s) = 0 ↔ zRw2 C k s (zR2 C k s) = 0 := by rw [e1, e2, zRdg_0 zPv1 h2, zRdg_0 zPv2 h3, h4]
      by_cases e : zRkw C k s (zRk C k s) = 0
      · rw [zRk_s e, zR2_s (hz.mp e)]; exact ⟨h1, h2, h3, h4⟩
      · have e9 := fun c => e (hz.mpr c)
        rw [zRk_a e, zR2_a e9, e1, e2]
        rw [e1] at e
        rw [e2] at e9
        refine ⟨by rw [h1], h2.up zPv1 hb e, h3.up zPv2 hb e9, fun w => ?_⟩
        show zSpn (zupd (zRk C k s).2 (zRk C k s).1 _) ((zRk C k s).1 + 1) w ↔ zSpn (zupd (zR2 C k s).2 (zR2 C k s).1 _) ((zR2 C k s).1 + 1) w
        rw [zSpn_up, zSpn_up, h4, h4]
    · have e1 : zRkw C k s (zRk C k s) = 0 := by rw [zRkw, if_neg g]
      have e2 : zRw2 C k s (zR2 C k s) = 0 := by rw [zRw2, if_neg g]
      rw [zRk_s e1, zR2_s e2]; exact ⟨h1, h2, h3, h4⟩
