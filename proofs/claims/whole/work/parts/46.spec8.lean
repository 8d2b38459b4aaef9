/-! ranks: rows of bits -/
def zBnd (P : Nat → Nat) (s : Nat) : Nat := zor (fun x => if s.testBit x then 1 <<< P (zan s (1 <<< x)) else 0) 8
def zRed (B : Nat → Nat) : Nat → Nat → Nat
  | 0, w => w
  | i + 1, w => if zRed B i w &&& zLb (B i) = 0 then zRed B i w else zRed B i w ^^^ B i
def zPlc (C : Nat → Nat) (k s : Nat) : Nat := zct (fun t => decide (1 ≤ t) && decide (C t = k)) s
def zRkw (C : Nat → Nat) (k s : Nat) (q : Nat × (Nat → Nat)) : Nat := if 1 ≤ s ∧ C s = k + 1 then zRed q.2 q.1 (zBnd (zPlc C k) s) else 0
def zRk (C : Nat → Nat) (k : Nat) : Nat → Nat × (Nat → Nat)
  | 0 => (0, fun _ => 0)
  | s + 1 => let q := zRk C k s; let w := zRkw C k s q; if w = 0 then q else (q.1 + 1, zupd q.2 q.1 w)
def zRkC (C : Nat → Nat) (k : Nat) : Nat := if k < 1 then 0 else (zRk C k 256).1
theorem zor_ltb {f : Nat → Nat} {b : Nat} : ∀ {n : Nat}, (∀ x, x < n → f x < 2 ^ b) → zor f n < 2 ^ b
  | 0, _ => by show 0 < 2 ^ b; exact Nat.two_pow_pos b
  | n + 1, h => Nat.or_lt_two_pow (zor_ltb (fun x hx => h x (by omega))) (h n (by omega))
theorem zBnd_lt {P : Nat → Nat} {s : Nat} (hP : ∀ x, x < 8 → s.testBit x = true → P (zan s (1 <<< x)) < 64) : zBnd P s < 2 ^ 64 := by
  refine zor_ltb (fun x hx => ?_)
  split
  · next e => rw [Nat.one_shiftLeft]; exact Nat.pow_lt_pow_right (by decide) (hP x hx e)
  · exact Nat.two_pow_pos 64
theorem zRed_lt {B : Nat → Nat} : ∀ {r w : Nat}, (∀ i, i < r → B i < 2 ^ 64) → w < 2 ^ 64 → zRed B r w < 2 ^ 64
  | 0, _, _, hw => hw
  | r + 1, w, hB, hw => by
    have ih := zRed_lt (r := r) (fun i hi => hB i (by omega)) hw
    rw [zRed]
    split
    · exact ih
    · exact Nat.xor_lt_two_pow ih (hB r (by omega))
theorem zRed_cong {B B' : Nat → Nat} : ∀ {r w : Nat}, (∀ i, i < r → B i = B' i) → zRed B r w = zRed B' r w
  | 0, _, _ => rfl
  | r + 1, w, h => by rw [zRed, zRed, zRed_cong (fun i hi => h i (by omega)), h r (by omega)]
theorem zRk_le {C : Nat → Nat} {k : Nat} : ∀ s, (zRk C k s).1 ≤ zPlc C (k + 1) s
  | 0 => Nat.le_refl _
  | s + 1 => by
    have ih := zRk_le (C := C) (k := k) s
    show (if zRkw C k s (zRk C k s) = 0 then zRk C k s else ((zRk C k s).1 + 1, zupd (zRk C k s).2 (zRk C k s).1 (zRkw C k s (zRk C k s)))).1 ≤ zPlc C (k + 1) s + b2n _
    split
    · omega
    · next e =>
      have : 1 ≤ s ∧ C s = k + 1 := by
        refine Classical.byContradiction (fun q => e ?_)
        rw [zRkw, if_neg q]
      show (zRk C k s).1 + 1 ≤ zPlc C (k + 1) s + b2n (decide (1 ≤ s) && decide (C s = k + 1))
      rw [decide_eq_true this.1, decide_eq_true this.2]
      exact Nat.succ_le_succ ih
theorem zRk_s {C : Nat → Nat} {k s : Nat} (h : zRkw C k s (zRk C k s) = 0) : zRk C k (s + 1) = zRk C k s := if_pos h
theorem zRk_a {C : Nat → Nat} {k s : Nat} (h : zRkw C k s (zRk C k s) ≠ 0) : zRk C k (s + 1) = ((zRk C k s).1 + 1, zupd (zRk C k s).2 (zRk C k s).1 (zRkw C k s (zRk C k s))) := if_neg h
theorem zPlc_up (C : Nat → Nat) (k : Nat) {s t : Nat} (h : s ≤ t) : zPlc C k s ≤ zPlc C k t := zct_up _ h
theorem zPlc_lt {C : Nat → Nat} {k s : Nat} (h1 : 1 ≤ s) (hs : s < 256) (hC : C s = k) : zPlc C k s < zNum C k := by
  have h2 := zPlc_up C k (show s + 1 ≤ 256 by omega)
  have h3 : zPlc C k (s + 1) = zPlc C k s + 1 := zct_yes (by rw [decide_eq_true h1, decide_eq_true hC]; rfl)
  show zPlc C k s < zPlc C k 256
  omega
/-- rows of chains are rows of bits -/
def zClo (C : Nat → Nat) (k : Nat) : Prop := ∀ s, s < 256 → C s = k + 1 → ∀ x, s.testBit x = true → x < 8 ∧ 1 ≤ zan s (1 <<< x) ∧ zan s (1 <<< x) < 256 ∧ C (zan s (1 <<< x)) = k
theorem zRk_lt {C : Nat → Nat} {k : Nat} (hc : zClo C k) (hn : zNum C k ≤ 63) : ∀ s, s ≤ 256 → ∀ i, (zRk C k s).2 i < 2 ^ 64
  | 0, _, _ => Nat.two_pow_pos 64
  | s + 1, hs, i => by
    have ih := zRk_lt hc hn s (by omega)
    by_cases e : zRkw C k s (zRk C k s) = 0
    · rw [zRk_s e]; exact ih i
    · rw [zRk_a e]
      show zupd _ _ _ i < 2 ^ 64
      unfold zupd
      split
      · unfold zRkw
        split
        · next g =>
          refine zRed_lt (fun i _ => ih i) (zBnd_lt (fun x hx hb => ?_))
          obtain ⟨h1, h2, h3, h4⟩ := hc s (by omega) g.2 x hb
          have := zPlc_lt h2 h3 h4
          omega
        · exact Nat.two_pow_pos 64
      · exact ih i
theorem zRkw_b {C : Nat → Nat} {k s : Nat} (hc : zClo C k) (hn : zNum C k ≤ 63) (hs : s < 256) : zRkw C k s (zRk C k s) < 2 ^ 64 := by
  have h := zRk_lt hc hn (s + 1) (by omega) (zRk C k s).1
  by_cases e : zRkw C k s (zRk C k s) = 0
  · rw [e]; exact Nat.two_pow_pos 64
  · rw [zRk_a e] at h
    show _ < 2 ^ 64
    have h : zupd (zRk C k s).2 (zRk C k s).1 (zRkw C k s (zRk C k s)) (zRk C k s).1 < 2 ^ 64 := h
    rwa [zupd_at] at h
/-- facets: sets of points that are in one of them -/
def zFc1 (F : Nat → Nat) (n s : Nat) : Bool := decide (1 ≤ s) && !zAl (fun j => !decide (zan s (F j) = 0)) n
def zFcC (F : Nat → Nat) (n s : Nat) : Nat := if zFc1 F n s then zcnt s else 0
theorem zFc1_s (F : Nat → Nat) (n s : Nat) : zFc1 F (n + 1) s = (zFc1 F n s || (decide (1 ≤ s) && decide (zan s (F n) = 0))) := by
  unfold zFc1
  rw [zAl]
  generalize zAl (fun j => !decide (zan s (F j) = 0)) n = A
  generalize decide (1 ≤ s) = D
  generalize decide (zan s (F n) = 0) = E
  cases A <;> cases D <;> cases E <;> rfl
theorem zan_sub_le {a b : Nat} (h : zan a b = 0) : a ≤ b := by
  have e : a = a &&& b := by
    apply zext; intro i
    have := congrArg (fun z => z.testBit i) h
    simp only [zan_bit, Nat.zero_testBit] at this
    rw [Nat.testBit_and]
    revert this
    cases a.testBit i <;> cases b.testBit i <;> simp
  rw [e]
  exact Nat.and_le_right
