/-! specs: going, all orders of going, a retraction -/
theorem zGA.g {h0 h : zH} {g n : Nat} {lo hi : Nat → Nat} {ec : Int32} {rw en im : Nat → Int32} (hA : zGA h0 g n lo hi ec rw en im h) : ∃ fl fh fb fa ft sh : Nat → Int32, zG0 h g n ec fl fh fb fa ft sh rw en im := by
  obtain ⟨-, fl, fh, fb, fa, ft, sh, hG, -⟩ := hA
  exact ⟨fl, fh, fb, fa, ft, sh, hG⟩
theorem zGA.p_rw {h0 h : zH} {g n : Nat} {lo hi : Nat → Nat} {ec : Int32} {rw en im q : Nat → Int32} (hA : zGA h0 g n lo hi ec rw en im h) : zGA h0 g n lo hi ec q en im (zset h (g + 7) (.inl (0, 256, .inl q))) := by
  obtain ⟨hF, fl, fh, fb, fa, ft, sh, hG, hV, hM⟩ := hA
  exact ⟨hF.set (zgS_in (by omega)), fl, fh, fb, fa, ft, sh, hG.p_rw, hV, hM⟩
theorem zGA.p_en {h0 h : zH} {g n : Nat} {lo hi : Nat → Nat} {ec : Int32} {rw en im q : Nat → Int32} (hA : zGA h0 g n lo hi ec rw en im h) : zGA h0 g n lo hi ec rw q im (zset h (g + 8) (.inl (0, 256, .inl q))) := by
  obtain ⟨hF, fl, fh, fb, fa, ft, sh, hG, hV, hM⟩ := hA
  exact ⟨hF.set (zgS_in (by omega)), fl, fh, fb, fa, ft, sh, hG.p_en, hV, hM⟩
theorem zGA.p_im {h0 h : zH} {g n : Nat} {lo hi : Nat → Nat} {ec : Int32} {rw en im q : Nat → Int32} (hA : zGA h0 g n lo hi ec rw en im h) : zGA h0 g n lo hi ec rw en q (zset h (g + 9) (.inl (0, 8, .inl q))) := by
  obtain ⟨hF, fl, fh, fb, fa, ft, sh, hG, hV, hM⟩ := hA
  exact ⟨hF.set (zgS_in (by omega)), fl, fh, fb, fa, ft, sh, hG.p_im, hV, hM⟩
theorem zGA.p_ec {h0 h : zH} {g n : Nat} {lo hi : Nat → Nat} {ec e2 : Int32} {rw en im : Nat → Int32} (hA : zGA h0 g n lo hi ec rw en im h) : zGA h0 g n lo hi e2 rw en im (zset h g (.inr (3, [.int (nI n), .ref (g + 1), .ref (g + 2), .ref (g + 3), .ref (g + 4), .ref (g + 5), .ref (g + 6), .ref (g + 7), .ref (g + 8), .int e2, .ref (g + 9)]))) := by
  obtain ⟨hF, fl, fh, fb, fa, ft, sh, hG, hV, hM⟩ := hA
  exact ⟨hF.set (zgS_in (k := 0) (by omega)), fl, fh, fb, fa, ft, sh, hG.p_ec (m := 0), hV, hM⟩
/-- upon whom a point that goes is put -/
def zHost (n : Nat) (lo hi : Nat → Nat) (x s : Nat) : Nat :=
  if zfs (fun y => (zTw lo hi x &&& s).testBit y) n < n then zfs (fun y => (zTw lo hi x &&& s).testBit y) n
  else if zHold n lo (zBw lo hi x &&& s) < n then zHold n lo (zBw lo hi x &&& s) else zHold n hi (zAb lo hi x &&& s)
/-- a retraction: what is left, and where each point lies -/
def zRtr (n : Nat) (lo hi : Nat → Nat) : Nat → Nat × (Nat → Nat)
  | 0 => (1 <<< n - 1, fun p => p)
  | i + 1 => if zLB n lo hi (zRtr n lo hi i).1 < n then (zan (zRtr n lo hi i).1 (1 <<< zLB n lo hi (zRtr n lo hi i).1), fun p => if (zRtr n lo hi i).2 p = zLB n lo hi (zRtr n lo hi i).1 then zHost n lo hi (zLB n lo hi (zRtr n lo hi i).1) (zRtr n lo hi i).1 else (zRtr n lo hi i).2 p) else zRtr n lo hi i
def zMap (f : Nat → Nat) (n : Nat) : Nat := zor (fun x => f x <<< (3 * x)) n
theorem zRtr_fst (n : Nat) (lo hi : Nat → Nat) : ∀ i, (zRtr n lo hi i).1 = zit (zSt n lo hi) i (1 <<< n - 1)
  | 0 => rfl
  | i + 1 => by
    rw [zit, ← zRtr_fst n lo hi i, zSt, zRtr]
    split <;> rfl
theorem zRtr_lt (n : Nat) (lo hi : Nat → Nat) (i : Nat) : (zRtr n lo hi i).1 < 1 <<< n := by
  rw [zRtr_fst]
  have := zSts_le n lo hi (1 <<< n - 1) i
  have : 1 ≤ 1 <<< n := by rw [Nat.one_shiftLeft]; exact Nat.one_le_two_pow
  omega
theorem zHold_lt {n s : Nat} {f : Nat → Nat} : zHold n f s ≤ n := zfs_le _ _
/-- one that goes has a host -/
theorem zHost_lt {n s x : Nat} {lo hi : Nat → Nat} (hb : ∀ y, n ≤ y → s.testBit y = false) (h : zBt n lo hi x s = true) : zHost n lo hi x s < n := by
  unfold zHost
  split
  · assumption
  · next h1 =>
    split
    · assumption
    · next h2 =>
      unfold zBt zDn zUp zLk at h
      have e1 : zTw lo hi x &&& s = 0 := by
        apply zext; intro i
        rw [Nat.zero_testBit]
        rcases Nat.lt_or_ge i n with g | g
        · exact zfs_no (p := fun y => (zTw lo hi x &&& s).testBit y) (Nat.le_antisymm (zfs_le _ n) (Nat.not_lt.mp h1)) i g
        · rw [Nat.testBit_and, hb i g, Bool.and_false]
      rw [e1, decide_eq_false h2] at h
      simpa using h
theorem zLB_bt {n s : Nat} {lo hi : Nat → Nat} (h : zLB n lo hi s < n) : s.testBit (zLB n lo hi s) = true ∧ zBt n lo hi (zLB n lo hi s) s = true := by
  obtain ⟨h1, -⟩ := zfs_spec h
  change (s.testBit (zLB n lo hi s) && zBt n lo hi (zLB n lo hi s) s) = true at h1
  rw [Bool.and_eq_true] at h1
  exact h1
theorem zhigh {n s : Nat} (hs : s < 1 <<< n) : ∀ y, n ≤ y → s.testBit y = false := fun y hy => by
  rw [Nat.one_shiftLeft] at hs
  exact Nat.testBit_lt_two_pow (Nat.lt_of_lt_of_le hs (Nat.pow_le_pow_right (by omega) hy))
theorem zRtr_im {n : Nat} {lo hi : Nat → Nat} : ∀ i p, p < n → (zRtr n lo hi i).2 p < n
  | 0, p, h => h
  | i + 1, p, h => by
    have ih := zRtr_im (n := n) (lo := lo) (hi := hi) i p h
    rw [zRtr]
    split
    · next h1 =>
      show (if _ then _ else _) < n
      split
      · exact zHost_lt (zhigh (zRtr_lt n lo hi i)) (zLB_bt h1).2
      · exact ih
    · exact ih
/-! all orders of going: the rows, the ends -/
def zupd (f : Nat → Nat) (k v : Nat) : Nat → Nat := fun j => if j = k then v else f j
theorem zupd_at (f : Nat → Nat) (k v : Nat) : zupd f k v k = v := if_pos rfl
theorem zupd_ne (f : Nat → Nat) {k j : Nat} (v : Nat) (h : j ≠ k) : zupd f k v j = f j := if_neg h
/-- from one set on: its row is added to those of the sets that it becomes -/
def zWx (G s : Nat) (f : Nat → Nat) : Nat → (Nat → Nat)
  | 0 => f
  | x + 1 => if G.testBit x then zupd (zWx G s f x) (zan s (1 <<< x)) (zWx G s f x (zan s (1 <<< x)) + zWx G s f x s) else zWx G s f x
/-- who may go of a set that has been reached -/
def zWg (n : Nat) (lo hi : Nat → Nat) (k : Nat) (f : Nat → Nat) (s : Nat) : Nat := if f s = 0 then 0 else zGoers n lo hi k s
/-- behind j sets, from the whole one down: rows, ends, their number, the sum -/
def zW (n : Nat) (lo hi : Nat → Nat) (k : Nat) : Nat → (Nat → Nat) × (Nat → Nat) × Nat × Nat
  | 0 => (fun s => if s = 1 <<< n - 1 then 1 else 0, fun _ => 0, 0, 0)
  | j + 1 => let q := zW n lo hi k j; let s := 1 <<< n - 1 - j; let f := zWx (zWg n lo hi k q.1 s) s q.1 n
    if f s ≠ 0 ∧ zWg n lo hi k q.1 s = 0 then (f, zupd q.2.1 q.2.2.1 s, q.2.2.1 + 1, q.2.2.2 + f s) else (f, q.2)
theorem zWx_self {G s : Nat} {f : Nat → Nat} : ∀ {x : Nat}, (∀ y, G.testBit y = true → s.testBit y = true) → zWx G s f x s = f s
  | 0, _ => rfl
  | x + 1, h => by
    rw [zWx]
    split
    · next hx =>
      rw [zupd_ne, zWx_self h]
      intro e
      have := congrArg (fun z => z.testBit x) e
      simp [zan_bit, z1bit, h x hx] at this
    · exact zWx_self h
/-- how many of the sets with one point more have been passed -/
def zNb1 (s c : Nat) : Nat := zct (fun x => !s.testBit x && decide (c < s ||| 1 <<< x)) 8
theorem zcnt_more : ∀ s, s < 256 → ∀ x, x < 8 → s.testBit x = true → zcnt (zan s (1 <<< x)) = zcnt s - 1 ∧ zan s (1 <<< x) < s ∧ zan s (1 <<< x) ||| 1 <<< x = s := by decide +kernel
theorem zct_mono {c c' : Nat → Bool} : ∀ {n : Nat}, (∀ i, i < n → c i = true → c' i = true) → zct c n ≤ zct c' n
  | 0, _ => Nat.le_refl _
  | n + 1, h => by
    have h1 := zct_mono (n := n) (fun i hi => h i (by omega))
    have h2 := h n (by omega)
    simp only [zct, b2n]
    split <;> split <;> simp_all <;> omega
theorem zct_lt {c c' : Nat → Bool} : ∀ {n k : Nat}, k < n → (∀ i, i < n → c i = true → c' i = true) → c k = false → c' k = true → zct c n + 1 ≤ zct c' n
  | 0, k, hk, _, _, _ => absurd hk (Nat.not_lt_zero _)
  | n + 1, k, hk, h, h1, h2 => by
    by_cases e : k = n
    · subst e
      have := zct_mono (n := k) (fun i hi => h i (by omega))
      simp only [zct, b2n, h1, h2]
      simp
      omega
    · have := zct_lt (n := n) (k := k) (by omega) (fun i hi => h i (by omega)) h1 h2
      have h3 := h n (by omega)
      simp only [zct, b2n]
      split <;> split <;> simp_all <;> omega
theorem zGoers_in {n k s : Nat} {lo hi : Nat → Nat} : ∀ y, (zGoers n lo hi k s).testBit y = true → y < n ∧ s.testBit y = true := by
  intro y hy
  unfold zGoers at hy
  rw [zbits_bit] at hy
  simp only [Bool.and_eq_true, decide_eq_true_eq] at hy
  exact ⟨hy.1, hy.2.1⟩
theorem zct_add {a b c : Nat → Bool} : ∀ {n : Nat}, (∀ i, i < n → b2n (a i) + b2n (b i) ≤ b2n (c i)) → zct a n + zct b n ≤ zct c n
  | 0, _ => Nat.le_refl _
  | n + 1, h => by
    have h1 := zct_add (n := n) (fun i hi => h i (by omega))
    have h2 := h n (by omega)
    simp only [zct]
    omega
theorem zct_up (c : Nat → Bool) {n m : Nat} (h : n ≤ m) : zct c n ≤ zct c m := by
  induction m with
  | zero => rw [Nat.le_zero.mp h]; exact Nat.le_refl _
  | succ m ih =>
    rcases Nat.lt_or_ge n (m + 1) with g | g
    · have := ih (by omega)
      simp only [zct]
      omega
    · rw [Nat.le_antisymm h g]; exact Nat.le_refl _
/-- the bound of a row -/
def zBd (A : Nat) (f : Nat → Nat) (c : Nat) : Prop := f A = 1 ∧ ∀ s, s < 256 → s ≠ A → f s ≤ zNb1 s c * 8 ^ (7 - zcnt s)
theorem zNb1_le (s c : Nat) : zNb1 s c ≤ 8 := zct_le _ _
theorem zNb1_cnt (s c : Nat) : zNb1 s c + zcnt s ≤ 8 := by
  have : zNb1 s c + zcnt s ≤ zct (fun _ => true) 8 := zct_add (fun i _ => by
    generalize decide (c < s ||| 1 <<< i) = w
    cases w <;> cases s.testBit i <;> decide)
  have h2 : zct (fun _ => true) 8 = 8 := by decide
  omega
theorem zBd_c {A c : Nat} {f : Nat → Nat} (h : zBd A f c) (hA : A < 256) {s : Nat} (hs : s < 256) : f s ≤ 8 ^ (8 - zcnt s) := by
  by_cases e : s = A
  · rw [e, h.1]; exact Nat.pow_pos (by decide)
  · have h1 := h.2 s hs e
    have h2 := zNb1_cnt s c
    rcases Nat.eq_zero_or_pos (zNb1 s c) with h0 | h0
    · rw [h0, Nat.zero_mul] at h1; exact Nat.le_trans h1 (Nat.zero_le _)
    · refine Nat.le_trans h1 ?_
      rw [show 8 - zcnt s = (7 - zcnt s) + 1 by omega, Nat.pow_succ, Nat.mul_comm]
      exact Nat.mul_le_mul_left _ (zNb1_le s c)
theorem zBd_lt {A c : Nat} {f : Nat → Nat} (h : zBd A f c) (hA : A < 256) {s : Nat} (hs : s < 256) : f s < 2 ^ 31 := by
  have h1 := zBd_c h hA hs
  have : 8 ^ (8 - zcnt s) ≤ 8 ^ 8 := Nat.pow_le_pow_right (by decide) (Nat.sub_le _ _)
  have e : (8 : Nat) ^ 8 = 16777216 := by decide
  omega
theorem zBd_step {A c G : Nat} {f : Nat → Nat} (hA : A < 256) (hc : c ≤ A) (hG : ∀ y, G.testBit y = true → c.testBit y = true) (h : zBd A f c) : ∀ n, n ≤ 8 → zBd A (zWx G c f n) (c - 1) := by
  intro n hn
  have key : ∀ x, x ≤ 8 → zWx G c f x A = 1 ∧ ∀ t, t < 256 → t ≠ A → zWx G c f x t ≤ (zNb1 t c + zct (fun y => G.testBit y && decide (t = zan c (1 <<< y))) x) * 8 ^ (7 - zcnt t) := by
    intro x
    induction x with
    | zero => intro _; exact ⟨h.1, fun t ht hne => h.2 t ht hne⟩
    | succ x ih =>
      intro hx
      obtain ⟨i1, i2⟩ := ih (by omega)
      by_cases hb : G.testBit x = true
      · have hm := zcnt_more c (by omega) x (by omega) (hG x hb)
        have e : zWx G c f (x + 1) = zupd (zWx G c f x) (zan c (1 <<< x)) (zWx G c f x (zan c (1 <<< x)) + zWx G c f x c) := if_pos hb
        rw [e, zWx_self hG]
        refine ⟨by rw [zupd_ne _ _ (by omega)]; exact i1, fun t ht hne => ?_⟩
        by_cases et : t = zan c (1 <<< x)
        · subst et
          rw [zupd_at, zct, hb, decide_eq_true rfl]
          have h1 := i2 _ ht hne
          have h2 := zBd_c h hA (s := c) (by omega)
          have hp := zcnt_pos (s := c) (by omega) (hG x hb)
          have e7 : 8 - zcnt c = 7 - zcnt (zan c (1 <<< x)) := by omega
          rw [e7] at h2
          have e8 : b2n (true && true) = 1 := rfl
          rw [e8, ← Nat.add_assoc, Nat.succ_mul]
          exact Nat.add_le_add h1 h2
        · rw [zupd_ne _ _ et, zct, decide_eq_false et, Bool.and_false]
          exact i2 t ht hne
      · have e : zWx G c f (x + 1) = zWx G c f x := if_neg hb
        have hb : G.testBit x = false := by simpa using hb
        rw [e]
        refine ⟨i1, fun t ht hne => ?_⟩
        rw [zct, hb, Bool.false_and]
        exact i2 t ht hne
  obtain ⟨k1, k2⟩ := key n hn
  refine ⟨k1, fun s hs hne => Nat.le_trans (k2 s hs hne) (Nat.mul_le_mul_right _ ?_)⟩
  refine Nat.le_trans (Nat.add_le_add_left (zct_up _ hn) _) (zct_add (fun i hi => ?_))
  by_cases hb : G.testBit i = true
  · by_cases es : s = zan c (1 <<< i)
    · have hm := zcnt_more c (by omega) i hi (hG i hb)
      have h1 : s.testBit i = false := by rw [es, zan_bit, z1bit]; simp
      have hp : 0 < c := by
        rcases Nat.eq_zero_or_pos c with g | g
        · have := hG i hb; rw [g, Nat.zero_testBit] at this; cases this
        · exact g
      rw [h1, hb, es, hm.2.2, decide_eq_false (Nat.lt_irrefl c), decide_eq_true (show c - 1 < c by omega)]
      simp [b2n]
    · rw [decide_eq_false es, Bool.and_false]
      have : decide (c < s ||| 1 <<< i) = true → decide (c - 1 < s ||| 1 <<< i) = true := by simp; omega
      revert this
      generalize decide (c < s ||| 1 <<< i) = u
      generalize decide (c - 1 < s ||| 1 <<< i) = w
      cases u <;> cases w <;> cases s.testBit i <;> simp [b2n]
  · have hb : G.testBit i = false := by simpa using hb
    rw [hb, Bool.false_and]
    have : decide (c < s ||| 1 <<< i) = true → decide (c - 1 < s ||| 1 <<< i) = true := by simp; omega
    revert this
    generalize decide (c < s ||| 1 <<< i) = u
    generalize decide (c - 1 < s ||| 1 <<< i) = w
    cases u <;> cases w <;> cases s.testBit i <;> simp [b2n]
theorem zWg_in {n k s : Nat} {lo hi f : Nat → Nat} : ∀ y, (zWg n lo hi k f s).testBit y = true → s.testBit y = true := by
  intro y hy
  unfold zWg at hy
  split at hy
  · rw [Nat.zero_testBit] at hy; cases hy
  · exact (zGoers_in y hy).2
theorem zW_bd {n k : Nat} {lo hi : Nat → Nat} (hn : n ≤ 8) : ∀ j, j < 1 <<< n → zBd (1 <<< n - 1) (zW n lo hi k j).1 (1 <<< n - 1 - j)
  | 0, _ => by
    refine ⟨if_pos rfl, fun s _ hne => ?_⟩
    show (if s = 1 <<< n - 1 then 1 else 0) ≤ _
    rw [if_neg hne]
    exact Nat.zero_le _
  | j + 1, hj => by
    have h := zW_bd (n := n) (k := k) (lo := lo) (hi := hi) hn j (by omega)
    have hp := zpow_le hn
    have h2 := zBd_step (G := zWg n lo hi k (zW n lo hi k j).1 (1 <<< n - 1 - j)) (by omega) (by omega) zWg_in h n hn
    rw [show 1 <<< n - 1 - (j + 1) = 1 <<< n - 1 - j - 1 by omega]
    rw [zW]
    split <;> exact h2
theorem zW_ec (n : Nat) (lo hi : Nat → Nat) (k : Nat) : ∀ j, (zW n lo hi k j).2.2.1 ≤ j
  | 0 => Nat.le_refl _
  | j + 1 => by
    have := zW_ec n lo hi k j
    rw [zW]
    split
    · exact Nat.succ_le_succ this
    · exact Nat.le_succ_of_le this
theorem zbv_dec {c : Nat} : nI c + (-1) = zbv c := by
  unfold zbv
  split
  · next e => subst e; rfl
  · next e =>
    obtain ⟨k, rfl⟩ : ∃ k, c = k + 1 := ⟨c - 1, by omega⟩
    rw [← nI_add, Nat.add_sub_cancel, Int32.add_assoc, show nI 1 + (-1 : Int32) = 0 from rfl, Int32.add_zero]
