/-! what the class' space reads answer -/
def zor (f : Nat → Nat) : Nat → Nat
  | 0 => 0
  | n + 1 => zor f n ||| f n
def zsm (f : Nat → Nat) : Nat → Nat
  | 0 => 0
  | n + 1 => zsm f n + f n
def zmx (f : Nat → Nat) : Nat → Nat
  | 0 => 0
  | n + 1 => max (zmx f n) (f n)
def zit (f : Nat → Nat) : Nat → Nat → Nat
  | 0, s => s
  | k + 1, s => f (zit f k s)
/-- the first below n, or n -/
def zfs (p : Nat → Bool) : Nat → Nat
  | 0 => 0
  | n + 1 => if zfs p n < n then zfs p n else if p n then n else n + 1
theorem zfs_le (p : Nat → Bool) : ∀ n, zfs p n ≤ n
  | 0 => Nat.le_refl _
  | n + 1 => by have := zfs_le p n; simp only [zfs]; split <;> (try split) <;> omega
theorem zfs_none {p : Nat → Bool} : ∀ {n : Nat}, (∀ j, j < n → p j = false) → zfs p n = n
  | 0, _ => rfl
  | n + 1, h => by
    have := zfs_none (p := p) (n := n) (fun j hj => h j (by omega))
    simp only [zfs, this, h n (by omega)]
    simp
theorem zfs_at {p : Nat → Bool} {i : Nat} : ∀ {n : Nat}, i < n → p i = true → (∀ j, j < i → p j = false) → zfs p n = i
  | 0, h, _, _ => absurd h (Nat.not_lt_zero _)
  | n + 1, h, hp, hj => by
    by_cases e : i = n
    · subst e
      have := zfs_none (p := p) (n := i) hj
      simp only [zfs, this, hp]
      simp
    · have := zfs_at (n := n) (by omega) hp hj
      simp only [zfs, this]
      rw [if_pos (by omega)]
def zLow (n : Nat) (lo hi : Nat → Nat) (s : Nat) : Nat := zbits (fun x => s.testBit x && decide (zan (lo x) (hi x) &&& s = 0)) n
def zRest (n : Nat) (lo hi : Nat → Nat) : Nat → Nat
  | 0 => 1 <<< n - 1
  | k + 1 => zan (zRest n lo hi k) (zLow n lo hi (zRest n lo hi k))
def zHgt (n : Nat) (lo hi : Nat → Nat) (x : Nat) : Nat := zfs (fun i => (zLow n lo hi (zRest n lo hi i)).testBit x) 8
def zWid (n : Nat) (lo hi : Nat → Nat) (s : Nat) : Nat := s ||| zor (fun x => if s.testBit x then lo x ||| hi x else 0) n
def zCmp (n : Nat) (lo hi : Nat → Nat) (x : Nat) : Nat := zit (zWid n lo hi) 8 (1 <<< x)
def zSeen (n : Nat) (lo hi : Nat → Nat) : Nat → Nat
  | 0 => 0
  | p + 1 => if (zSeen n lo hi p).testBit p then zSeen n lo hi p else zSeen n lo hi p ||| zCmp n lo hi p
theorem zpow_le {n : Nat} (h : n ≤ 8) : 1 ≤ 1 <<< n ∧ 1 <<< n ≤ 256 := by
  rw [Nat.one_shiftLeft]
  exact ⟨Nat.one_le_two_pow, Nat.pow_le_pow_right (by omega) (n := 2) (i := n) (j := 8) h⟩
theorem zRest_lt {n : Nat} (h : n ≤ 8) (lo hi : Nat → Nat) : ∀ k, zRest n lo hi k < 256
  | 0 => by have := zpow_le h; simp only [zRest]; omega
  | k + 1 => zan_lt _ (zRest_lt h lo hi k)
theorem zor_lt {f : Nat → Nat} : ∀ {n : Nat}, (∀ x, x < n → f x < 256) → zor f n < 256
  | 0, _ => by show 0 < 256; decide
  | n + 1, h => zor_lt8 (zor_lt (fun x hx => h x (by omega))) (h n (by omega))
theorem zWid_lt {n s : Nat} {lo hi : Nat → Nat} (hO : zOk n lo hi) (hs : s < 256) : zWid n lo hi s < 256 := by
  refine zor_lt8 hs (zor_lt (fun x hx => ?_))
  split
  · exact zor_lt8 (hO.2 x hx).1 (hO.2 x hx).2
  · decide
theorem zit_lt {n s : Nat} {lo hi : Nat → Nat} (hO : zOk n lo hi) (hs : s < 256) : ∀ k, zit (zWid n lo hi) k s < 256
  | 0 => hs
  | k + 1 => zWid_lt hO (zit_lt hO hs k)
theorem zCmp_lt {n x : Nat} {lo hi : Nat → Nat} (hO : zOk n lo hi) (hx : x < 8) : zCmp n lo hi x < 256 := zit_lt hO (zsh1_lt hx) 8
theorem zSeen_lt {n : Nat} {lo hi : Nat → Nat} (hO : zOk n lo hi) : ∀ p, p ≤ 8 → zSeen n lo hi p < 256
  | 0, _ => by show 0 < 256; decide
  | p + 1, h => by
    have := zSeen_lt hO p (by omega)
    simp only [zSeen]
    split
    · exact this
    · exact zor_lt8 this (zCmp_lt hO (by omega))
theorem zsm_le {f : Nat → Nat} {b : Nat} : ∀ {n : Nat}, (∀ x, x < n → f x ≤ b) → zsm f n ≤ n * b
  | 0, _ => by simp [zsm]
  | n + 1, h => by
    have := zsm_le (n := n) (fun x hx => h x (by omega))
    have := h n (by omega)
    simp only [zsm, Nat.succ_mul]
    omega
theorem zmx_le {f : Nat → Nat} {b : Nat} : ∀ {n : Nat}, (∀ x, x < n → f x ≤ b) → zmx f n ≤ b
  | 0, _ => by simp [zmx]
  | n + 1, h => by
    have := zmx_le (n := n) (fun x hx => h x (by omega))
    have := h n (by omega)
    simp only [zmx]
    omega
theorem zq_max {m nx a b : Nat} {v : Value} {ls st : List Value} {h : zH} : zstep (.invokestatic m, nx, a, b, 3, v) ls st h = zmax nx ls st h := rfl
theorem zq_min {m nx a b : Nat} {v : Value} {ls st : List Value} {h : zH} : zstep (.invokestatic m, nx, a, b, 4, v) ls st h = zmin nx ls st h := rfl
theorem zN_max {d : Nat} {t : Nat → Option zI} {pc : Nat} {ls st : List Value} {h : zH} {r : zR → Prop} {nx a b m : Nat} {v : Value} {x y : Nat} (hai : t pc = some (.invokestatic m, nx, a, b, 3, v)) (hx : x < 2 ^ 31) (hy : y < 2 ^ 31) (hr : Nat.ble st.length 4 = true) (K : zGoP d t nx ls (.int (nI (max x y)) :: st) h r) : zGoP d t pc ls (.int (nI y) :: .int (nI x) :: st) h r := by
  refine zG_s hai (pc' := nx) (ls' := ls) (st' := .int (nI (max x y)) :: st) (h' := h) ?_ K
  rw [zq_max]
  simp only [zmax, hr]
  by_cases e : x < y
  · rw [if_pos ((nI_ltI hx hy).mpr e), show max x y = y by omega]
  · rw [if_neg (fun g => e ((nI_ltI hx hy).mp g)), show max x y = x by omega]
theorem zN_min {d : Nat} {t : Nat → Option zI} {pc : Nat} {ls st : List Value} {h : zH} {r : zR → Prop} {nx a b m : Nat} {v : Value} {x y : Nat} (hai : t pc = some (.invokestatic m, nx, a, b, 4, v)) (hx : x < 2 ^ 31) (hy : y < 2 ^ 31) (hr : Nat.ble st.length 4 = true) (K : zGoP d t nx ls (.int (nI (min x y)) :: st) h r) : zGoP d t pc ls (.int (nI y) :: .int (nI x) :: st) h r := by
  refine zG_s hai (pc' := nx) (ls' := ls) (st' := .int (nI (min x y)) :: st) (h' := h) ?_ K
  rw [zq_min]
  simp only [zmin, hr]
  by_cases e : y < x
  · rw [if_pos ((nI_ltI hy hx).mpr e), show min x y = y by omega]
  · rw [if_neg (fun g => e ((nI_ltI hy hx).mp g)), show min x y = x by omega]
