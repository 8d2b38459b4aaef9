/-! what the calls answer: sameness, maps, chains -/
def zb1 (s : zST) (x : Int32) (n : Nat) (k : Nat → Int32 × zST) : Int32 × zST := zb s (zn x n) fun i => if i = 0 then (-1, s) else k i
theorem zb1_no {s : zST} {x : Int32} {n : Nat} {k : Nat → Int32 × zST} (h : zin x n = false ∨ x = nI 0) : zb1 s x n k = (-1, s) := by
  unfold zb1
  rcases h with h | h
  · rw [zb_no h]
  · subst h
    cases e : zin (nI 0) n with
    | false => rw [zb_no e]
    | true =>
      rw [zn, e, if_pos rfl, nI_cl (by decide)]
      rfl
theorem zb1_i {s : zST} {i n : Nat} {k : Nat → Int32 × zST} (h : i < n) (h0 : 1 ≤ i) (hn : n < 2 ^ 31) : zb1 s (nI i) n k = k i := by
  unfold zb1
  rw [zb_i h hn, if_neg (by omega)]
theorem zraw1_lt {x : Int32} {n : Nat} (h : zc2 .lt x (nI 1) = true) : zin x n = false ∨ x = nI 0 := by
  have h : x < nI 1 := of_decide_eq_true h
  by_cases g : x < 0
  · exact Or.inl (zraw_lt0 (decide_eq_true g))
  · obtain ⟨j, hj, rfl⟩ := nI_of g
    have := (nI_ltI hj (by decide)).mp h
    have : j = 0 := by omega
    subst this
    exact Or.inr rfl
theorem zraw1_gt {x : Int32} {n : Nat} (hn : n + 1 < 2 ^ 31) (h : zc2 .gt x (nI n) = true) : zin x (n + 1) = false ∨ x = nI 0 := Or.inl (zraw_gt hn h)
theorem zraw1_nle {x : Int32} {n : Nat} (hn : n + 1 < 2 ^ 31) (h : zc2 .le x (nI n) = false) : zin x (n + 1) = false ∨ x = nI 0 := Or.inl (zraw_nle hn h)
theorem zraw1_ge {x : Int32} (h0 : zc2 .lt x (nI 1) = false) : zc1 .lt x = false := by
  have h0 : ¬ x < nI 1 := of_decide_eq_false h0
  refine decide_eq_false (fun g => h0 ?_)
  have a := Int32.lt_iff_toInt_lt.mp g
  refine Int32.lt_iff_toInt_lt.mpr ?_
  have e1 : (0 : Int32).toInt = 0 := by decide
  have e2 : (nI 1).toInt = 1 := by decide
  omega
theorem zraw1_p {x : Int32} {n : Nat} (hn : n < 2 ^ 31) (h0 : zc2 .lt x (nI 1) = false) (h : zin x n = true) : ∃ j : Nat, j < n ∧ 1 ≤ j ∧ x = nI j := by
  obtain ⟨j, hj, rfl⟩ := zin_of h hn
  have h0 : ¬ nI j < nI 1 := of_decide_eq_false h0
  refine ⟨j, hj, ?_, rfl⟩
  refine Classical.byContradiction (fun g => h0 ((nI_ltI (by omega) (by decide)).mpr (by omega)))
theorem zraw1_in {x : Int32} {n : Nat} (hn : n + 1 < 2 ^ 31) (h0 : zc2 .lt x (nI 1) = false) (h : zc2 .gt x (nI n) = false) : ∃ j : Nat, j < n + 1 ∧ 1 ≤ j ∧ x = nI j := zraw1_p hn h0 (zraw_in2 hn (zraw1_ge h0) h)
theorem zraw1_le {x : Int32} {n : Nat} (hn : n + 1 < 2 ^ 31) (h0 : zc2 .lt x (nI 1) = false) (h : zc2 .le x (nI n) = true) : ∃ j : Nat, j < n + 1 ∧ 1 ≤ j ∧ x = nI j := zraw1_p hn h0 (zraw_le hn (zraw1_ge h0) h)
def zSameO (n : Nat) (lo : Nat → Nat) (n2 : Nat) (lo2 : Nat → Nat) : Option (Nat → Nat) := zSame (zPos (1 <<< n - 1) n) (zPl lo (1 <<< n - 1)) (zPl (zTr n lo) (1 <<< n - 1)) (zPos (1 <<< n2 - 1) n2) (zPl lo2 (1 <<< n2 - 1)) (zPl (zTr n2 lo2) (1 <<< n2 - 1))
def zSameI (n : Nat) (lo : Nat → Nat) (n2 : Nat) (lo2 : Nat → Nat) (x : Nat) : Int32 := match zSameO n lo n2 lo2 with
  | some J => nI (J x)
  | none => -3
def zo_same (s : zST) (a b c : Int32) : Int32 × zST := zb s (zn a 6) fun i => zb s (zn b 6) fun j => if c = -1 then (nI (zRenum (s.1 i).1 (s.1 i).2 (zTr (s.1 i).1 (s.1 i).2) (s.1 j).1 (s.1 j).2 (zTr (s.1 j).1 (s.1 j).2)), s) else zb s (zn c (s.1 i).1) fun x => (zSameI (s.1 i).1 (s.1 i).2 (s.1 j).1 (s.1 j).2 x, s)
def zo_form (s : zST) (a : Int32) : Int32 × zST := zb s (zn a 6) fun i => if 5 < (s.1 i).1 then (-1, s) else (nI (zFm (s.1 i).1 (s.1 i).2 (zFac (s.1 i).1)).1, s)
def zo_byCode (s : zST) (a b c : Int32) : Int32 × zST := zb s (zn a 6) fun i => zb s (zn b 6) fun n => zb s (zn c (zE9 n)) fun w => if zVal n w then (nI (s.1 i).1, zsSp s i n (zDl n w)) else (-1, s)
def zList9 (n : Nat) : Nat → Int32
  | 0 => nI (zLs n (zE9 n)).1
  | 1 => nI (zLs n (zE9 n)).2.1
  | 2 => nI (zLs n (zE9 n)).2.2.length
  | _ => nI (zPlSum (zLs n (zE9 n)).2.2)
def zo_list (s : zST) (a b : Int32) : Int32 × zST := zb s (zn a 5) fun n => zb s (zn b 4) fun w => (zList9 n w, s)
def zListed (n p i w : Nat) : Int32 := if zPlAt (zLs n (zE9 n)).2.2 p i < (zLs n (zE9 n)).2.2.length then nI (if w = 0 then ((zLs n (zE9 n)).2.2.getD (zPlAt (zLs n (zE9 n)).2.2 p i) (0, 0, 0)).1 else ((zLs n (zE9 n)).2.2.getD (zPlAt (zLs n (zE9 n)).2.2 p i) (0, 0, 0)).2.1) else -3
def zo_listed (s : zST) (a b c e : Int32) : Int32 × zST := zb s (zn a 5) fun n => zb s (zn b 2) fun p => if c < 0 then (-1, s) else zb s (zn e 2) fun w => (zListed n p c.toNatClampNeg w, s)
def zo_tears (s : zST) (a b c : Int32) : Int32 × zST := zb s (zn a 6) fun i => zb s (zn b 6) fun j => if zMp (s.1 i).1 (s.1 j).1 c then (nI (zTear (s.1 i).1 (s.1 i).2 (s.1 j).2 c.toNatClampNeg), s) else (-1, s)
def zo_maps (s : zST) (a b : Int32) : Int32 × zST := zb s (zn a 6) fun i => zb s (zn b 6) fun j => if 5 < (s.1 i).1 then (-1, s) else (nI (zFc false (s.1 j).1 (s.1 i).2 (zTr (s.1 i).1 (s.1 i).2) (s.1 j).2 (zTr (s.1 j).1 (s.1 j).2) (s.1 i).1 0 0 (fun _ => 0)), s)
theorem zFd_ex (M a : Nat) (g : Nat → Bool) (nr : Nat → Nat → Bool) (b : Nat) : ∃ w, zFd M a g nr b w := by
  have mn : ∀ j, zLv M a g nr j b = true → ∃ i, zMn M a g nr i b := by
    intro j
    induction j with
    | zero => exact fun h => ⟨0, h, fun i hi => absurd hi (Nat.not_lt_zero i)⟩
    | succ j ih =>
      intro h
      cases e1 : zLv M a g nr j b with
      | true => exact ih e1
      | false =>
        refine ⟨j + 1, h, fun i hi => ?_⟩
        cases e2 : zLv M a g nr i b with
        | false => rfl
        | true => rw [zLv_le e2 (show i ≤ j by omega)] at e1; cases e1
  by_cases q : ∃ j, zLv M a g nr j b = true
  · obtain ⟨j, hj⟩ := q
    obtain ⟨i, hi⟩ := mn j hj
    exact ⟨nI i, Or.inl ⟨i, hi, rfl⟩⟩
  · refine ⟨-3, Or.inr ⟨fun j => ?_, rfl⟩⟩
    cases e : zLv M a g nr j b with
    | false => rfl
    | true => exact absurd ⟨j, e⟩ q
noncomputable def zFdW (M a : Nat) (g : Nat → Bool) (nr : Nat → Nat → Bool) (b : Nat) : Int32 := Classical.choose (zFd_ex M a g nr b)
theorem zFdW_eq {M a b : Nat} {g : Nat → Bool} {nr : Nat → Nat → Bool} {w : Int32} (h : zFd M a g nr b w) : zFdW M a g nr b = w := zFd_un (Classical.choose_spec (zFd_ex M a g nr b)) h
noncomputable def zo_fence (s : zST) (a b c e : Int32) : Int32 × zST := zb s (zn a 6) fun i => zb s (zn b 6) fun j => if 3 < (s.1 i).1 then (-1, s) else if zWh (s.1 i).1 (s.1 j).1 (s.1 i).2 (s.1 j).2 c && zWh (s.1 i).1 (s.1 j).1 (s.1 i).2 (s.1 j).2 e then (zFdW (1 <<< (3 * (s.1 i).1)) c.toNatClampNeg (zGd (s.1 i).1 (s.1 j).1 (s.1 i).2 (s.1 j).2) (zNr (s.1 i).1 (s.1 j).2 (zTr (s.1 j).1 (s.1 j).2)) e.toNatClampNeg, s) else (-1, s)
def zo_fixed (s : zST) (a c : Int32) : Int32 × zST := zb s (zn a 6) fun i => if zWh (s.1 i).1 (s.1 i).1 (s.1 i).2 (s.1 i).2 c then (nI (zbits (fun x => decide (zDig c.toNatClampNeg x = x)) (s.1 i).1), s) else (-1, s)
def zCh9 (s : zST) (i : Nat) : Nat → Nat := zCc (s.1 i).1 (s.1 i).2 (zTr (s.1 i).1 (s.1 i).2)
def zo_chains (s : zST) (a b : Int32) : Int32 × zST := zb s (zn a 6) fun i => zb1 s b 9 fun k => (nI (zNum (zCh9 s i) k), s)
def zEulI (C : Nat → Nat) : Nat → Int32
  | 0 => nI 1000
  | k + 1 => zEulI C k + (if (k + 1) % 2 = 1 then nI (zNum C (k + 1)) else -(nI (zNum C (k + 1))))
def zo_euler (s : zST) (a : Int32) : Int32 × zST := zb s (zn a 6) fun i => (zEulI (zCh9 s i) 8, s)
def zo_holes (s : zST) (a b : Int32) : Int32 × zST := zb s (zn a 6) fun i => zb s (zn b 8) fun k => if 7 < (s.1 i).1 then (-1, s) else (nI (zNum (zCh9 s i) (k + 1)) - nI (zRkC (zCh9 s i) k) - nI (zRkC (zCh9 s i) (k + 1)), s)
def zStl (s : zST) (C : Nat → Nat) (j : Nat) : Int32 × zST := if 8 < zTot C then (-2, s) else (nI (zFk C 8).1, zsSp s j (zFk C 8).1 (zSubL (zFk C 8).1 (zFk C 8).2))
def zo_divide (s : zST) (a b : Int32) : Int32 × zST := zb s (zn a 6) fun i => zb s (zn b 6) fun j => zStl s (zCh9 s i) j
def zo_faces (s : zST) (a b c e : Int32) : Int32 × zST := zb s (zn a 4) fun i => zb1 s c 9 fun n => zb s (zn e 6) fun j =>
  if (s.2.2.2.2.1 i).1 = 0 then (-11, s) else if (s.2.2.2.2.1 i).1 ≠ 2 then (-13, s) else if zInr (s.2.2.2.2.1 i).2.1 b (nI n) = false then (-12, s)
  else if zAl (fun k => zin ((s.2.2.2.2.1 i).2.2 (b.toNatClampNeg + k) - nI 1) 15) n then zStl s (zFcC (fun k => ((s.2.2.2.2.1 i).2.2 (b.toNatClampNeg + k)).toNatClampNeg) n) j else (-1, s)
theorem zm1_lt {n : Nat} (hn : n < 2 ^ 31) : (-1 : Int32) < nI n := by
  refine Int32.lt_iff_toInt_lt.mpr ?_
  have h0 := nI_pos hn
  have e0 : (0 : Int32).toInt = 0 := by decide
  have e1 : (-1 : Int32).toInt = -1 := by decide
  have h1 : ¬ (nI n).toInt < (0 : Int32).toInt := fun g => h0 (Int32.lt_iff_toInt_lt.mpr g)
  omega
theorem zs_lt {c : Int32} (h : zc2 .lt c (-1) = true) : c ≠ -1 ∧ ∀ n, zin c n = false := by
  have h : c < -1 := of_decide_eq_true h
  refine ⟨fun e => by subst e; exact absurd h (by decide), fun n => zraw_lt0 (decide_eq_true ?_)⟩
  have h1 := Int32.lt_iff_toInt_lt.mp h
  refine Int32.lt_iff_toInt_lt.mpr ?_
  have e0 : (0 : Int32).toInt = 0 := by decide
  have e1 : (-1 : Int32).toInt = -1 := by decide
  omega
theorem zs_ge {c : Int32} {n : Nat} (hn : n < 2 ^ 31) (h : zc2 .lt c (nI n) = false) : c ≠ -1 ∧ zin c n = false := by
  have h : ¬ c < nI n := of_decide_eq_false h
  refine ⟨fun e => by subst e; exact h (zm1_lt hn), ?_⟩
  cases q : zin c n with
  | false => rfl
  | true =>
    obtain ⟨j, hj, rfl⟩ := zin_of q hn
    exact absurd ((nI_ltI (by omega) hn).mpr hj) h
theorem zs_m1 {c : Int32} (h : zc2 .lt c (-1) = false) (h2 : zc1 .ge c = false) : c = -1 := by
  have h : ¬ c < -1 := of_decide_eq_false h
  have h2 : ¬ 0 ≤ c := of_decide_eq_false h2
  have e0 : (0 : Int32).toInt = 0 := by decide
  have e1 : (-1 : Int32).toInt = -1 := by decide
  have a : ¬ c.toInt < -1 := fun g => h (Int32.lt_iff_toInt_lt.mpr (by omega))
  have b : ¬ 0 ≤ c.toInt := fun g => h2 (Int32.le_iff_toInt_le.mpr (by omega))
  exact Int32.toInt_inj.mp (by omega)
theorem zs_in {c : Int32} {n : Nat} (hn : n < 2 ^ 31) (h : zc2 .lt c (nI n) = true) (h2 : zc1 .ge c = true) : ∃ x : Nat, x < n ∧ c = nI x := by
  have h2 : 0 ≤ c := of_decide_eq_true h2
  obtain ⟨j, hj, rfl⟩ := nI_of (Int32.not_lt.mpr h2)
  exact ⟨j, (nI_ltI hj hn).mp (of_decide_eq_true h), rfl⟩
theorem zPos_all {n : Nat} : ∀ m, m ≤ n → zPos (1 <<< n - 1) m = m
  | 0, _ => rfl
  | m + 1, h => by
    have ih := zPos_all (n := n) m (by omega)
    show zPos (1 <<< n - 1) m + b2n ((1 <<< n - 1).testBit m) = m + 1
    rw [ih, Nat.one_shiftLeft, Nat.testBit_two_pow_sub_one, decide_eq_true (by omega)]
    rfl
theorem znm1 {x : Nat} (hx : x < 2 ^ 31) : nI x ≠ -1 := fun e => by
  have := nI_pos hx
  rw [e] at this
  exact this (by decide)
theorem zWh_w {na nb : Nat} {la lb : Nat → Nat} {x : Int32} (hn : na ≤ 8) (h : zWh na nb la lb x = true) : ∃ w, w < 1 <<< (3 * na) ∧ w < 2 ^ 24 ∧ x = nI w ∧ x.toNatClampNeg = w ∧ zGd na nb la lb w = true := by
  have h2 := h
  unfold zWh at h
  rw [Bool.and_eq_true] at h
  obtain ⟨w, w1, w2, w3, w4, w5⟩ := zMp_w hn h.1
  exact ⟨w, w1, w2, w3, w4, by rw [zGd, ← w3]; exact h2⟩
