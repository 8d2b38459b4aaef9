/-! what the calls answer, and what becomes of the state -/
section ZQ
variable {d : Nat} {t : Nat → Option zI} {pc : Nat} {ls st : List Value} {h : zH} {r : zR → Prop} {nx a b c : Nat} {v : Value}
theorem zN_qa {o tt n b9 k i : Nat} (hai : t pc = some (.aaload, nx, a, b, c, v)) (hA : zQa h o (tt + 4) n b9 k) (hk : i < n) (hn : n < 2 ^ 31) (K : zGoP d t nx ls (.ref (b9 + k * i) :: st) h r) : zGoP d t pc ls (.int (nI i) :: .ref o :: st) h r := by
  obtain ⟨f, h2, h3⟩ := hA
  exact zN_qld hai h2 hk hn (h3 i hk) K
end ZQ
theorem zcs2 (x : Int32) : x = nI 0 ∨ x = nI 1 ∨ zin x 2 = false := by
  cases q : zin x 2 with
  | false => exact Or.inr (Or.inr (rfl))
  | true =>
    obtain ⟨j, hj, rfl⟩ := zin_of q (by decide)
    match j, hj with
    | 0, _ => exact Or.inl rfl
    | 1, _ => exact Or.inr (Or.inl rfl)
theorem zcs3 (x : Int32) : x = nI 0 ∨ x = nI 1 ∨ x = nI 2 ∨ zin x 3 = false := by
  cases q : zin x 3 with
  | false => exact Or.inr (Or.inr (Or.inr (rfl)))
  | true =>
    obtain ⟨j, hj, rfl⟩ := zin_of q (by decide)
    match j, hj with
    | 0, _ => exact Or.inl rfl
    | 1, _ => exact Or.inr (Or.inl rfl)
    | 2, _ => exact Or.inr (Or.inr (Or.inl rfl))
theorem zcs4 (x : Int32) : x = nI 0 ∨ x = nI 1 ∨ x = nI 2 ∨ x = nI 3 ∨ zin x 4 = false := by
  cases q : zin x 4 with
  | false => exact Or.inr (Or.inr (Or.inr (Or.inr (rfl))))
  | true =>
    obtain ⟨j, hj, rfl⟩ := zin_of q (by decide)
    match j, hj with
    | 0, _ => exact Or.inl rfl
    | 1, _ => exact Or.inr (Or.inl rfl)
    | 2, _ => exact Or.inr (Or.inr (Or.inl rfl))
    | 3, _ => exact Or.inr (Or.inr (Or.inr (Or.inl rfl)))
theorem zcs5 (x : Int32) : x = nI 0 ∨ x = nI 1 ∨ x = nI 2 ∨ x = nI 3 ∨ x = nI 4 ∨ zin x 5 = false := by
  cases q : zin x 5 with
  | false => exact Or.inr (Or.inr (Or.inr (Or.inr (Or.inr (rfl)))))
  | true =>
    obtain ⟨j, hj, rfl⟩ := zin_of q (by decide)
    match j, hj with
    | 0, _ => exact Or.inl rfl
    | 1, _ => exact Or.inr (Or.inl rfl)
    | 2, _ => exact Or.inr (Or.inr (Or.inl rfl))
    | 3, _ => exact Or.inr (Or.inr (Or.inr (Or.inl rfl)))
    | 4, _ => exact Or.inr (Or.inr (Or.inr (Or.inr (Or.inl rfl))))
theorem zcs6 (x : Int32) : x = nI 0 ∨ x = nI 1 ∨ x = nI 2 ∨ x = nI 3 ∨ x = nI 4 ∨ x = nI 5 ∨ zin x 6 = false := by
  cases q : zin x 6 with
  | false => exact Or.inr (Or.inr (Or.inr (Or.inr (Or.inr (Or.inr (rfl))))))
  | true =>
    obtain ⟨j, hj, rfl⟩ := zin_of q (by decide)
    match j, hj with
    | 0, _ => exact Or.inl rfl
    | 1, _ => exact Or.inr (Or.inl rfl)
    | 2, _ => exact Or.inr (Or.inr (Or.inl rfl))
    | 3, _ => exact Or.inr (Or.inr (Or.inr (Or.inl rfl)))
    | 4, _ => exact Or.inr (Or.inr (Or.inr (Or.inr (Or.inl rfl))))
    | 5, _ => exact Or.inr (Or.inr (Or.inr (Or.inr (Or.inr (Or.inl rfl)))))
theorem zcs7 (x : Int32) : x = nI 0 ∨ x = nI 1 ∨ x = nI 2 ∨ x = nI 3 ∨ x = nI 4 ∨ x = nI 5 ∨ x = nI 6 ∨ zin x 7 = false := by
  cases q : zin x 7 with
  | false => exact Or.inr (Or.inr (Or.inr (Or.inr (Or.inr (Or.inr (Or.inr (rfl)))))))
  | true =>
    obtain ⟨j, hj, rfl⟩ := zin_of q (by decide)
    match j, hj with
    | 0, _ => exact Or.inl rfl
    | 1, _ => exact Or.inr (Or.inl rfl)
    | 2, _ => exact Or.inr (Or.inr (Or.inl rfl))
    | 3, _ => exact Or.inr (Or.inr (Or.inr (Or.inl rfl)))
    | 4, _ => exact Or.inr (Or.inr (Or.inr (Or.inr (Or.inl rfl))))
    | 5, _ => exact Or.inr (Or.inr (Or.inr (Or.inr (Or.inr (Or.inl rfl)))))
    | 6, _ => exact Or.inr (Or.inr (Or.inr (Or.inr (Or.inr (Or.inr (Or.inl rfl))))))
def zSn (s : zST) (i : Nat) : Nat := (s.1 i).1
def zSl (s : zST) (i : Nat) : Nat → Nat := (s.1 i).2
def zo_points (s : zST) (a b : Int32) : Int32 × zST := zb s (zn a 6) fun i => zb s (zn b 9) fun m => (nI (s.1 i).1, zsSp s i m zDisc)
def zo_nest (s : zST) (a b c : Int32) : Int32 × zST := zb s (zn a 6) fun i => zb s (zn b (s.1 i).1) fun x => zb s (zn c (s.1 i).1) fun y => (nI (zNew (s.1 i).1 (s.1 i).2 x y), zsSp s i (s.1 i).1 (zNst (s.1 i).2 x y))
def zBeats (n : Nat) (lo hi : Nat → Nat) (x : Nat) : Nat := (if !zLk lo hi x (1 <<< n - 1) && zDn n lo hi x (1 <<< n - 1) then 1 else 0) + (if !zLk lo hi x (1 <<< n - 1) && zUp n lo hi x (1 <<< n - 1) then 2 else 0) + (if zMay n lo hi 4 x (1 <<< n - 1) then 4 else 0)
def zOf (n : Nat) (lo : Nat → Nat) (x : Nat) : Nat → Int32
  | 0 => nI (lo x)
  | 1 => nI (zTr n lo x)
  | 2 => nI (zHgt n lo (zTr n lo) x)
  | 3 => nI (lo x &&& zTr n lo x)
  | 4 => nI (zCmp n lo (zTr n lo) x)
  | _ => nI (zBeats n lo (zTr n lo) x)
def zo_of (s : zST) (a b c : Int32) : Int32 × zST := zb s (zn a 6) fun i => zb s (zn b (s.1 i).1) fun x => zb s (zn c 6) fun w => (zOf (s.1 i).1 (s.1 i).2 x w, s)
def zClo9 (n : Nat) (lo : Nat → Nat) (p : Nat) : Nat := zbits (fun x => decide (lo x &&& p ≠ 0)) n
def zAbout (n : Nat) (lo : Nat → Nat) (p : Nat) : Nat → Int32
  | 0 => nI (zIns n lo p)
  | 1 => nI (zClo9 n lo p)
  | 2 => nI (zan (zClo9 n lo p) (zIns n lo p))
  | _ => nI ((if zIns n lo p = p then 1 else 0) + (if zIns n lo (zan (1 <<< n - 1) p) = zan (1 <<< n - 1) p then 2 else 0))
def zo_about (s : zST) (a b c : Int32) : Int32 × zST := zb s (zn a 6) fun i => zb s (zn b (1 <<< (s.1 i).1)) fun p => zb s (zn c 4) fun w => (zAbout (s.1 i).1 (s.1 i).2 p w, s)
def zTold (n : Nat) (lo hi : Nat → Nat) : Nat → Int32
  | 0 => nI n
  | 1 => nI (zsm (fun x => zcnt (zan (lo x) (hi x))) n)
  | 2 => nI (zsm (fun x => zct (fun y => (zan (lo x) (hi x)).testBit y && decide (zan (lo x) (hi x) &&& zan (hi y) (lo y) = 0)) n) n)
  | 3 => nI (zct (fun p => !(zSeen n lo hi p).testBit p) n)
  | 4 => if n = 0 then -3 else nI (zmx (zHgt n lo hi) n)
  | 5 => nI (zct (fun s => decide (zIns n lo s = s)) (1 <<< n))
  | _ => nI (b2n (decide (zFst n lo hi = 1 <<< n - 1)))
def zo_told (s : zST) (a b : Int32) : Int32 × zST := zb s (zn a 6) fun i => zb s (zn b 7) fun w => (zTold (s.1 i).1 (s.1 i).2 (zTr (s.1 i).1 (s.1 i).2) w, s)
def zPath (n : Nat) (lo hi : Nat → Nat) (x y : Nat) : Int32 := if zfs (fun i => (zit (zWid n lo hi) i (1 <<< x)).testBit y) 8 < 8 then nI (zfs (fun i => (zit (zWid n lo hi) i (1 <<< x)).testBit y) 8) else -3
def zo_path (s : zST) (a b c : Int32) : Int32 × zST := zb s (zn a 6) fun i => zb s (zn b (s.1 i).1) fun x => zb s (zn c (s.1 i).1) fun y => (zPath (s.1 i).1 (s.1 i).2 (zTr (s.1 i).1 (s.1 i).2) x y, s)
def zo_may (s : zST) (a b c : Int32) : Int32 × zST := zb s (zn a 6) fun i => zb s (zn b 6) fun k => zb s (zn c (1 <<< (s.1 i).1)) fun p => (nI (zGoers (s.1 i).1 (s.1 i).2 (zTr (s.1 i).1 (s.1 i).2) k p), s)
def zo_price (s : zST) (a b c : Int32) : Int32 × zST := zb s (zn a 6) fun i => zb s (zn b 6) fun k => zb s (zn c (s.1 i).1) fun x => (nI (zPri (s.1 i).2 (zTr (s.1 i).1 (s.1 i).2) k x (1 <<< (s.1 i).1 - 1)), s)
def zLf (s : zST) (i k o : Nat) : Nat := zLeft (s.1 i).1 (s.1 i).2 (zTr (s.1 i).1 (s.1 i).2) k o
def zo_left (s : zST) (a b c : Int32) : Int32 × zST := zb s (zn a 6) fun i => zb s (zn b 6) fun k => zb s (zn c 4) fun o => (nI (zLf s i k o), s)
def zo_reduce (s : zST) (a b c e : Int32) : Int32 × zST := zb s (zn a 6) fun i => zb s (zn b 6) fun k => zb s (zn c 4) fun o => zb s (zn e 6) fun j => (nI (zPos (zLf s i k o) (s.1 i).1), zsSp s j (zPos (zLf s i k o) (s.1 i).1) (zPl (s.1 i).2 (zLf s i k o)))
/-- of the ends those that are the same as none ahead of them -/
def zSm2 (n : Nat) (lo : Nat → Nat) (p : Nat) (n2 : Nat) (lo2 : Nat → Nat) (p2 : Nat) : Bool := (zSame (zPos p n) (zPl lo p) (zPl (zTr n lo) p) (zPos p2 n2) (zPl lo2 p2) (zPl (zTr n2 lo2) p2)).isSome
def zUnl (n : Nat) (lo : Nat → Nat) (E : Nat → Nat) (m : Nat) : Nat := zct (fun i => zAl (fun j => !zSm2 n lo (E i) n lo (E j)) i) m
def zWays (n : Nat) (lo : Nat → Nat) (k : Nat) : Nat → Int32
  | 0 => nI (zW n lo (zTr n lo) k (1 <<< n)).2.2.2
  | 1 => nI (zW n lo (zTr n lo) k (1 <<< n)).2.2.1
  | 2 => nI (if 0 < (zW n lo (zTr n lo) k (1 <<< n)).2.2.1 then (zW n lo (zTr n lo) k (1 <<< n)).2.1 ((zW n lo (zTr n lo) k (1 <<< n)).2.2.1 - 1) else 0)
  | _ => nI (zUnl n lo (zW n lo (zTr n lo) k (1 <<< n)).2.1 (zW n lo (zTr n lo) k (1 <<< n)).2.2.1)
def zo_ways (s : zST) (a b c : Int32) : Int32 × zST := zb s (zn a 6) fun i => zb s (zn b 6) fun k => zb s (zn c 4) fun w => (zWays (s.1 i).1 (s.1 i).2 k w, s)
def zo_retract (s : zST) (a : Int32) : Int32 × zST := zb s (zn a 6) fun i => (nI (zMap (zRtr (s.1 i).1 (s.1 i).2 (zTr (s.1 i).1 (s.1 i).2) 8).2 (s.1 i).1), s)
def zo_homotopic (s : zST) (a b : Int32) : Int32 × zST := zb s (zn a 6) fun i => zb s (zn b 6) fun j => (nI (b2n (zSm2 (s.1 i).1 (s.1 i).2 (zLf s i 3 0) (s.1 j).1 (s.1 j).2 (zLf s j 3 0))), s)
theorem zLeft_lt {n : Nat} {lo hi : Nat → Nat} {k o : Nat} (hn : n ≤ 8) : zLeft n lo hi k o < 1 <<< n := by
  have h1 := zLSs_le n lo hi k o (1 <<< n - 1) 8
  have h2 := zpow_le hn
  show zit (zLS n lo hi k o) 8 (1 <<< n - 1) < 1 <<< n
  omega
