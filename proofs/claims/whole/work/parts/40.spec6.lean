/-! acts: what they answer, and which bodies run -/
def zgo0 (o x : Int32) : Int32 × List Nat := (x * nI 3 + o, [10])
def zgo1 (o x : Int32) : Int32 × List Nat := ((zgo0 o x).1 * nI 2, [20, 10])
def zgo4 (o x : Int32) : Int32 × List Nat := ((zgo1 o x).1 - nI 5, [50, 20, 10])
def zgo5 (o x : Int32) : Int32 × List Nat := ((zgo0 o x).1 ^^^ nI 12, [60, 10])
def zGoK (k : Nat) (o x : Int32) : Int32 × List Nat := if k = 0 ∨ k = 2 then zgo0 o x else if k = 1 ∨ k = 3 then zgo1 o x else if k = 4 then zgo4 o x else zgo5 o x
def zpa0 (w : Nat) (x : Int32) : Int32 × List Nat := ((zGoK w (nI w) x).1 - nI 2, 11 :: (zGoK w (nI w) x).2)
def zpa2 (w : Nat) (x : Int32) : Int32 × List Nat := ((zpa0 w x).1 + nI 7, 30 :: (zpa0 w x).2)
def zpa5 (w : Nat) (x : Int32) : Int32 × List Nat := ((zpa2 w x).1 - (zGoK w (nI w) (nI 2)).1, 61 :: (zpa2 w x).2 ++ (zGoK w (nI w) (nI 2)).2)
def zPaK (k w : Nat) (x : Int32) : Int32 × List Nat := if k = 2 then zpa2 w x else if k = 5 then zpa5 w x else zpa0 w x
def zte0 (w : Nat) (x : Int32) : Int32 × List Nat := ((zPaK w w x).1 ^^^ (zGoK w (nI w) (nI w)).1, 12 :: (zPaK w w x).2 ++ (zGoK w (nI w) (nI w)).2)
def zte2 (w : Nat) (x : Int32) : Int32 × List Nat := (-(zte0 w x).1, 31 :: (zte0 w x).2)
def zte3 (w : Nat) (x : Int32) : Int32 × List Nat := ((zte0 w (x + nI 1)).1, 40 :: (zte0 w (x + nI 1)).2)
def zte4 (w : Nat) (x : Int32) : Int32 × List Nat := ((zte3 w x).1 + (zPaK w w (nI 1)).1, 51 :: (zte3 w x).2 ++ (zPaK w w (nI 1)).2)
def zTeK (k w : Nat) (x : Int32) : Int32 × List Nat := if k = 2 ∨ k = 5 then zte2 w x else if k = 3 then zte3 w x else if k = 4 then zte4 w x else zte0 w x
theorem zGoK_len (k : Nat) (o x : Int32) : (zGoK k o x).2.length ≤ 3 := by
  unfold zGoK
  split
  · show 1 ≤ 3; omega
  · split
    · show 2 ≤ 3; omega
    · split
      · show 3 ≤ 3; omega
      · show 2 ≤ 3; omega
theorem zPaK_len (k w : Nat) (x : Int32) : (zPaK k w x).2.length ≤ 9 := by
  have h1 := zGoK_len w (nI w) x
  have h2 := zGoK_len w (nI w) (nI 2)
  unfold zPaK
  split
  · simp only [zpa2, zpa0, List.length_cons]; omega
  · split
    · simp only [zpa5, zpa2, zpa0, List.length_cons, List.length_append]; omega
    · simp only [zpa0, List.length_cons]; omega
theorem zTeK_len (k w : Nat) (x : Int32) : (zTeK k w x).2.length ≤ 26 := by
  have h1 := zGoK_len w (nI w) (nI w)
  have h2 := zPaK_len w w x
  have h3 := zPaK_len w w (x + nI 1)
  have h4 := zPaK_len w w (nI 1)
  unfold zTeK
  split
  · simp only [zte0, zte2, List.length_cons, List.length_append]; omega
  · split
    · simp only [zte0, zte3, List.length_cons, List.length_append]; omega
    · split
      · simp only [zte0, zte3, zte4, List.length_cons, List.length_append]; omega
      · simp only [zte0, List.length_cons, List.length_append]; omega
/-- the class' Acts -/
def zaS (o : Nat) : Nat → Prop := fun j => o ≤ j ∧ j ≤ o + 1
def zAc (h0 : zH) (o : Nat) (w : Int32) (L : List Nat) (h : zH) : Prop := zFr (zaS o) h0 h ∧ h.2.2 o = .inr (0, [.ref (o + 1), .int (nI L.length), .int w]) ∧ ∃ tr : Nat → Int32, h.2.2 (o + 1) = .inl (0, 30, .inl tr) ∧ ∀ i, i < L.length → tr i = nI (L.getD i 0)
theorem zapp_get {L : List Nat} {b i : Nat} (h : i < L.length) : (L ++ [b]).getD i 0 = L.getD i 0 := by
  simp [List.getD_eq_getElem?_getD, List.getElem?_append, h]
theorem zapp_last {L : List Nat} {b : Nat} : (L ++ [b]).getD L.length 0 = b := by
  simp [List.getD_eq_getElem?_getD, List.getElem?_append]
/-- which kinds stand under which -/
def zAbv (k : Nat) : Nat := if k = 5 then 2 else if k = 4 then 3 else if k = 3 then 1 else 0
def zUnd (k t : Nat) : Bool := decide (t ∈ (if k = 5 then [5, 2, 0] else if k = 4 then [4, 3, 1, 0] else if k = 3 then [3, 1, 0] else if k = 2 then [2, 0] else if k = 1 then [1, 0] else [0]))
theorem zTeK_3 (w : Nat) (x : Int32) : zTeK 3 w x = zte3 w x := by unfold zTeK; rw [if_neg (by decide), if_pos rfl]
theorem zTeK_4 (w : Nat) (x : Int32) : zTeK 4 w x = zte4 w x := by unfold zTeK; rw [if_neg (by decide), if_neg (by decide), if_pos rfl]
theorem zTeK_1 (w : Nat) (x : Int32) : zTeK 1 w x = zte0 w x := by unfold zTeK; rw [if_neg (by decide), if_neg (by decide), if_neg (by decide)]
theorem zTeK_0 (w : Nat) (x : Int32) : zTeK 0 w x = zte0 w x := by unfold zTeK; rw [if_neg (by decide), if_neg (by decide), if_neg (by decide)]
