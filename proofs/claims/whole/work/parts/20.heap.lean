/-! heaps that hold a space of the class, exactly -/
def zsO (o n : Nat) : zC := .inr (7, [.int (nI n), .ref (o + 1), .ref (o + 2)])
def zSx (h : zH) (o n : Nat) (fl fh : Nat → Int32) : Prop := h.2.2 o = .inr (7, [.int (nI n), .ref (o + 1), .ref (o + 2)]) ∧ h.2.2 (o + 1) = .inl (0, 8, .inl fl) ∧ h.2.2 (o + 2) = .inl (0, 8, .inl fh)
def zeh (h : zH) (o n : Nat) (fl fh : Nat → Int32) : zH := zset (zset (zset h o (.inr (7, [.int (nI n), .ref (o + 1), .ref (o + 2)]))) (o + 1) (.inl (0, 8, .inl fl))) (o + 2) (.inl (0, 8, .inl fh))
section ZX
variable {h : zH} {o n m q : Nat} {fl fh gl gh : Nat → Int32}
theorem zeh_h : (zeh h o n fl fh).2.2 (o + 2) = .inl (0, 8, .inl fh) := zset_eq _ _ _
theorem zeh_l : (zeh h o n fl fh).2.2 (o + 1) = .inl (0, 8, .inl fl) := by
  unfold zeh
  rw [zset_ne _ _ (by omega), zset_eq]
theorem zeh_o : (zeh h o n fl fh).2.2 o = .inr (7, [.int (nI n), .ref (o + 1), .ref (o + 2)]) := by
  unfold zeh
  rw [zset_ne _ _ (by omega), zset_ne _ _ (by omega), zset_eq]
theorem zeh_ne {j : Nat} (h1 : j ≠ o) (h2 : j ≠ o + 1) (h3 : j ≠ o + 2) : (zeh h o n fl fh).2.2 j = h.2.2 j := by
  unfold zeh
  rw [zset_ne _ _ h3, zset_ne _ _ h2, zset_ne _ _ h1]
theorem zeh_ps : zset (zeh h o n fl fh) o (.inr (7, [.int (nI m), .ref (o + 1), .ref (o + 2)])) = zeh h o m fl fh := by
  unfold zeh
  rw [zset_comm _ _ _ (show o ≠ o + 2 by omega), zset_comm _ _ _ (show o ≠ o + 1 by omega), zset_set]
theorem zeh_pl : zset (zeh h o n fl fh) (o + 1) (.inl (0, 8, .inl gl)) = zeh h o n gl fh := by
  unfold zeh
  rw [zset_comm _ _ _ (show o + 1 ≠ o + 2 by omega), zset_set]
theorem zeh_ph : zset (zeh h o n fl fh) (o + 2) (.inl (0, 8, .inl gh)) = zeh h o n fl gh := by
  unfold zeh
  rw [zset_set]
theorem zSx.w (hS : zSx h o n fl fh) : zeh h o n fl fh = h := by
  unfold zeh
  rw [zset_self _ hS.1, zset_self _ hS.2.1, zset_self _ hS.2.2]
theorem zeh_x : zSx (zeh h o n fl fh) o n fl fh := ⟨zeh_o, zeh_l, zeh_h⟩
def zApart (o q : Nat) : Prop := o + 2 < q ∨ q + 2 < o
theorem zSx.ne (hS : zSx h q m gl gh) (ha : zApart o q) : zSx (zeh h o n fl fh) q m gl gh := by
  obtain ⟨h1, h2, h3⟩ := hS
  unfold zApart at ha
  exact ⟨by rw [zeh_ne (by omega) (by omega) (by omega)]; exact h1, by rw [zeh_ne (by omega) (by omega) (by omega)]; exact h2, by rw [zeh_ne (by omega) (by omega) (by omega)]; exact h3⟩
theorem zSx.sp {lo hi : Nat → Nat} (hS : zSx h o n fl fh) (hv : ∀ x, x < n → fl x = nI (lo x) ∧ fh x = nI (hi x)) : zSp h o n lo hi := ⟨hS.1, fl, fh, hS.2.1, hS.2.2, hv⟩
theorem zSp.x {lo hi : Nat → Nat} (hS : zSp h o n lo hi) : ∃ fl fh, zSx h o n fl fh ∧ ∀ x, x < n → fl x = nI (lo x) ∧ fh x = nI (hi x) := by
  obtain ⟨h1, fl, fh, h2, h3, h4⟩ := hS
  exact ⟨fl, fh, ⟨h1, h2, h3⟩, h4⟩
theorem zSp.ne {lo hi : Nat → Nat} (hS : zSp h q m lo hi) (ha : zApart o q) : zSp (zeh h o n fl fh) q m lo hi := by
  obtain ⟨gl, gh, hx, hv⟩ := hS.x
  exact (hx.ne ha).sp hv
theorem zble1 (h : 2 ≤ o) : Nat.ble 2 (o + 1) = true := Nat.ble_eq_true_of_le (by omega)
theorem zble2 (h : 2 ≤ o) : Nat.ble 2 (o + 2) = true := Nat.ble_eq_true_of_le (by omega)
end ZX
/-- F up to p, then f -/
def zcut (F f : Nat → Int32) (p : Nat) : Nat → Int32 := fun j => if j < p then F j else f j
theorem zcut_0 (F f : Nat → Int32) : zcut F f 0 = f := by funext j; simp [zcut]
theorem zcut_lt {F f : Nat → Int32} {p j : Nat} (h : j < p) : zcut F f p j = F j := if_pos h
theorem zcut_ge {F f : Nat → Int32} {p j : Nat} (h : p ≤ j) : zcut F f p j = f j := if_neg (by omega)
theorem zcut_up {F f : Nat → Int32} {p : Nat} {w : Int32} (e : F p = w) : upd (zcut F f p) p w = zcut F f (p + 1) := by
  subst e
  funext j
  by_cases h : j = p
  · subst h; simp [upd, zcut]
  · by_cases h2 : j < p
    · simp [upd, h, zcut, h2, show j < p + 1 by omega]
    · simp [upd, h, zcut, h2, show ¬ j < p + 1 by omega]
theorem zcut_same {F f : Nat → Int32} {p : Nat} (e : F p = f p) : zcut F f p = zcut F f (p + 1) := by
  funext j
  by_cases h : j = p
  · subst h; simp [zcut, e]
  · by_cases h2 : j < p
    · simp [zcut, h2, show j < p + 1 by omega]
    · simp [zcut, h2, show ¬ j < p + 1 by omega]
theorem upd_upd (f : Nat → Int32) (k : Nat) (x y : Int32) : upd (upd f k x) k y = upd f k y := by
  funext j
  by_cases h : j = k <;> simp [upd, h]
theorem upd_at (f : Nat → Int32) (k : Nat) (x : Int32) : upd f k x k = x := if_pos rfl
theorem upd_ne (f : Nat → Int32) {k j : Nat} (x : Int32) (h : j ≠ k) : upd f k x j = f j := if_neg h
section ZY
variable {d : Nat} {t : Nat → Option zI} {pc : Nat} {ls st : List Value} {h : zH} {r : zR → Prop} {nx a b c : Nat} {v : Value} {o n : Nat} {fl fh : Nat → Int32}
theorem zN_psz {x m : Nat} (hai : t pc = some (.putfield x, nx, 7, 0, c, v)) (K : zGoP d t nx ls st (zeh h o m fl fh) r) : zGoP d t pc ls (.int (nI m) :: .ref o :: st) (zeh h o n fl fh) r := by
  refine zN_put (fs' := [.int (nI m), .ref (o + 1), .ref (o + 2)]) hai zeh_o rfl rfl rfl ?_
  rw [zeh_ps]
  exact K
theorem zN_plo {k : Nat} {w : Int32} (hai : t pc = some (.iastore, nx, a, b, c, v)) (hk : k < 8) (ho : 2 ≤ o) (K : zGoP d t nx ls st (zeh h o n (upd fl k w) fh) r) : zGoP d t pc ls (.int w :: .int (nI k) :: .ref (o + 1) :: st) (zeh h o n fl fh) r := by
  refine zN_ast hai zeh_l hk (by omega) (zble1 ho) ?_
  rw [zeh_pl]
  exact K
theorem zN_phi {k : Nat} {w : Int32} (hai : t pc = some (.iastore, nx, a, b, c, v)) (hk : k < 8) (ho : 2 ≤ o) (K : zGoP d t nx ls st (zeh h o n fl (upd fh k w)) r) : zGoP d t pc ls (.int w :: .int (nI k) :: .ref (o + 2) :: st) (zeh h o n fl fh) r := by
  refine zN_ast hai zeh_h hk (by omega) (zble2 ho) ?_
  rw [zeh_ph]
  exact K
end ZY
