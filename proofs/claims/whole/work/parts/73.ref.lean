/-! the reference: its heap -/
abbrev zRS : Type := (Nat → Int32) × (Nat → Nat → Int32) × (Nat → Nat → Int64)
def zRfd (I : Nat → Int32) (r : Nat) : List Value := [.ref (r + 1), .ref (r + 2), .ref (r + 3), .ref (r + 4), .ref (r + 5), .int (I 5), .int (I 6), .int (I 7), .ref (r + 6), .ref (r + 7), .ref (r + 8), .ref (r + 9), .int (I 12), .int (I 13), .int (I 14), .int (I 15), .int (I 16), .int (I 17), .ref (r + 10), .ref (r + 11), .ref (r + 12), .int (I 21), .ref (r + 13), .ref (r + 14), .ref (r + 15), .ref (r + 16), .ref (r + 17), .int (I 27), .int (I 28), .ref (r + 18), .ref (r + 19), .ref (r + 20), .ref (r + 21), .ref (r + 22), .ref (r + 23), .ref (r + 24), .ref (r + 25), .int (I 37), .int (I 38)]
def zRln (k : Nat) : Nat := [0, 80, 80, 10, 48, 6, 8, 8, 256, 256, 8, 8, 8, 512, 256, 64, 256, 100, 4, 4, 160, 40, 4, 4, 4, 30].getD k 0
def zRty (k : Nat) : Nat := if k = 15 ∨ k = 20 ∨ k = 21 then 1 else if k = 16 then 3 else 0
def zRcl (S : zRS) (k : Nat) : zC := if zRty k = 1 then .inl (1, zRln k, .inr (.inl (S.2.2 k))) else .inl (zRty k, zRln k, .inl (S.2.1 k))
def zRh (h : zH) (r : Nat) (S : zRS) : zH := (h.1, h.2.1, fun j => if j = r then .inr (10, zRfd S.1 r) else if r < j ∧ j ≤ r + 25 then zRcl S (j - r) else h.2.2 j)
def zRi (S : zRS) (i : Nat) (w : Int32) : zRS := (upd S.1 i w, S.2)
def zRa (S : zRS) (k j : Nat) (w : Int32) : zRS := (S.1, fun q => if q = k then upd (S.2.1 k) j w else S.2.1 q, S.2.2)
def zRl (S : zRS) (k j : Nat) (w : Int64) : zRS := (S.1, S.2.1, fun q => if q = k then vp_updL (S.2.2 k) j w else S.2.2 q)
theorem zRh_o {h : zH} {r : Nat} {S : zRS} : (zRh h r S).2.2 r = .inr (10, zRfd S.1 r) := if_pos rfl
theorem zRh_a {h : zH} {r k : Nat} {S : zRS} (h1 : 1 ≤ k) (h2 : k ≤ 25) : (zRh h r S).2.2 (r + k) = zRcl S k := by
  show (if r + k = r then _ else if r < r + k ∧ r + k ≤ r + 25 then zRcl S (r + k - r) else _) = _
  rw [if_neg (by omega), if_pos (by omega), Nat.add_sub_cancel_left]
theorem zRh_ne {h : zH} {r j : Nat} {S : zRS} (hj : j < r ∨ r + 25 < j) : (zRh h r S).2.2 j = h.2.2 j := by
  show (if j = r then _ else if r < j ∧ j ≤ r + 25 then _ else h.2.2 j) = _
  rw [if_neg (by omega), if_neg (by omega)]
theorem zRh_i {h : zH} {r i : Nat} {S : zRS} {w : Int32} (hf : ∀ I, (zRfd I r).set i (.int w) = zRfd (upd I i w) r) : zset (zRh h r S) r (.inr (10, (zRfd S.1 r).set i (.int w))) = zRh h r (zRi S i w) := by
  rw [hf]
  unfold zset zRh
  refine Prod.ext rfl (Prod.ext rfl (funext fun j => ?_))
  show (if j = r then _ else if j = r then _ else if r < j ∧ j ≤ r + 25 then zRcl S (j - r) else _) = (if j = r then _ else if r < j ∧ j ≤ r + 25 then zRcl (zRi S i w) (j - r) else _)
  by_cases e : j = r
  · rw [if_pos e, if_pos e]; rfl
  · rw [if_neg e, if_neg e, if_neg e]; rfl
theorem zRh_ai {h : zH} {r k j : Nat} {S : zRS} {w : Int32} (h1 : 1 ≤ k) (h2 : k ≤ 25) (ht : zRty k ≠ 1) : zset (zRh h r S) (r + k) (.inl (zRty k, zRln k, .inl (upd (S.2.1 k) j w))) = zRh h r (zRa S k j w) := by
  unfold zset zRh
  refine Prod.ext rfl (Prod.ext rfl (funext fun q => ?_))
  show (if q = r + k then _ else if q = r then _ else if r < q ∧ q ≤ r + 25 then zRcl S (q - r) else _) = (if q = r then _ else if r < q ∧ q ≤ r + 25 then zRcl (zRa S k j w) (q - r) else _)
  by_cases e : q = r + k
  · rw [if_pos e, if_neg (by omega), if_pos (by omega), show q - r = k by omega]
    unfold zRcl
    rw [if_neg ht]
    show _ = (.inl (zRty k, zRln k, .inl (if k = k then upd (S.2.1 k) j w else S.2.1 k)) : zC)
    rw [if_pos rfl]
  · rw [if_neg e]
    by_cases e2 : q = r
    · rw [if_pos e2, if_pos e2]; rfl
    · rw [if_neg e2, if_neg e2]
      by_cases e3 : r < q ∧ q ≤ r + 25
      · rw [if_pos e3, if_pos e3]
        unfold zRcl
        show _ = (if zRty (q - r) = 1 then .inl (1, zRln (q - r), .inr (.inl (S.2.2 (q - r)))) else .inl (zRty (q - r), zRln (q - r), .inl (if q - r = k then upd (S.2.1 k) j w else S.2.1 (q - r))) : zC)
        rw [if_neg (show ¬ q - r = k by omega)]
      · rw [if_neg e3, if_neg e3]
theorem zRh_al {h : zH} {r k j : Nat} {S : zRS} {w : Int64} (h1 : 1 ≤ k) (h2 : k ≤ 25) (ht : zRty k = 1) : zset (zRh h r S) (r + k) (.inl (1, zRln k, .inr (.inl (vp_updL (S.2.2 k) j w)))) = zRh h r (zRl S k j w) := by
  unfold zset zRh
  refine Prod.ext rfl (Prod.ext rfl (funext fun q => ?_))
  show (if q = r + k then _ else if q = r then _ else if r < q ∧ q ≤ r + 25 then zRcl S (q - r) else _) = (if q = r then _ else if r < q ∧ q ≤ r + 25 then zRcl (zRl S k j w) (q - r) else _)
  by_cases e : q = r + k
  · rw [if_pos e, if_neg (by omega), if_pos (by omega), show q - r = k by omega]
    unfold zRcl
    rw [if_pos ht]
    show _ = (.inl (1, zRln k, .inr (.inl (if k = k then vp_updL (S.2.2 k) j w else S.2.2 k))) : zC)
    rw [if_pos rfl]
  · rw [if_neg e]
    by_cases e2 : q = r
    · rw [if_pos e2, if_pos e2]; rfl
    · rw [if_neg e2, if_neg e2]
      by_cases e3 : r < q ∧ q ≤ r + 25
      · rw [if_pos e3, if_pos e3]
        unfold zRcl
        show _ = (if zRty (q - r) = 1 then .inl (1, zRln (q - r), .inr (.inl (if q - r = k then vp_updL (S.2.2 k) j w else S.2.2 (q - r)))) else .inl (zRty (q - r), zRln (q - r), .inl (S.2.1 (q - r))) : zC)
        rw [if_neg (show ¬ q - r = k by omega)]
      · rw [if_neg e3, if_neg e3]
/-- an array of a sort, and its length -/
def zRak (t k n : Nat) : Bool := decide (zRty k = t) && decide (1 ≤ k) && decide (k ≤ 25) && decide (zRln k = n) && decide (n < 1000)
theorem zRak_of {t k n : Nat} (h : zRak t k n = true) : zRty k = t ∧ 1 ≤ k ∧ k ≤ 25 ∧ zRln k = n ∧ n < 1000 := by
  unfold zRak at h
  simp only [Bool.and_eq_true, decide_eq_true_eq] at h
  exact ⟨h.1.1.1.1, h.1.1.1.2, h.1.1.2, h.1.2, h.2⟩
section ZRR
variable {d : Nat} {t : Nat → Option zI} {pc : Nat} {ls st : List Value} {h : zH} {r9 : zR → Prop} {nx a b c : Nat} {v : Value} {r : Nat} {S : zRS}
theorem zR_put {x i : Nat} {w : Int32} (hai : t pc = some (.putfield x, nx, 10, i, c, v)) (hk : Nat.blt i 39 = true) (hw : zfit (ztf 10 i) (.int w) = true) (hf : ∀ I, (zRfd I r).set i (.int w) = zRfd (upd I i w) r) (K : zGoP d t nx ls st (zRh h r (zRi S i w)) r9) : zGoP d t pc ls (.int w :: .ref r :: st) (zRh h r S) r9 := by
  refine zN_put hai zRh_o (fs' := (zRfd S.1 r).set i (.int w)) hk hw rfl ?_
  rw [zRh_i hf]
  exact K
theorem zR_ald {k j n : Nat} {w : Int32} (hai : t pc = some (.iaload, nx, a, b, c, v)) (hk : zRak 0 k n = true) (hj : j < n) (hf : S.2.1 k j = w) (K : zGoP d t nx ls (.int w :: st) (zRh h r S) r9) : zGoP d t pc ls (.int (nI j) :: .ref (r + k) :: st) (zRh h r S) r9 := by
  obtain ⟨h1, h2, h3, h4, h5⟩ := zRak_of hk
  refine zN_ald (n := n) (f := S.2.1 k) hai ?_ hj (by omega) hf K
  rw [zRh_a h2 h3, zRcl, if_neg (by rw [h1]; decide), h1, h4]
theorem zR_ast {k j n : Nat} {w : Int32} (hai : t pc = some (.iastore, nx, a, b, c, v)) (hk : zRak 0 k n = true) (hj : j < n) (hr : 2 ≤ r) (K : zGoP d t nx ls st (zRh h r (zRa S k j w)) r9) : zGoP d t pc ls (.int w :: .int (nI j) :: .ref (r + k) :: st) (zRh h r S) r9 := by
  obtain ⟨h1, h2, h3, h4, h5⟩ := zRak_of hk
  refine zN_ast (n := n) (f := S.2.1 k) hai ?_ hj (by omega) (zble_of hr) ?_
  · rw [zRh_a h2 h3, zRcl, if_neg (by rw [h1]; decide), h1, h4]
  · have := zRh_ai (h := h) (r := r) (k := k) (j := j) (S := S) (w := w) h2 h3 (by rw [h1]; decide)
    rw [h1, h4] at this
    rw [this]
    exact K
theorem zR_bld {k j n : Nat} {w : Int32} (hai : t pc = some (.baload, nx, a, b, c, v)) (hk : zRak 3 k n = true) (hj : j < n) (hf : S.2.1 k j = w) (K : zGoP d t nx ls (.int w :: st) (zRh h r S) r9) : zGoP d t pc ls (.int (nI j) :: .ref (r + k) :: st) (zRh h r S) r9 := by
  obtain ⟨h1, h2, h3, h4, h5⟩ := zRak_of hk
  refine zN_bld (tt := 3) (n := n) (f := S.2.1 k) hai (Or.inr rfl) ?_ hj (by omega) hf K
  rw [zRh_a h2 h3, zRcl, if_neg (by rw [h1]; decide), h1, h4]
theorem zR_bst {k j n : Nat} {w : Bool} (hai : t pc = some (.bastore, nx, a, b, c, v)) (hk : zRak 3 k n = true) (hj : j < n) (hr : 2 ≤ r) (K : zGoP d t nx ls st (zRh h r (zRa S k j (nI (b2n w)))) r9) : zGoP d t pc ls (.int (nI (b2n w)) :: .int (nI j) :: .ref (r + k) :: st) (zRh h r S) r9 := by
  obtain ⟨h1, h2, h3, h4, h5⟩ := zRak_of hk
  refine zN_bst (tt := 3) (ty := .boolean) (n := n) (f := S.2.1 k) hai (Or.inr ⟨rfl, rfl⟩) ?_ hj (by omega) (zble_of hr) ?_
  · rw [zRh_a h2 h3, zRcl, if_neg (by rw [h1]; decide), h1, h4]
  · have := zRh_ai (h := h) (r := r) (k := k) (j := j) (S := S) (w := nI (b2n w)) h2 h3 (by rw [h1]; decide)
    rw [h1, h4] at this
    rw [show vp_nar .boolean (nI (b2n w)) = nI (b2n w) from by cases w <;> decide, this]
    exact K
theorem zR_lld {k j n : Nat} {w : Int64} (hai : t pc = some (.laload, nx, a, b, c, v)) (hk : zRak 1 k n = true) (hj : j < n) (hf : S.2.2 k j = w) (K : zGoP d t nx ls (.long w :: st) (zRh h r S) r9) : zGoP d t pc ls (.int (nI j) :: .ref (r + k) :: st) (zRh h r S) r9 := by
  obtain ⟨h1, h2, h3, h4, h5⟩ := zRak_of hk
  refine zN_lld (n := n) (f := S.2.2 k) hai ?_ hj (by omega) hf K
  rw [zRh_a h2 h3, zRcl, if_pos h1, h4]
theorem zR_lst {k j n : Nat} {w : Int64} (hai : t pc = some (.lastore, nx, a, b, c, v)) (hk : zRak 1 k n = true) (hj : j < n) (hr : 2 ≤ r) (K : zGoP d t nx ls st (zRh h r (zRl S k j w)) r9) : zGoP d t pc ls (.long w :: .int (nI j) :: .ref (r + k) :: st) (zRh h r S) r9 := by
  obtain ⟨h1, h2, h3, h4, h5⟩ := zRak_of hk
  refine zN_lst (n := n) (f := S.2.2 k) hai ?_ hj (by omega) (zble_of hr) ?_
  · rw [zRh_a h2 h3, zRcl, if_pos h1, h4]
  · have := zRh_al (h := h) (r := r) (k := k) (j := j) (S := S) (w := w) h2 h3 h1
    rw [h4] at this
    rw [this]
    exact K
end ZRR
/-- what may have changed of the reference: fields are told as row 0 -/
def zRF (P : Nat → Nat → Prop) (S S' : zRS) : Prop := (∀ i, ¬ P 0 i → S'.1 i = S.1 i) ∧ (∀ k j, ¬ P k j → S'.2.1 k j = S.2.1 k j) ∧ (∀ k j, ¬ P k j → S'.2.2 k j = S.2.2 k j)
section ZRF
variable {P Q : Nat → Nat → Prop} {S S1 S2 : zRS}
theorem zRF.rf : zRF P S S := ⟨fun _ _ => rfl, fun _ _ _ => rfl, fun _ _ _ => rfl⟩
theorem zRF.tr (a : zRF P S S1) (b : zRF P S1 S2) : zRF P S S2 := ⟨fun i h => (b.1 i h).trans (a.1 i h), fun k j h => (b.2.1 k j h).trans (a.2.1 k j h), fun k j h => (b.2.2 k j h).trans (a.2.2 k j h)⟩
theorem zRF.mono (a : zRF P S S1) (h : ∀ k j, P k j → Q k j) : zRF Q S S1 := ⟨fun i q => a.1 i (fun g => q (h _ _ g)), fun k j q => a.2.1 k j (fun g => q (h _ _ g)), fun k j q => a.2.2 k j (fun g => q (h _ _ g))⟩
theorem zRF.i {i : Nat} {w : Int32} (a : zRF P S S1) (h : P 0 i) : zRF P S (zRi S1 i w) := ⟨fun j q => (upd_ne _ _ (fun e => q (by rw [e]; exact h))).trans (a.1 j q), a.2.1, a.2.2⟩
theorem zRa_at {k j : Nat} {w : Int32} : (zRa S k j w).2.1 k j = w := by
  show (if k = k then upd (S.2.1 k) j w else S.2.1 k) j = w
  rw [if_pos rfl, upd_at]
theorem zRa_ne {k j k2 j2 : Nat} {w : Int32} (h : k2 ≠ k ∨ j2 ≠ j) : (zRa S k j w).2.1 k2 j2 = S.2.1 k2 j2 := by
  show (if k2 = k then upd (S.2.1 k) j w else S.2.1 k2) j2 = _
  by_cases e : k2 = k
  · subst e
    rw [if_pos rfl, upd_ne _ _ (by omega)]
  · rw [if_neg e]
theorem zRF.a {k j : Nat} {w : Int32} (a : zRF P S S1) (h : P k j) : zRF P S (zRa S1 k j w) := ⟨a.1, fun k2 j2 q => by
  rw [zRa_ne]
  · exact a.2.1 k2 j2 q
  · refine Classical.byContradiction (fun g => q ?_)
    rw [show k2 = k by omega, show j2 = j by omega]
    exact h, a.2.2⟩
theorem zRl_at {k j : Nat} {w : Int64} : (zRl S k j w).2.2 k j = w := by
  show (if k = k then vp_updL (S.2.2 k) j w else S.2.2 k) j = w
  rw [if_pos rfl]
  exact if_pos rfl
theorem zRl_ne {k j k2 j2 : Nat} {w : Int64} (h : k2 ≠ k ∨ j2 ≠ j) : (zRl S k j w).2.2 k2 j2 = S.2.2 k2 j2 := by
  show (if k2 = k then vp_updL (S.2.2 k) j w else S.2.2 k2) j2 = _
  by_cases e : k2 = k
  · subst e
    rw [if_pos rfl]
    exact if_neg (by omega)
  · rw [if_neg e]
theorem zRF.l {k j : Nat} {w : Int64} (a : zRF P S S1) (h : P k j) : zRF P S (zRl S1 k j w) := ⟨a.1, a.2.1, fun k2 j2 q => by
  rw [zRl_ne]
  · exact a.2.2 k2 j2 q
  · refine Classical.byContradiction (fun g => q ?_)
    rw [show k2 = k by omega, show j2 = j by omega]
    exact h⟩
end ZRF
/-- a space of the reference -/
def zRs (S : zRS) (s n : Nat) (lo : Nat → Nat) : Prop := S.2.1 3 s = nI n ∧ s < 10 ∧ ∀ x, x < n → S.2.1 1 (8 * s + x) = nI (lo x) ∧ S.2.1 2 (8 * s + x) = nI (zTr n lo x)
def zRsp (s : Nat) (k j : Nat) : Prop := ((k = 1 ∨ k = 2) ∧ 8 * s ≤ j ∧ j < 8 * s + 8) ∨ (k = 3 ∧ j = s)
theorem zRs.fr {P : Nat → Nat → Prop} {S S1 : zRS} {s n : Nat} {lo : Nat → Nat} (hS : zRs S s n lo) (hn : n ≤ 8) (hF : zRF P S S1) (h : ∀ k j, zRsp s k j → ¬ P k j) : zRs S1 s n lo :=
  ⟨(hF.2.1 3 s (h 3 s (Or.inr ⟨rfl, rfl⟩))).trans hS.1, hS.2.1, fun x hx => ⟨(hF.2.1 1 _ (h 1 _ (Or.inl ⟨Or.inl rfl, by omega, by omega⟩))).trans (hS.2.2 x hx).1, (hF.2.1 2 _ (h 2 _ (Or.inl ⟨Or.inr rfl, by omega, by omega⟩))).trans (hS.2.2 x hx).2⟩⟩
theorem zRs.cg {S : zRS} {s n : Nat} {lo lo' : Nat → Nat} (hS : zRs S s n lo) (e : ∀ x, x < n → lo x = lo' x) : zRs S s n lo' := ⟨hS.1, hS.2.1, fun x hx => ⟨by rw [← e x hx]; exact (hS.2.2 x hx).1, by rw [← zTr_cong e]; exact (hS.2.2 x hx).2⟩⟩
