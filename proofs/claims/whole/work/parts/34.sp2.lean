/-! the class' spaces, their writing told by what holds -/
def zsS (o : Nat) : Nat → Prop := fun j => o ≤ j ∧ j ≤ o + 2
theorem zeh_fr {h : zH} {o n : Nat} {fl fh : Nat → Int32} : zFr (zsS o) h (zeh h o n fl fh) := ((zFr.rf.set ⟨Nat.le_refl o, by omega⟩).set ⟨by omega, by omega⟩).set ⟨by omega, by omega⟩
theorem zSp.fs {h h1 : zH} {o q n : Nat} {lo hi : Nat → Nat} (hF : zFr (zsS o) h h1) (ha : zApart o q) (hS : zSp h q n lo hi) : zSp h1 q n lo hi := by
  unfold zApart at ha
  exact zSp.fr hF (by unfold zsS; omega) (by unfold zsS; omega) (by unfold zsS; omega) hS
theorem zSp.vals {h : zH} {o n : Nat} {lo hi lo' hi' : Nat → Nat} (hS : zSp h o n lo hi) (e : ∀ x, x < n → lo x = lo' x ∧ hi x = hi' x) : zSp h o n lo' hi' := by
  obtain ⟨a, fl, fh, b, c, v⟩ := hS
  exact ⟨a, fl, fh, b, c, fun x hx => by rw [← (e x hx).1, ← (e x hx).2]; exact v x hx⟩
/-- the points of a set, in their order -/
def zNth (s p : Nat) : Nat := zfs (fun x => s.testBit x && decide (zPos s x = p)) 8
def zPl (g : Nat → Nat) (s p : Nat) : Nat := zSqz (g (zNth s p)) s 8
theorem zPos_mono {s a b : Nat} (h : a ≤ b) : zPos s a ≤ zPos s b := zct_up _ h
theorem zPos_lt {s a b : Nat} (hb : s.testBit a = true) (h : a < b) : zPos s a < zPos s b := by
  have h1 : zPos s (a + 1) = zPos s a + 1 := zct_yes hb
  have := zPos_mono (s := s) (show a + 1 ≤ b from h)
  omega
theorem zNth_pos {s x : Nat} (hx : x < 8) (hb : s.testBit x = true) : zNth s (zPos s x) = x := by
  refine zfs_at hx (by rw [hb, decide_eq_true rfl]; rfl) (fun j hj => ?_)
  cases q : s.testBit j with
  | false => rfl
  | true =>
    have := zPos_lt q hj
    rw [decide_eq_false (by omega)]
    rfl
theorem zPos_of {s p : Nat} : ∀ {m : Nat}, p < zPos s m → ∃ x, x < m ∧ s.testBit x = true ∧ zPos s x = p
  | 0, h => absurd h (Nat.not_lt_zero _)
  | m + 1, h => by
    by_cases hb : s.testBit m = true
    · have e : zPos s (m + 1) = zPos s m + 1 := zct_yes hb
      by_cases e2 : zPos s m = p
      · exact ⟨m, by omega, hb, e2⟩
      · obtain ⟨x, h1, h2, h3⟩ := zPos_of (s := s) (p := p) (m := m) (by omega)
        exact ⟨x, by omega, h2, h3⟩
    · have e : zPos s (m + 1) = zPos s m := zct_no (by simpa using hb)
      obtain ⟨x, h1, h2, h3⟩ := zPos_of (s := s) (p := p) (m := m) (by omega)
      exact ⟨x, by omega, h2, h3⟩
theorem zPrt_at {g : Nat → Nat} {s : Nat} {f : Nat → Int32} {x : Nat} (hb : s.testBit x = true) : ∀ {m : Nat}, x < m → zPrt g s f m (zPos s x) = nI (zSqz (g x) s 8)
  | 0, h => absurd h (Nat.not_lt_zero _)
  | m + 1, h => by
    rw [zPrt]
    by_cases e : x = m
    · subst e; rw [if_pos hb, upd_at]
    · have ih := zPrt_at (g := g) (f := f) hb (m := m) (by omega)
      split
      · rw [upd_ne _ _ (by have := zPos_lt hb (show x < m by omega); omega)]; exact ih
      · exact ih
theorem zPrt_all {g : Nat → Nat} {s m : Nat} {f : Nat → Int32} (hm : m ≤ 8) : ∀ p, p < zPos s m → zPrt g s f m p = nI (zPl g s p) := by
  intro p hp
  obtain ⟨x, h1, h2, h3⟩ := zPos_of hp
  rw [← h3, zPrt_at h2 h1, zPl, zNth_pos (by omega) h2]
theorem zSqz_lt (f s : Nat) : ∀ {i : Nat}, i ≤ 8 → zSqz f s i < 256
  | 0, _ => by show 0 < 256; decide
  | i + 1, h => by
    have ih := zSqz_lt f s (i := i) (by omega)
    rw [zSqz]
    split
    · refine zor_lt8 ih ?_
      have : zPos s i ≤ i := zct_le _ _
      split
      · exact zsh1_lt (by omega)
      · decide
    · exact ih
theorem zPl_ok {m s : Nat} {lo hi : Nat → Nat} (hm : m ≤ 8) : zOk (zPos s m) (zPl lo s) (zPl hi s) := ⟨Nat.le_trans (zct_le _ _) hm, fun x _ => ⟨zSqz_lt _ _ (Nat.le_refl 8), zSqz_lt _ _ (Nat.le_refl 8)⟩⟩
section ZP
variable {d : Nat} {h : zH} {o q n m : Nat} {lo hi l0 h0 : Nat → Nat}
theorem cp_part {s : Nat} (ho2 : 2 ≤ o) (hX : zSp h o n l0 h0) (hq : zSp h q m lo hi) (hO : zOk m lo hi) (ha : zApart o q) (hs : s < 256) : zCallP (d + 3) 83 [.ref o, .ref q, .int (nI s)] h (zRN (fun h1 => zFr (zsS o) h h1 ∧ zSp h1 o (zPos s m) (zPl lo s) (zPl hi s))) := by
  obtain ⟨fl, fh, hx, -⟩ := hX.x
  obtain ⟨gl, gh, hy, hv⟩ := hq.x
  have hc := ct_becomePart (d := d) (h := h) (n := n) (fl := fl) (fh := fh) ho2 hO hy hv ha hs
  rw [hx.w] at hc
  exact hc.rn ⟨zeh_fr, zeh_x.sp (fun p hp => ⟨zPrt_all hO.1 p hp, zPrt_all hO.1 p hp⟩)⟩
theorem cp_become (ho2 : 2 ≤ o) (hX : zSp h o n l0 h0) (hq : zSp h q m lo hi) (hm : m ≤ 8) (ha : zApart o q) : zCallP (d + 1) 65 [.ref o, .ref q] h (zRN (fun h1 => zFr (zsS o) h h1 ∧ zSp h1 o m lo hi)) := by
  obtain ⟨fl, fh, hx, -⟩ := hX.x
  obtain ⟨gl, gh, hy, hv⟩ := hq.x
  have hc := ct_become (d := d) (h := h) (n := n) (fl := fl) (fh := fh) ho2 hm hy ha
  rw [hx.w] at hc
  exact hc.rn ⟨zeh_fr, zeh_x.sp (fun p hp => by rw [zcut_lt hp, zcut_lt hp]; exact hv p hp)⟩
theorem cp_turned (ho2 : 2 ≤ o) (hX : zSp h o n l0 h0) (hq : zSp h q m lo hi) (hm : m ≤ 8) (ha : zApart o q) : zCallP (d + 1) 84 [.ref o, .ref q] h (zRN (fun h1 => zFr (zsS o) h h1 ∧ zSp h1 o m hi lo)) := by
  obtain ⟨fl, fh, hx, -⟩ := hX.x
  obtain ⟨gl, gh, hy, hv⟩ := hq.x
  have hc := ct_becomeTurned (d := d) (h := h) (n := n) (fl := fl) (fh := fh) ho2 hm hy ha
  rw [hx.w] at hc
  exact hc.rn ⟨zeh_fr, zeh_x.sp (fun p hp => by rw [zcut_lt hp, zcut_lt hp]; exact ⟨(hv p hp).2, (hv p hp).1⟩)⟩
theorem cp_scatter (ho2 : 2 ≤ o) (hX : zSp h o n l0 h0) (hm : m ≤ 8) : zCallP (d + 1) 64 [.ref o, .int (nI m)] h (zRN (fun h1 => zFr (zsS o) h h1 ∧ zSp h1 o m (fun x => 1 <<< x) (fun x => 1 <<< x))) := by
  obtain ⟨fl, fh, hx, -⟩ := hX.x
  have hc := ct_scatter (d := d) (h := h) (n := n) (fl := fl) (fh := fh) ho2 hm
  rw [hx.w] at hc
  exact hc.rn ⟨zeh_fr, zeh_x.sp (fun p hp => by rw [zcut_lt hp, zcut_lt hp]; exact ⟨rfl, rfl⟩)⟩
theorem cp_enclose {x y : Nat} (ho2 : 2 ≤ o) (hX : zSp h o n lo hi) (hO : zOk n lo hi) (hx : x < n) (hy : y < n) : zCallP (d + 2) 67 [.ref o, .int (nI x), .int (nI y)] h (zRV (.int (nI (zsm (zEf lo hi x y) n))) (fun h1 => zFr (zsS o) h h1 ∧ zSp h1 o n (zEl lo hi x y) (zEh lo hi x y))) := by
  obtain ⟨fl, fh, hx2, hv⟩ := hX.x
  have hc := ct_enclose (d := d) (h := h) (n := n) (fl := fl) (fh := fh) ho2 hO hv hx hy
  rw [hx2.w] at hc
  have hP : zFr (zsS o) h (zeh h o n (zcut (fun p => nI (zEl lo hi x y p)) fl n) (zcut (fun p => nI (zEh lo hi x y p)) fh n)) ∧ zSp (zeh h o n (zcut (fun p => nI (zEl lo hi x y p)) fl n) (zcut (fun p => nI (zEh lo hi x y p)) fh n)) o n (zEl lo hi x y) (zEh lo hi x y) := ⟨zeh_fr, zeh_x.sp (fun p hp => by rw [zcut_lt hp, zcut_lt hp]; exact ⟨rfl, rfl⟩)⟩
  exact ⟨_, hc, rfl, hP⟩
theorem cp_topped {k : Nat} (ho2 : 2 ≤ o) (hX : zSp h o n l0 h0) (hq : zSp h q m lo hi) (hm : m + k ≤ 8) (ha : zApart o q) (hL : ∀ j, j < m + k → zTopL m lo j < 256) : zCallP (d + 3) 87 [.ref o, .ref q, .int (nI k)] h (zRN (fun h1 => zFr (zsS o) h h1 ∧ zSp h1 o (m + k) (zTopL m lo) (zTr (m + k) (zTopL m lo)))) := by
  obtain ⟨fl, fh, hx, -⟩ := hX.x
  obtain ⟨gl, gh, hy, hv⟩ := hq.x
  have hc := ct_becomeTopped (d := d) (h := h) (n := n) (fl := fl) (fh := fh) ho2 hm hy (fun x hx => (hv x hx).1) ha hL
  rw [hx.w] at hc
  exact hc.rn ⟨zeh_fr, zeh_x.sp (fun p hp => by rw [zcut_lt hp, zcut_lt hp]; exact ⟨rfl, rfl⟩)⟩
theorem cp_sum {q2 m2 : Nat} {l2 h2 : Nat → Nat} {jn : Bool} (ho2 : 2 ≤ o) (hX : zSp h o n l0 h0) (hq : zSp h q m lo hi) (hq2 : zSp h q2 m2 l2 h2) (hm : m + m2 ≤ 8) (ha : zApart o q) (ha2 : zApart o q2) (hL : ∀ j, j < m + m2 → zSumL m lo l2 (if jn then 1 <<< m - 1 else 0) j < 256) : zCallP (d + 3) 85 [.ref o, .ref q, .ref q2, .int (nI (b2n jn))] h (zRN (fun h1 => zFr (zsS o) h h1 ∧ zSp h1 o (m + m2) (zSumL m lo l2 (if jn then 1 <<< m - 1 else 0)) (zTr (m + m2) (zSumL m lo l2 (if jn then 1 <<< m - 1 else 0))))) := by
  obtain ⟨fl, fh, hx, -⟩ := hX.x
  obtain ⟨gl, gh, hy, hv⟩ := hq.x
  obtain ⟨gl2, gh2, hy2, hv2⟩ := hq2.x
  have hc := ct_becomeSum (d := d) (h := h) (n := n) (fl := fl) (fh := fh) (jn := jn) ho2 hm hy hy2 (fun x hx => (hv x hx).1) (fun x hx => (hv2 x hx).1) ha ha2 hL
  rw [hx.w] at hc
  exact hc.rn ⟨zeh_fr, zeh_x.sp (fun p hp => by rw [zcut_lt hp, zcut_lt hp]; exact ⟨rfl, rfl⟩)⟩
theorem cp_product {q2 m2 : Nat} {l2 h2 : Nat → Nat} (ho2 : 2 ≤ o) (hm1 : m ≤ 8) (hm2 : m2 ≤ 8) (hX : zSp h o n l0 h0) (hq : zSp h q m lo hi) (hq2 : zSp h q2 m2 l2 h2) (hm : m * m2 ≤ 8) (hb1 : ∀ x, x < m → lo x < 256) (ha : zApart o q) (ha2 : zApart o q2) (hL : ∀ j, j < m * m2 → zProL m m2 lo l2 j < 256) : zCallP (d + 3) 86 [.ref o, .ref q, .ref q2] h (zRN (fun h1 => zFr (zsS o) h h1 ∧ zSp h1 o (m * m2) (zProL m m2 lo l2) (zTr (m * m2) (zProL m m2 lo l2)))) := by
  obtain ⟨fl, fh, hx, -⟩ := hX.x
  obtain ⟨gl, gh, hy, hv⟩ := hq.x
  obtain ⟨gl2, gh2, hy2, hv2⟩ := hq2.x
  have hc := ct_becomeProduct (d := d) (h := h) (n := n) (fl := fl) (fh := fh) ho2 hm1 hm2 hm hy hy2 (fun x hx => (hv x hx).1) hb1 (fun x hx => (hv2 x hx).1) ha ha2 hL
  rw [hx.w] at hc
  exact hc.rn ⟨zeh_fr, zeh_x.sp (fun p hp => by rw [zcut_lt hp, zcut_lt hp]; exact ⟨rfl, rfl⟩)⟩
end ZP
/-- of the Matcher, whatever it holds -/
def zMx (h : zH) (o : Nat) : Prop := ∃ (nA nB : Nat) (ex fe : Bool) (fl fh tl th : Nat → Nat) (im : Nat → Int32), zM0 h o nA nB ex fe fl fh tl th im
def zmN (o q : Nat) : Prop := q + 2 < o ∨ o + 7 < q
theorem zSp.fm {h h1 : zH} {o q n : Nat} {lo hi : Nat → Nat} (hF : zFr (zmS o) h h1) (ha : zmN o q) (hS : zSp h q n lo hi) : zSp h1 q n lo hi := by
  unfold zmN at ha
  exact zSp.fr hF (by unfold zmS; omega) (by unfold zmS; omega) (by unfold zmS; omega) hS
theorem zmS_s1 {o : Nat} : ∀ j, zsS (o + 1) j → zmS o j := fun j h => by unfold zsS at h; unfold zmS; omega
theorem zmS_s4 {o : Nat} : ∀ j, zsS (o + 4) j → zmS o j := fun j h => by unfold zsS at h; unfold zmS; omega
/-- the first renumbering, if there is one -/
def zSame (nA : Nat) (fl fh : Nat → Nat) (nB : Nat) (tl th : Nat → Nat) : Option (Nat → Nat) := if nA = nB then zFf true nB fl fh tl th nA 0 0 (fun _ => 0) else none
def zRenum (nA : Nat) (fl fh : Nat → Nat) (nB : Nat) (tl th : Nat → Nat) : Nat := if nA = nB then zFc true nB fl fh tl th nA 0 0 (fun _ => 0) else 0
/-- the space of a matcher has become another: what it is now -/
theorem zM0.q1 {h h1 : zH} {o nA nB m : Nat} {ex fe : Bool} {fl fh tl th lo hi : Nat → Nat} {im : Nat → Int32} (hM : zM0 h o nA nB ex fe fl fh tl th im) (hF : zFr (zsS (o + 1)) h h1) (hS : zSp h1 (o + 1) m lo hi) : zM0 h1 o m nB ex fe lo hi tl th im :=
  ⟨hF.eq (by unfold zsS; omega) hM.1, hF.eq (by unfold zsS; omega) hM.2.1, hS, zSp.fs hF (by unfold zApart; omega) hM.2.2.2⟩
theorem zM0.q4 {h h1 : zH} {o nA nB m : Nat} {ex fe : Bool} {fl fh tl th lo hi : Nat → Nat} {im : Nat → Int32} (hM : zM0 h o nA nB ex fe fl fh tl th im) (hF : zFr (zsS (o + 4)) h h1) (hS : zSp h1 (o + 4) m lo hi) : zM0 h1 o nA m ex fe fl fh lo hi im :=
  ⟨hF.eq (by unfold zsS; omega) hM.1, hF.eq (by unfold zsS; omega) hM.2.1, zSp.fs hF (by unfold zApart; omega) hM.2.2.1, hS⟩
theorem zM0.p_b {h : zH} {o nA nB : Nat} {ex fe e2 f2 : Bool} {fl fh tl th : Nat → Nat} {im : Nat → Int32} (hM : zM0 h o nA nB ex fe fl fh tl th im) : zM0 (zset h o (.inr (4, [.ref (o + 1), .ref (o + 4), .ref (o + 7), .int (nI (b2n e2)), .int (nI (b2n f2))]))) o nA nB e2 f2 fl fh tl th im := by
  obtain ⟨h1, h2, ⟨h3, a, b, h4, h5, h6⟩, ⟨h7, a', b', h8, h9, h10⟩⟩ := hM
  refine ⟨zset_eq _ _ _, ?_, ⟨?_, a, b, ?_, ?_, h6⟩, ⟨?_, a', b', ?_, ?_, h10⟩⟩
  all_goals (rw [zset_ne _ _ (by omega)]; assumption)
