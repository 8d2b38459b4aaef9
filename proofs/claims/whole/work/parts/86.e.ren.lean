/-! renumberings of points, and of places -/
theorem zsm_sel {g : Nat → Nat} {p : Nat} : ∀ {x : Nat}, x ≤ 8 → zsm (fun y => if p.testBit y then g y else 0) x = zsm (fun i => g (zNth p i)) (zPos p x)
  | 0, _ => rfl
  | x + 1, hx => by
    have ih := zsm_sel (g := g) (p := p) (x := x) (by omega)
    rw [zsm, ih]
    cases q : p.testBit x with
    | true =>
      rw [show zPos p (x + 1) = zPos p x + 1 from zct_yes q, zsm, zNth_pos (by omega) q, if_pos rfl]
    | false =>
      rw [show zPos p (x + 1) = zPos p x from zct_no q]
      rfl
theorem zfo_sel {α : Type} {g : Nat → Option α} {p : Nat} : ∀ {x : Nat}, x ≤ 8 → zfo (fun y => if p.testBit y then g y else none) x = zfo (fun i => g (zNth p i)) (zPos p x)
  | 0, _ => rfl
  | x + 1, hx => by
    have ih := zfo_sel (g := g) (p := p) (x := x) (by omega)
    cases q : p.testBit x with
    | true =>
      rw [show zPos p (x + 1) = zPos p x + 1 from zct_yes q, zfo, zfo, ih, zNth_pos (by omega) q, q, if_pos rfl]
    | false =>
      rw [show zPos p (x + 1) = zPos p x from zct_no q, zfo_no (by rw [q]; rfl), ih]
theorem zsm_cg {f g : Nat → Nat} {n : Nat} (h : ∀ i, i < n → f i = g i) : zsm f n = zsm g n := zsm_cong h
theorem zct_sm {c : Nat → Bool} : ∀ n, zct c n = zsm (fun i => if c i then 1 else 0) n
  | 0 => rfl
  | n + 1 => by
    rw [zct, zsm, zct_sm n]
    cases c n <;> rfl
theorem zCho_bit {nB k u i : Nat} {fl fh tl th I : Nat → Nat} : ∀ j, (zCho true nB fl fh tl th I k u j).testBit i = (decide (i < nB) && !u.testBit i && zAl (fun j => ((fh k).testBit j == (tl (I j)).testBit i) && ((fl k).testBit j == (th (I j)).testBit i)) j)
  | 0 => by
    show (zan (1 <<< nB - 1) u).testBit i = _
    rw [zan_bit, zall_bit]
    exact (Bool.and_true _).symm
  | j + 1 => by
    show (zCh1 true ((fh k).testBit j) (zCh1 true ((fl k).testBit j) (zCho true nB fl fh tl th I k u j) (th (I j))) (tl (I j))).testBit i = _
    have h1 : ∀ b a s, (zCh1 true b a s).testBit i = (a.testBit i && (b == s.testBit i)) := fun b a s => by
      unfold zCh1
      cases b
      · show (zan a s).testBit i = _
        rw [zan_bit]
        cases a.testBit i <;> cases s.testBit i <;> rfl
      · show (a &&& s).testBit i = _
        rw [Nat.testBit_and]
        cases a.testBit i <;> cases s.testBit i <;> rfl
    rw [h1, h1, zCho_bit j, zAl]
    generalize zAl _ j = A
    cases decide (i < nB) <;> cases u.testBit i <;> cases A <;> cases ((fl k).testBit j == (th (I j)).testBit i) <;> cases ((fh k).testBit j == (tl (I j)).testBit i) <;> rfl
theorem zFc_s {nB r k u : Nat} {fl fh tl th I : Nat → Nat} (hB : nB ≤ 8) : zFc true nB fl fh tl th (r + 1) k u I = zsm (fun y => if (zCho true nB fl fh tl th I k u k).testBit y then zFc true nB fl fh tl th r (k + 1) (u ||| 1 <<< y) (zupd I k y) else 0) nB := by
  rw [zFc]
  by_cases e : r = 0
  · subst e
    rw [if_pos rfl]
    show zct (fun y => (zCho true nB fl fh tl th I k u k).testBit y) 8 = zsm (fun y => if (zCho true nB fl fh tl th I k u k).testBit y then 1 else 0) nB
    rw [zct_none hB (fun i h1 h2 => by rw [zCho_bit, decide_eq_false (by omega)]; rfl), zct_sm]
  · rw [if_neg e]
/-- first ones, alike -/
def zFal (m p2 : Nat) (a b : Option (Nat → Nat)) : Prop := match a, b with
  | some J, some K => ∀ j, j < m → J j = zNth p2 (K j) ∧ K j < zPos p2 8
  | none, none => True
  | _, _ => False
theorem zfo_al {m p2 : Nat} {f g : Nat → Option (Nat → Nat)} : ∀ {n : Nat}, (∀ i, i < n → zFal m p2 (f i) (g i)) → zFal m p2 (zfo f n) (zfo g n)
  | 0, _ => trivial
  | n + 1, h => by
    have ih := zfo_al (m := m) (p2 := p2) (f := f) (g := g) (n := n) (fun i hi => h i (by omega))
    have hn := h n (by omega)
    rw [zfo, zfo]
    cases q1 : zfo f n <;> cases q2 : zfo g n <;> rw [q1, q2] at ih
    · exact hn
    · exact ih.elim
    · exact ih.elim
    · exact ih
section ZREN
variable {n n2 p p2 : Nat} {lo lo2 : Nat → Nat}
theorem zfit_eq (hP : zPre n lo) (hP2 : zPre n2 lo2) (hp : p < 1 <<< n) (hp2 : p2 < 1 <<< n2) {k i : Nat} {Ip Iq : Nat → Nat} (hk : k < zPos p 8) (hi : i < zPos p2 8) (hI : ∀ j, j < k → Ip j = zNth p2 (Iq j) ∧ Iq j < zPos p2 8) : zAl (zRfit lo lo2 (zNth p) Ip k (zNth p2 i)) k = zAl (fun j => ((zPl (zTr n lo) p k).testBit j == (zPl lo2 p2 (Iq j)).testBit i) && ((zPl lo p k).testBit j == (zPl (zTr n2 lo2) p2 (Iq j)).testBit i)) k := by
  refine zAl_cong (fun j hj => ?_)
  obtain ⟨h1, h2⟩ := hI j hj
  have hNk : zNth p k < n := zlt_bit hp (zNth_in hk).2.1
  have hNj : zNth p j < n := zlt_bit hp (zNth_in (show j < zPos p 8 by omega)).2.1
  have hMi : zNth p2 i < n2 := zlt_bit hp2 (zNth_in hi).2.1
  unfold zRfit
  rw [zPl_row, zPl_row, zPl_row, zPl_row, zbits_bit, zbits_bit, zbits_bit, zbits_bit, decide_eq_true hi, decide_eq_true (show j < zPos p 8 by omega), zTr_bit, zTr_bit, decide_eq_true hNj, decide_eq_true hMi, h1]
  simp only [Bool.true_and]
theorem zren_eq (hP : zPre n lo) (hP2 : zPre n2 lo2) (hp : p < 1 <<< n) (hp2 : p2 < 1 <<< n2) : ∀ (q k free u : Nat) (Ip Iq : Nat → Nat), k + q = zPos p 8 → (∀ j, j < k → Ip j = zNth p2 (Iq j) ∧ Iq j < zPos p2 8) → (∀ y, free.testBit y = true → p2.testBit y = true) → (∀ i, i < zPos p2 8 → free.testBit (zNth p2 i) = !u.testBit i) →
    zGc lo lo2 (zNth p) q k free Ip = zFc true (zPos p2 8) (zPl lo p) (zPl (zTr n lo) p) (zPl lo2 p2) (zPl (zTr n2 lo2) p2) q k u Iq ∧ zFal (zPos p 8) p2 (zGf lo lo2 (zNth p) q k free Ip) (zFf true (zPos p2 8) (zPl lo p) (zPl (zTr n lo) p) (zPl lo2 p2) (zPl (zTr n2 lo2) p2) q k u Iq)
  | 0, k, free, u, Ip, Iq, hk, hI, hf, hu => ⟨rfl, fun j hj => hI j (by omega)⟩
  | q + 1, k, free, u, Ip, Iq, hk, hI, hf, hu => by
    have hm2 : zPos p2 8 ≤ 8 := zct_le _ _
    have hC : ∀ i, i < zPos p2 8 → (free.testBit (zNth p2 i) && zAl (zRfit lo lo2 (zNth p) Ip k (zNth p2 i)) k) = (zCho true (zPos p2 8) (zPl lo p) (zPl (zTr n lo) p) (zPl lo2 p2) (zPl (zTr n2 lo2) p2) Iq k u k).testBit i := fun i hi => by
      rw [zCho_bit, decide_eq_true hi, hu i hi, zfit_eq hP hP2 hp hp2 (by omega) hi hI, Bool.true_and]
    have ih : ∀ i, i < zPos p2 8 → _ := fun i hi => zren_eq hP hP2 hp hp2 q (k + 1) (zan free (1 <<< zNth p2 i)) (u ||| 1 <<< i) (zupd Ip k (zNth p2 i)) (zupd Iq k i) (by omega) (fun j hj => by
      by_cases e : j = k
      · rw [e, zupd_at, zupd_at]; exact ⟨rfl, hi⟩
      · rw [zupd_ne _ _ e, zupd_ne _ _ e]; exact hI j (by omega)) (fun y hy => by
      rw [zan_bit, Bool.and_eq_true] at hy
      exact hf y hy.1) (fun i2 hi2 => by
      rw [zan_bit, Nat.testBit_or, z1bit, z1bit, hu i2 hi2]
      have e : decide (zNth p2 i2 = zNth p2 i) = decide (i2 = i) := by
        by_cases e : i2 = i
        · rw [e, decide_eq_true rfl, decide_eq_true rfl]
        · rw [decide_eq_false e, decide_eq_false (fun g => e ?_)]
          rw [← (zNth_in hi2).2.2, ← (zNth_in hi).2.2, g]
      rw [e]
      cases u.testBit i2 <;> cases decide (i2 = i) <;> rfl)
    have sel : ∀ {β : Type} (v : Nat → β) (z : β), (fun y => if (free.testBit y && zAl (zRfit lo lo2 (zNth p) Ip k y) k) = true then v y else z) = (fun y => if p2.testBit y = true then (if (free.testBit y && zAl (zRfit lo lo2 (zNth p) Ip k y) k) = true then v y else z) else z) := fun v z => by
      funext y
      cases q : p2.testBit y with
      | true => rw [if_pos rfl]
      | false =>
        have : free.testBit y = false := by
          cases q2 : free.testBit y with
          | false => rfl
          | true => rw [hf y q2] at q; exact absurd q (by decide)
        rw [this]
        rfl
    constructor
    · rw [zGc, zFc_s hm2, sel, zsm_sel (Nat.le_refl 8)]
      refine zsm_cg (fun i hi => ?_)
      show (if (free.testBit (zNth p2 i) && zAl (zRfit lo lo2 (zNth p) Ip k (zNth p2 i)) k) = true then _ else 0) = _
      rw [hC i hi, (ih i hi).1]
    · rw [zGf, zFf, sel, zfo_sel (Nat.le_refl 8)]
      refine zfo_al (fun i hi => ?_)
      show zFal _ _ (if (free.testBit (zNth p2 i) && zAl (zRfit lo lo2 (zNth p) Ip k (zNth p2 i)) k) = true then _ else none) _
      rw [hC i hi]
      split
      · exact (ih i hi).2
      · exact trivial
/-- the count and the first one of the class -/
theorem zRc_eq (hP : zPre n lo) (hP2 : zPre n2 lo2) (hp : p < 1 <<< n) (hp2 : p2 < 1 <<< n2) : zRcn lo lo2 p p2 = zRenum (zPos p n) (zPl lo p) (zPl (zTr n lo) p) (zPos p2 n2) (zPl lo2 p2) (zPl (zTr n2 lo2) p2) ∧ zFal (zPos p 8) p2 (zRcf lo lo2 p p2) (zSame (zPos p n) (zPl lo p) (zPl (zTr n lo) p) (zPos p2 n2) (zPl lo2 p2) (zPl (zTr n2 lo2) p2)) := by
  have e1 := zPos_8 hP.1 hp
  have e2 := zPos_8 hP2.1 hp2
  rw [← e1, ← e2]
  have h := zren_eq hP hP2 hp hp2 (zPos p 8) 0 p2 0 (fun _ => 0) (fun _ => 0) (by omega) (fun j hj => absurd hj (Nat.not_lt_zero j)) (fun y hy => hy) (fun i hi => by rw [(zNth_in hi).2.1, Nat.zero_testBit]; rfl)
  unfold zRcn zRcf zRenum zSame
  have hz : zcnt p2 = zPos p2 8 := rfl
  rw [hz]
  by_cases e : zPos p 8 = zPos p2 8
  · rw [if_pos e.symm, if_pos e, if_pos e.symm, if_pos e]
    exact h
  · rw [if_neg (fun g => e g.symm), if_neg e, if_neg (fun g => e g.symm), if_neg e]
    exact ⟨rfl, trivial⟩
/-- is there one -/
theorem zRc_some (hP : zPre n lo) (hP2 : zPre n2 lo2) (hp : p < 1 <<< n) (hp2 : p2 < 1 <<< n2) : decide (0 < zRcn lo lo2 p p2) = zSm2 n lo p n2 lo2 p2 := by
  have h := (zRc_eq hP hP2 hp hp2).2
  unfold zSm2
  have hc : zRcn lo lo2 p p2 = 0 ↔ zRcf lo lo2 p p2 = none := by
    unfold zRcn zRcf
    split
    · exact zGcf ..
    · exact ⟨fun _ => rfl, fun _ => rfl⟩
  cases q1 : zRcf lo lo2 p p2 <;> cases q2 : zSame (zPos p n) (zPl lo p) (zPl (zTr n lo) p) (zPos p2 n2) (zPl lo2 p2) (zPl (zTr n2 lo2) p2) <;> rw [q1, q2] at h
  · rw [decide_eq_false (by have := hc.mpr q1; omega)]; rfl
  · exact h.elim
  · exact h.elim
  · rw [decide_eq_true (by have : zRcn lo lo2 p p2 ≠ 0 := fun g => by rw [hc.mp g] at q1; exact absurd q1 (by simp)
                           omega)]
    rfl
end ZREN
