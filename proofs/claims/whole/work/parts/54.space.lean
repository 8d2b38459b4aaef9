/-! spaces: what lies below what -/
def zPre (n : Nat) (lo : Nat → Nat) : Prop := n ≤ 8 ∧ ∀ x, x < n → lo x < 1 <<< n ∧ (lo x).testBit x = true ∧ ∀ y, (lo x).testBit y = true → ∀ z, (lo y).testBit z = true → (lo x).testBit z = true
theorem zlt_bit {n w y : Nat} (hw : w < 1 <<< n) (h : w.testBit y = true) : y < n := by
  rcases Nat.lt_or_ge y n with g | g
  · exact g
  · rw [zhigh hw y g] at h; cases h
theorem zTr_bit {n : Nat} {lo : Nat → Nat} {y i : Nat} : (zTr n lo y).testBit i = (decide (i < n) && (lo i).testBit y) := by
  unfold zTr
  rw [zbits_bit]
theorem zTr_lt {n : Nat} {lo : Nat → Nat} {y : Nat} : zTr n lo y < 1 <<< n := by
  rw [Nat.one_shiftLeft]
  refine Nat.lt_pow_two_of_testBit _ (fun i hi => ?_)
  rw [zTr_bit, decide_eq_false (by omega)]
  rfl
theorem zPre.b {n : Nat} {lo : Nat → Nat} (hP : zPre n lo) {x : Nat} (hx : x < n) : lo x < 256 := Nat.lt_of_lt_of_le (hP.2 x hx).1 (zpow_le hP.1).2
theorem zPre.ok {n : Nat} {lo : Nat → Nat} (hP : zPre n lo) : zOk n lo (zTr n lo) := ⟨hP.1, fun x hx => ⟨hP.b hx, zbits_lt8 _ hP.1⟩⟩
theorem zPre.rf {n : Nat} {lo : Nat → Nat} (hP : zPre n lo) : zRfl n lo (zTr n lo) := fun x hx => ⟨(hP.2 x hx).2.1, by rw [zTr_bit, decide_eq_true hx, (hP.2 x hx).2.1]; rfl⟩
theorem zTr_cong {n : Nat} {lo lo' : Nat → Nat} {y : Nat} (h : ∀ x, x < n → lo x = lo' x) : zTr n lo y = zTr n lo' y := zbits_cong (fun i hi => by rw [h i hi])
def zDisc : Nat → Nat := fun x => 1 <<< x
theorem zTr_disc {n y : Nat} (hy : y < n) : zTr n zDisc y = zDisc y := by
  apply zext; intro i
  rw [zTr_bit]
  unfold zDisc
  rw [z1bit, z1bit]
  by_cases e : i = y
  · subst e; simp [hy]
  · simp [e, Ne.symm e]
    try (intro _; exact fun q => e q.symm)
theorem zPre_disc {n : Nat} (hn : n ≤ 8) : zPre n zDisc := ⟨hn, fun x hx => ⟨by
  unfold zDisc
  rw [Nat.one_shiftLeft, Nat.one_shiftLeft]
  exact Nat.pow_lt_pow_right (by decide) hx, by unfold zDisc; rw [z1bit]; simp, fun y hy z hz => by
  unfold zDisc at hy hz ⊢
  rw [z1bit] at hy hz ⊢
  have h1 := of_decide_eq_true hy
  have h2 := of_decide_eq_true hz
  exact decide_eq_true (by omega)⟩⟩
/-- y is nested in x -/
def zNst (lo : Nat → Nat) (x y : Nat) (p : Nat) : Nat := if (lo p).testBit x then lo p ||| lo y else lo p
theorem zNst_bit {lo : Nat → Nat} {x y p i : Nat} : (zNst lo x y p).testBit i = ((lo p).testBit i || ((lo p).testBit x && (lo y).testBit i)) := by
  unfold zNst
  split
  · next h => rw [Nat.testBit_or, h, Bool.true_and]
  · next h => rw [show (lo p).testBit x = false from by simpa using h, Bool.false_and, Bool.or_false]
theorem zEl_nst {n x y p : Nat} {lo : Nat → Nat} (hp : p < n) : zEl lo (zTr n lo) x y p = zNst lo x y p := by
  unfold zEl zNst
  rw [zTr_bit, decide_eq_true hp, Bool.true_and]
theorem zEh_nst {n x y p : Nat} {lo : Nat → Nat} : zEh lo (zTr n lo) x y p = zTr n (zNst lo x y) p := by
  apply zext; intro i
  rw [zTr_bit, zNst_bit]
  unfold zEh
  split
  · next h =>
    rw [Nat.testBit_or, zTr_bit, zTr_bit, h, Bool.and_true]
    cases decide (i < n) <;> cases (lo i).testBit p <;> cases (lo i).testBit x <;> rfl
  · next h =>
    rw [zTr_bit, show (lo y).testBit p = false from by simpa using h, Bool.and_false, Bool.or_false]
theorem zPre.nst {n x y : Nat} {lo : Nat → Nat} (hP : zPre n lo) (hy : y < n) : zPre n (zNst lo x y) := by
  refine ⟨hP.1, fun p hp => ⟨?_, ?_, fun q hq z hz => ?_⟩⟩
  · unfold zNst
    split
    · have h1 := (hP.2 p hp).1
      have h2 := (hP.2 y hy).1
      rw [Nat.one_shiftLeft] at h1 h2 ⊢
      exact Nat.or_lt_two_pow h1 h2
    · exact (hP.2 p hp).1
  · rw [zNst_bit, (hP.2 p hp).2.1]
    rfl
  · rw [zNst_bit] at hq hz ⊢
    simp only [Bool.or_eq_true, Bool.and_eq_true] at hq hz ⊢
    have tp := (hP.2 p hp).2.2
    have ty := (hP.2 y hy).2.2
    rcases hq with hq | ⟨hx, hq⟩
    · rcases hz with hz | ⟨hz1, hz⟩
      · exact Or.inl (tp q hq z hz)
      · exact Or.inr ⟨tp q hq x hz1, hz⟩
    · rcases hz with hz | ⟨hz1, hz⟩
      · exact Or.inr ⟨hx, ty q hq z hz⟩
      · exact Or.inr ⟨hx, hz⟩
/-- how many pairs are new -/
def zNew (n : Nat) (lo : Nat → Nat) (x y : Nat) : Nat := zsm (fun p => if (lo p).testBit x then zcnt (zan (lo y) (lo p)) else 0) n
theorem zsm_cong {f g : Nat → Nat} : ∀ {n : Nat}, (∀ i, i < n → f i = g i) → zsm f n = zsm g n
  | 0, _ => rfl
  | n + 1, h => by rw [zsm, zsm, zsm_cong (fun i hi => h i (by omega)), h n (by omega)]
theorem zor_cong {f g : Nat → Nat} : ∀ {n : Nat}, (∀ i, i < n → f i = g i) → zor f n = zor g n
  | 0, _ => rfl
  | n + 1, h => by rw [zor, zor, zor_cong (fun i hi => h i (by omega)), h n (by omega)]
theorem zEf_new {n x y : Nat} {lo : Nat → Nat} : zsm (zEf lo (zTr n lo) x y) n = zNew n lo x y := zsm_cong (fun p hp => by
  unfold zEf
  rw [zTr_bit, decide_eq_true hp, Bool.true_and])
/-- a space of the class -/
def zSq (h : zH) (o n : Nat) (lo : Nat → Nat) : Prop := zSp h o n lo (zTr n lo)
theorem zSq.cg {h : zH} {o n : Nat} {lo lo' : Nat → Nat} (hS : zSq h o n lo) (e : ∀ x, x < n → lo x = lo' x) : zSq h o n lo' := hS.vals (fun x hx => ⟨e x hx, zTr_cong e⟩)
section ZS
variable {d : Nat} {h : zH} {o n : Nat} {lo l0 h0 : Nat → Nat}
theorem cs_enclose {x y : Nat} (ho2 : 2 ≤ o) (hX : zSq h o n lo) (hP : zPre n lo) (hx : x < n) (hy : y < n) : zCallP (d + 2) 67 [.ref o, .int (nI x), .int (nI y)] h (zRV (.int (nI (zNew n lo x y))) (fun h1 => zFr (zsS o) h h1 ∧ zSq h1 o n (zNst lo x y))) := by
  have hc := cp_enclose (d := d) (x := x) (y := y) ho2 hX hP.ok hx hy
  rw [zEf_new] at hc
  exact hc.vm rfl (fun h1 hh => ⟨hh.1, hh.2.vals (fun p hp => ⟨zEl_nst hp, zEh_nst⟩)⟩)
theorem cs_scatter {m : Nat} (ho2 : 2 ≤ o) (hX : zSp h o n l0 h0) (hm : m ≤ 8) : zCallP (d + 1) 64 [.ref o, .int (nI m)] h (zRN (fun h1 => zFr (zsS o) h h1 ∧ zSq h1 o m zDisc)) :=
  (cp_scatter (d := d) ho2 hX hm).nm (fun h1 hh => ⟨hh.1, hh.2.vals (fun p hp => ⟨rfl, (zTr_disc hp).symm⟩)⟩)
end ZS
