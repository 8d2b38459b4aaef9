theorem zbitcount : ∀ s, s < 256 → (fun i : Int32 =>
    let i1 := i - ((i.toUInt32 >>> ((nI 1).toUInt32 &&& Int32.toUInt32 31)).toInt32 &&& nI 1431655765)
    let i2 := (i1 &&& nI 858993459) + ((i1.toUInt32 >>> ((nI 2).toUInt32 &&& Int32.toUInt32 31)).toInt32 &&& nI 858993459)
    let i3 := (i2 + (i2.toUInt32 >>> ((nI 4).toUInt32 &&& Int32.toUInt32 31)).toInt32) &&& nI 252645135
    let i4 := i3 + (i3.toUInt32 >>> ((nI 8).toUInt32 &&& Int32.toUInt32 31)).toInt32
    let i5 := i4 + (i4.toUInt32 >>> ((nI 16).toUInt32 &&& Int32.toUInt32 31)).toInt32
    i5 &&& nI 63) (nI s) = nI (zcnt s) := by decide +kernel
theorem ct_bitCount {d : Nat} {h : zH} {s : Nat} (hs : s < 256) : zCall (d + 1) 290 [.int (nI s)] h (some (.int (nI (zcnt s))), h) := by
  rw [← zbitcount s hs]
  generalize nI s = i
  refine zG_m (t := tJ6_bitCount_0f7a4) (ls0 := [.int i]) rfl rfl (zdnI zdn0) rfl ?_
  refine zG_s rfl rfl ?_
  refine zG_s rfl rfl ?_
  refine zG_s rfl rfl ?_
  refine zG_s rfl rfl ?_
  refine zG_s rfl rfl ?_
  refine zG_s rfl rfl ?_
  refine zG_s rfl rfl ?_
  refine zN_st0 rfl (fun _ _ _ => rfl) rfl ?_
  refine zG_s rfl rfl ?_
  refine zG_s rfl rfl ?_
  refine zG_s rfl rfl ?_
  refine zG_s rfl rfl ?_
  refine zG_s rfl rfl ?_
  refine zG_s rfl rfl ?_
  refine zG_s rfl rfl ?_
  refine zG_s rfl rfl ?_
  refine zG_s rfl rfl ?_
  refine zN_st0 rfl (fun _ _ _ => rfl) rfl ?_
  refine zG_s rfl rfl ?_
  refine zG_s rfl rfl ?_
  refine zG_s rfl rfl ?_
  refine zG_s rfl rfl ?_
  refine zG_s rfl rfl ?_
  refine zG_s rfl rfl ?_
  refine zG_s rfl rfl ?_
  refine zG_s rfl rfl ?_
  refine zG_s rfl rfl ?_
  refine zG_s rfl rfl ?_
  refine zG_s rfl rfl ?_
  refine zG_s rfl rfl ?_
  refine zG_s rfl rfl ?_
  refine zN_st0 rfl (fun _ _ _ => rfl) rfl ?_
  refine zG_s rfl rfl ?_
  refine zG_s rfl rfl ?_
  refine zG_s rfl rfl ?_
  refine zG_s rfl rfl ?_
  refine zG_s rfl rfl ?_
  refine zN_st0 rfl (fun _ _ _ => rfl) rfl ?_
  refine zG_s rfl rfl ?_
  refine zG_s rfl rfl ?_
  refine zG_s rfl rfl ?_
  -- leaf 1
  exact zG_ret rfl rfl rfl
/-- the space's facts, as its methods want them -/
def zOk (n : Nat) (lo hi : Nat → Nat) : Prop := n ≤ 8 ∧ ∀ x, x < n → lo x < 256 ∧ hi x < 256
theorem ct_all {d : Nat} {h : zH} {o n : Nat} {q1 q2 : Value} (ho : h.2.2 o = .inr (7, [.int (nI n), q1, q2])) (hn : n ≤ 8) : zCall (d + 1) 59 [.ref o] h (some (.int (nI (1 <<< n - 1))), h) := by
  have hp : 1 ≤ 1 <<< n := by rw [Nat.one_shiftLeft]; exact Nat.one_le_two_pow
  refine zG_m (t := tX7_all) (ls0 := [.ref o]) rfl rfl (zdnR zdn0) rfl ?_
  refine zG_s rfl rfl ?_
  refine zG_s rfl rfl ?_
  refine zN_get rfl (by first | exact zeh_o | assumption) rfl ?_
  refine zN_shl rfl (by omega) ?_
  refine zG_s rfl rfl ?_
  refine zN_sub rfl (by omega) ?_
  -- leaf 1
  exact zG_ret rfl rfl rfl
theorem ct_hasPoint {d : Nat} {h : zH} {o n : Nat} {q1 q2 : Value} {x : Int32} (ho : h.2.2 o = .inr (7, [.int (nI n), q1, q2])) (hn : n ≤ 8) : zCall (d + 1) 60 [.ref o, .int x] h (some (.int (nI (b2n (zin x n)))), h) := by
  refine zG_m (t := tX7_hasPoint) (ls0 := [.ref o, .int x]) rfl rfl (zdnR (zdnI zdn0)) rfl ?_
  refine zG_s rfl rfl ?_
  refine zN_if rfl (fun c1 => ?_) (fun c2 => ?_)
  · skip
    refine zG_s rfl rfl ?_
    -- leaf 1
    exact zG_ret rfl rfl (by rw [zraw_lt0 c1]; rfl)
  · skip
    refine zG_s rfl rfl ?_
    refine zG_s rfl rfl ?_
    refine zN_get rfl (by first | exact zeh_o | assumption) rfl ?_
    refine zN_if2 rfl (fun c3 => ?_) (fun c4 => ?_)
    · skip
      refine zG_s rfl rfl ?_
      -- leaf 2
      exact zG_ret rfl rfl (by rw [zraw_ge (by omega) c3]; rfl)
    · skip
      refine zG_s rfl rfl ?_
      refine zG_s rfl rfl ?_
      -- leaf 3
      exact zG_ret rfl rfl (by rw [zraw_in (by omega) c2 c4]; rfl)
theorem ct_hasSet {d : Nat} {h : zH} {o n : Nat} {q1 q2 : Value} {x : Int32} (ho : h.2.2 o = .inr (7, [.int (nI n), q1, q2])) (hn : n ≤ 8) : zCall (d + 2) 61 [.ref o, .int x] h (some (.int (nI (b2n (zin x (1 <<< n))))), h) := by
  refine zG_m (t := tX7_hasSet) (ls0 := [.ref o, .int x]) rfl rfl (zdnR (zdnI zdn0)) rfl ?_
  refine zG_s rfl rfl ?_
  refine zG_s rfl rfl ?_
  refine zG_cV1 rfl rfl (by assumption) rfl rfl (ct_all ho (by omega)) ?_
  refine zG_s rfl rfl ?_
  refine zN_not rfl ?_
  refine zG_s rfl rfl ?_
  refine zN_if rfl (fun c1 => ?_) (fun c2 => ?_)
  · skip
    refine zG_s rfl rfl ?_
    -- leaf 1
    have e : zin x (1 <<< n) = false := by
      cases q : zin x (1 <<< n) with
      | false => rfl
      | true => exact absurd ((zmask_iff hn).mpr q) (of_decide_eq_true c1)
    rw [e]
    exact zG_ret rfl rfl rfl
  · skip
    refine zG_s rfl rfl ?_
    refine zG_s rfl rfl ?_
    -- leaf 2
    have e : zin x (1 <<< n) = true := by
      have c2 : decide (¬ x &&& (nI (1 <<< n - 1) ^^^ (-1)) = 0) = false := c2
      exact (zmask_iff hn).mp (Decidable.not_not.mp (of_decide_eq_false c2))
    rw [e]
    exact zG_ret rfl rfl rfl
theorem ct_below {d : Nat} {h : zH} {o n x : Nat} {lo hi : Nat → Nat} (hS : zSp h o n lo hi ∧ zOk n lo hi) (hx : x < n) : zCall (d + 1) 62 [.ref o, .int (nI x)] h (some (.int (nI (zan (lo x) (hi x)))), h) := by
  obtain ⟨⟨ho, fl, fh, hl, hh, hxx⟩, hn, hb⟩ := hS
  refine zG_m (t := tX7_strictlyBelow) (ls0 := [.ref o, .int (nI x)]) rfl rfl (zdnR (zdnI zdn0)) rfl ?_
  refine zG_s rfl rfl ?_
  refine zN_get rfl (by first | exact zeh_o | assumption) rfl ?_
  refine zG_s rfl rfl ?_
  refine zN_ald rfl (by assumption) (by omega) (by omega) (hxx x hx).1 ?_
  refine zG_s rfl rfl ?_
  refine zN_get rfl (by first | exact zeh_o | assumption) rfl ?_
  refine zG_s rfl rfl ?_
  refine zN_ald rfl (by assumption) (by omega) (by omega) (hxx x hx).2 ?_
  refine zG_s rfl rfl ?_
  refine zN_not rfl ?_
  refine zN_andn rfl ?_
  -- leaf 1
  exact zG_ret rfl rfl rfl
theorem ct_above {d : Nat} {h : zH} {o n x : Nat} {lo hi : Nat → Nat} (hS : zSp h o n lo hi ∧ zOk n lo hi) (hx : x < n) : zCall (d + 1) 63 [.ref o, .int (nI x)] h (some (.int (nI (zan (hi x) (lo x)))), h) := by
  obtain ⟨⟨ho, fl, fh, hl, hh, hxx⟩, hn, hb⟩ := hS
  refine zG_m (t := tX7_strictlyAbove) (ls0 := [.ref o, .int (nI x)]) rfl rfl (zdnR (zdnI zdn0)) rfl ?_
  refine zG_s rfl rfl ?_
  refine zN_get rfl (by first | exact zeh_o | assumption) rfl ?_
  refine zG_s rfl rfl ?_
  refine zN_ald rfl (by assumption) (by omega) (by omega) (hxx x hx).2 ?_
  refine zG_s rfl rfl ?_
  refine zN_get rfl (by first | exact zeh_o | assumption) rfl ?_
  refine zG_s rfl rfl ?_
  refine zN_ald rfl (by assumption) (by omega) (by omega) (hxx x hx).1 ?_
  refine zG_s rfl rfl ?_
  refine zN_not rfl ?_
  refine zN_andn rfl ?_
  -- leaf 1
  exact zG_ret rfl rfl rfl
theorem ct_closure {d : Nat} {h : zH} {o n s : Nat} {lo hi : Nat → Nat} (hS : zSp h o n lo hi ∧ zOk n lo hi) (hs : s < 256) : zCall (d + 1) 78 [.ref o, .int (nI s)] h (some (.int (nI (zbits (fun x => decide (lo x &&& s ≠ 0)) n))), h) := by
  obtain ⟨⟨ho, fl, fh, hl, hh, hx⟩, hn, hb⟩ := hS
  generalize hC : (fun x => decide (lo x &&& s ≠ 0)) = C
  have hCx : ∀ x, C x = decide (lo x &&& s ≠ 0) := fun x => by rw [← hC]
  refine zG_m (t := tX7_closure) (ls0 := [.ref o, .int (nI s), .null, .null]) rfl rfl (zdnR (zdnI zdn0)) rfl ?_
  refine zG_s rfl rfl ?_
  refine zN_st2 rfl (fun _ _ _ => rfl) rfl ?_
  refine zG_s rfl rfl ?_
  refine zN_st3 rfl (fun _ _ _ => rfl) rfl ?_
  have main4 : ∀ p, p ≤ n → zGo (d) tX7_closure 4 [.ref o, .int (nI s), .int (nI (zbits C p)), .int (nI p)] [] h (some (.int (nI (zbits C n))), h) := by
    refine zdown (n) ?_ (fun p hp4 ih4 => ?_)
    · skip
      refine zG_s rfl rfl ?_
      refine zG_s rfl rfl ?_
      refine zN_get rfl (by first | exact zeh_o | assumption) rfl ?_
      refine zN_ige rfl (by omega) (by omega) (fun c1 => ?_) (fun c2 => absurd c2 (by omega))
      refine zG_s rfl rfl ?_
      -- leaf 1
      exact zG_ret rfl rfl rfl
    · skip
      have b1 := (hb p hp4).1
      have b2 := zand_lt s b1
      refine zG_s rfl rfl ?_
      refine zG_s rfl rfl ?_
      refine zN_get rfl (by first | exact zeh_o | assumption) rfl ?_
      refine zN_ige rfl (by omega) (by omega) (fun c3 => absurd c3 (by omega)) (fun c4 => ?_)
      refine zG_s rfl rfl ?_
      refine zN_get rfl (by first | exact zeh_o | assumption) rfl ?_
      refine zG_s rfl rfl ?_
      refine zN_ald rfl (by assumption) (by omega) (by omega) (hx p hp4).1 ?_
      refine zG_s rfl rfl ?_
      refine zN_and rfl ?_
      first | refine zN_ifb rfl (fun c5 => ?_) (fun c6 => ?_) | refine zN_eq0 rfl (by omega) (fun c5 => ?_) (fun c6 => ?_)
      · skip
        refine zN_inc3 rfl rfl ?_
        refine zG_s rfl rfl ?_
        -- leaf 2
        rw [zbits_no (by rw [hCx, c5]; rfl)] at ih4
        exact ih4
      · skip
        refine zG_s rfl rfl ?_
        refine zG_s rfl rfl ?_
        refine zG_s rfl rfl ?_
        refine zN_shl rfl (by omega) ?_
        refine zN_or rfl ?_
        refine zN_st2 rfl (fun _ _ _ => rfl) rfl ?_
        refine zN_inc3 rfl rfl ?_
        refine zG_s rfl rfl ?_
        -- leaf 3
        rw [zbits_yes (by rw [hCx]; exact decide_eq_true (by omega))] at ih4
        exact ih4
  exact main4 0 (by omega)
