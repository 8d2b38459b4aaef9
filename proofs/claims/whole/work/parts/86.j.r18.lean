theorem cr_imageOf {d : Nat} {h : zH} {w x : Nat} (hw : w < 2 ^ 31) (hx : 3 * x < 32) : zCall (d + 1) 233 [.int (nI w), .int (nI x)] h (some (.int (nI (zDig w x))), h) := by
  refine zG_m (t := tX10_imageOf) (ls0 := [.int (nI w), .int (nI x)]) rfl rfl (zdnI (zdnI zdn0)) rfl ?_
  refine zG_s rfl rfl ?_
  refine zG_s rfl rfl ?_
  refine zG_s rfl rfl ?_
  refine zN_mul (x := 3) rfl ?_
  refine zN_shr rfl (by omega) (by omega) ?_
  refine zG_s rfl rfl ?_
  refine zN_and rfl ?_
  -- leaf 1
  exact zG_ret rfl rfl rfl
theorem cr_isMapT {d r s t n n2 w : Nat} {h : zH} {S : zRS} {lo lo2 : Nat → Nat} (hS : zRs S s n lo) (hT : zRs S t n2 lo2) (hn : n ≤ 8) (hn2 : n2 ≤ 8) (hw : w < 1 <<< (3 * n)) : zCall (d + 2) 234 [.ref r, .int (nI s), .int (nI t), .int (nI w)] (zRh h r S) (some (.int (nI (b2n (zAl (fun i => decide (zDig w i < n2)) n)))), zRh h r S) := by
  have hs := hS.2.1
  have ht := hT.2.1
  have hp : 1 <<< (3 * n) ≤ 2 ^ 24 := by
    rw [Nat.one_shiftLeft]
    exact Nat.pow_le_pow_right (by omega) (by omega)
  have hz : w >>> (3 * n) = 0 := by
    rw [Nat.shiftRight_eq_div_pow]
    rw [Nat.one_shiftLeft] at hw
    exact Nat.div_eq_of_lt hw
  refine zG_m (t := tX10_isMap) (ls0 := [.ref r, .int (nI s), .int (nI t), .int (nI w), .null, .null]) rfl rfl (zdnR (zdnI (zdnI (zdnI zdn0)))) rfl ?_
  refine zG_s rfl rfl ?_
  refine zN_lt0 rfl (by omega) ?_
  refine zG_s rfl rfl ?_
  refine zG_s rfl rfl ?_
  refine zG_s rfl rfl ?_
  refine zN_get rfl zRh_o rfl ?_
  refine zG_s rfl rfl ?_
  refine zR_ald (k := 3) (n := 10) rfl rfl (by omega) hS.1 ?_
  refine zN_mul (x := 3) rfl ?_
  refine zN_shr rfl (by omega) (by omega) ?_
  rw [hz]
  refine zN_ne0 rfl (by omega) (fun c => absurd c (by omega)) (fun _ => ?_)
  refine zG_s rfl rfl ?_
  refine zG_s rfl rfl ?_
  refine zN_st4 rfl (fun _ _ _ => rfl) rfl ?_
  refine zG_s rfl rfl ?_
  refine zN_st5 rfl (fun _ _ _ => rfl) rfl ?_
  have main27 : ∀ i, i ≤ n → zGo (d + 1) tX10_isMap 27 [.ref r, .int (nI s), .int (nI t), .int (nI w), .int (nI (b2n (zAl (fun i => decide (zDig w i < n2)) i))), .int (nI i)] [] (zRh h r S) (some (.int (nI (b2n (zAl (fun i => decide (zDig w i < n2)) n)))), zRh h r S) := by
    refine zdown (n) ?_ (fun i hp27 ih27 => ?_)
    · skip
      refine zG_s rfl rfl ?_
      refine zG_s rfl rfl ?_
      refine zN_get rfl zRh_o rfl ?_
      refine zG_s rfl rfl ?_
      refine zR_ald (k := 3) (n := 10) rfl rfl (by omega) hS.1 ?_
      refine zN_ige rfl (by omega) (by omega) (fun c5 => ?_) (fun c6 => absurd c6 (by omega))
      refine zG_s rfl rfl ?_
      -- leaf 1
      exact zG_retb rfl (fun k => by cases k <;> rfl) rfl
    · skip
      have hes : zAl (fun i => decide (zDig w i < n2)) (i + 1) = (zAl (fun i => decide (zDig w i < n2)) i && decide (zDig w i < n2)) := rfl
      rw [hes] at ih27
      clear hes
      have hdl := zDig_lt w i
      generalize zAl (fun i => decide (zDig w i < n2)) i = bb at *
      refine zG_s rfl rfl ?_
      refine zG_s rfl rfl ?_
      refine zN_get rfl zRh_o rfl ?_
      refine zG_s rfl rfl ?_
      refine zR_ald (k := 3) (n := 10) rfl rfl (by omega) hS.1 ?_
      refine zN_ige rfl (by omega) (by omega) (fun c7 => absurd c7 (by omega)) (fun c8 => ?_)
      refine zG_s rfl rfl ?_
      refine zN_ifb rfl (fun c9 => ?_) (fun c10 => ?_)
      · skip
        refine zG_s rfl rfl ?_
        refine zN_st4 rfl (fun _ _ _ => rfl) rfl ?_
        refine zN_inc5 rfl rfl ?_
        refine zG_s rfl rfl ?_
        -- leaf 2
        rw [c9] at ih27
        exact ih27
      · skip
        refine zG_s rfl rfl ?_
        refine zG_s rfl rfl ?_
        refine zG_cS1 rfl rfl (cr_imageOf (by omega) (by omega)) ?_
        refine zG_s rfl rfl ?_
        refine zN_get rfl zRh_o rfl ?_
        refine zG_s rfl rfl ?_
        refine zR_ald (k := 3) (n := 10) rfl rfl (by omega) hT.1 ?_
        refine zN_ige rfl (by omega) (by omega) (fun c11 => ?_) (fun c12 => ?_)
        · skip
          refine zG_s rfl rfl ?_
          refine zN_st4 rfl (fun _ _ _ => rfl) rfl ?_
          refine zN_inc5 rfl rfl ?_
          refine zG_s rfl rfl ?_
          -- leaf 3
          rw [c10, decide_eq_false (by omega)] at ih27
          exact ih27
        · skip
          refine zG_s rfl rfl ?_
          refine zG_s rfl rfl ?_
          refine zN_st4 rfl (fun _ _ _ => rfl) rfl ?_
          refine zN_inc5 rfl rfl ?_
          refine zG_s rfl rfl ?_
          -- leaf 4
          rw [c10, decide_eq_true (by omega)] at ih27
          exact ih27
  exact main27 0 (by omega)
theorem cr_isMapF {d r s t n n2 : Nat} {h : zH} {S : zRS} {lo lo2 : Nat → Nat} {x : Int32} (hS : zRs S s n lo) (hT : zRs S t n2 lo2) (hn : n ≤ 8) (hn2 : n2 ≤ 8) (hx : zin x (1 <<< (3 * n)) = false) : zCall (d + 2) 234 [.ref r, .int (nI s), .int (nI t), .int x] (zRh h r S) (some (.int (nI (b2n false))), zRh h r S) := by
  have hs := hS.2.1
  have ht := hT.2.1
  refine zG_m (t := tX10_isMap) (ls0 := [.ref r, .int (nI s), .int (nI t), .int x, .null, .null]) rfl rfl (zdnR (zdnI (zdnI (zdnI zdn0)))) rfl ?_
  refine zG_s rfl rfl ?_
  have jn22 : True → zGo (d + 1) tX10_isMap 22 [.ref r, .int (nI s), .int (nI t), .int x, .null, .null] [.int (nI (b2n false))] (zRh h r S) (some (.int (nI (b2n false))), zRh h r S) := by
    intro _
    refine zN_st4 rfl (fun _ _ _ => rfl) rfl ?_
    refine zG_s rfl rfl ?_
    refine zN_st5 rfl (fun _ _ _ => rfl) rfl ?_
    have main27 : ∀ i, i ≤ n → zGo (d + 1) tX10_isMap 27 [.ref r, .int (nI s), .int (nI t), .int x, .int (nI (b2n false)), .int (nI i)] [] (zRh h r S) (some (.int (nI (b2n false))), zRh h r S) := by
      refine zdown (n) ?_ (fun i hp27 ih27 => ?_)
      · skip
        refine zG_s rfl rfl ?_
        refine zG_s rfl rfl ?_
        refine zN_get rfl zRh_o rfl ?_
        refine zG_s rfl rfl ?_
        refine zR_ald (k := 3) (n := 10) rfl rfl (by omega) hS.1 ?_
        refine zN_ige rfl (by omega) (by omega) (fun c1 => ?_) (fun c2 => absurd c2 (by omega))
        refine zG_s rfl rfl ?_
        -- leaf 1
        exact zG_ret rfl rfl rfl
      · skip
        refine zG_s rfl rfl ?_
        refine zG_s rfl rfl ?_
        refine zN_get rfl zRh_o rfl ?_
        refine zG_s rfl rfl ?_
        refine zR_ald (k := 3) (n := 10) rfl rfl (by omega) hS.1 ?_
        refine zN_ige rfl (by omega) (by omega) (fun c3 => absurd c3 (by omega)) (fun c4 => ?_)
        refine zG_s rfl rfl ?_
        refine zN_ifb rfl (fun _ => ?_) (fun c => absurd c (by decide))
        refine zG_s rfl rfl ?_
        refine zN_st4 rfl (fun _ _ _ => rfl) rfl ?_
        refine zN_inc5 rfl rfl ?_
        refine zG_s rfl rfl ?_
        -- leaf 2
        exact ih27
    exact main27 0 (by omega)
  refine zN_if rfl (fun c7 => ?_) (fun c8 => ?_)
  · skip
    refine zG_s rfl rfl ?_
    -- leaf 3
    exact jn22 trivial
  · skip
    refine zG_s rfl rfl ?_
    refine zG_s rfl rfl ?_
    refine zG_s rfl rfl ?_
    refine zN_get rfl zRh_o rfl ?_
    refine zG_s rfl rfl ?_
    refine zR_ald (k := 3) (n := 10) rfl rfl (by omega) hS.1 ?_
    refine zN_mul (x := 3) rfl ?_
    refine zG_s rfl rfl ?_
    refine zN_if rfl (fun c9 => ?_) (fun c10 => ?_)
    · skip
      refine zG_s rfl rfl ?_
      -- leaf 4
      exact jn22 trivial
    · skip
      refine zG_s rfl rfl ?_
      refine zG_s rfl rfl ?_
      -- leaf 5
      exfalso
      have e := (zcode30_iff (k := 3 * n) (x := x) (by omega)).mp ⟨c8, Classical.not_not.mp (of_decide_eq_false c10)⟩
      rw [hx] at e
      exact absurd e (by decide)
theorem cr_isMap {d r s t n n2 : Nat} {h : zH} {S : zRS} {lo lo2 : Nat → Nat} {x : Int32} (hS : zRs S s n lo) (hT : zRs S t n2 lo2) (hn : n ≤ 8) (hn2 : n2 ≤ 8) : zCall (d + 2) 234 [.ref r, .int (nI s), .int (nI t), .int x] (zRh h r S) (some (.int (nI (b2n (zMp n n2 x)))), zRh h r S) := by
  have hp : 1 <<< (3 * n) ≤ 2 ^ 24 := by
    rw [Nat.one_shiftLeft]
    exact Nat.pow_le_pow_right (by omega) (by omega)
  cases q : zin x (1 <<< (3 * n)) with
  | false =>
    rw [show zMp n n2 x = false from by rw [zMp, q]; rfl]
    exact cr_isMapF hS hT hn hn2 q
  | true =>
    obtain ⟨w, hw, rfl⟩ := zin_of q (by omega)
    rw [show zMp n n2 (nI w) = zAl (fun i => decide (zDig w i < n2)) n from by rw [zMp, q, Bool.true_and, nI_cl (by omega)]]
    exact cr_isMapT hS hT hn hn2 hw
