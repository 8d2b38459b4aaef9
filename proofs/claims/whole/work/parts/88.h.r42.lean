theorem cr_isBeside {d r s t n n2 u v : Nat} {h : zH} {S : zRS} {lo lo2 : Nat → Nat} (hS : zRs S s n lo) (hT : zRs S t n2 lo2) (hn : n ≤ 8) (hP2 : zPre n2 lo2) (hu : u < 2 ^ 31) (hv : v < 2 ^ 31) (hD : ∀ i, i < n → zDig u i < n2) : zCall (d + 2) 238 [.ref r, .int (nI s), .int (nI t), .int (nI u), .int (nI v)] (zRh h r S) (some (.int (nI (b2n (zNr n lo2 (zTr n2 lo2) u v)))), zRh h r S) := by
  have hs10 := hS.2.1
  have ht10 := hT.2.1
  have hn2 := hP2.1
  refine zG_m (t := tX10_isBeside) (ls0 := [.ref r, .int (nI s), .int (nI t), .int (nI u), .int (nI v), .null, .null, .null]) rfl rfl (zdnR (zdnI (zdnI (zdnI (zdnI zdn0))))) rfl ?_
  refine zG_s rfl rfl ?_
  refine zN_st5 rfl (fun _ _ _ => rfl) rfl ?_
  refine zG_s rfl rfl ?_
  refine zN_st6 rfl (fun _ _ _ => rfl) rfl ?_
  refine zG_s rfl rfl ?_
  refine zN_st7 rfl (fun _ _ _ => rfl) rfl ?_
  have main9 : ∀ x, x ≤ n → zGo (d + 1) tX10_isBeside 9 [.ref r, .int (nI s), .int (nI t), .int (nI u), .int (nI v), .int (nI (b2n (zAl (zFnM n lo2 u v) x))), .int (nI (b2n (zAl (zFnM n (zTr n2 lo2) u v) x))), .int (nI x)] [] (zRh h r S) (some (.int (nI (b2n (zNr n lo2 (zTr n2 lo2) u v)))), zRh h r S) := by
    refine zdown (n) ?_ (fun x hp9 ih9 => ?_)
    · skip
      refine zG_s rfl rfl ?_
      refine zG_s rfl rfl ?_
      refine zN_get rfl zRh_o rfl ?_
      refine zG_s rfl rfl ?_
      refine zR_ald (k := 3) (n := 10) rfl rfl (by omega) hS.1 ?_
      refine zN_ige rfl (by omega) (by omega) (fun c1 => ?_) (fun c2 => absurd c2 (by omega))
      refine zG_s rfl rfl ?_
      first | refine zN_ifnb rfl (fun c3 => ?_) (fun c4 => ?_) | refine zN_ne0 rfl (by omega) (fun c3 => ?_) (fun c4 => ?_)
      · skip
        refine zG_s rfl rfl ?_
        refine zG_s rfl rfl ?_
        -- leaf 1
        exact zG_ret rfl rfl (zmr1 (by unfold zNr; rw [c3]; rfl))
      · skip
        refine zG_s rfl rfl ?_
        first | refine zN_ifb rfl (fun c5 => ?_) (fun c6 => ?_) | refine zN_eq0 rfl (by omega) (fun c5 => ?_) (fun c6 => ?_)
        · skip
          refine zG_s rfl rfl ?_
          -- leaf 2
          exact zG_ret rfl rfl (zmr0 (by unfold zNr; rw [c4, c5]; rfl))
        · skip
          refine zG_s rfl rfl ?_
          refine zG_s rfl rfl ?_
          -- leaf 3
          exact zG_ret rfl rfl (zmr1 (by unfold zNr; rw [c6, Bool.or_true]))
    · skip
      have hdx := hD x hp9
      have hdv := zDig_lt v x
      have hlb := hP2.b hdx
      have hhb := hP2.h (x := zDig u x)
      refine zG_s rfl rfl ?_
      refine zG_s rfl rfl ?_
      refine zN_get rfl zRh_o rfl ?_
      refine zG_s rfl rfl ?_
      refine zR_ald (k := 3) (n := 10) rfl rfl (by omega) hS.1 ?_
      refine zN_ige rfl (by omega) (by omega) (fun c7 => absurd c7 (by omega)) (fun c8 => ?_)
      have jn59 : ∀ w : Bool, w = zAl (zFnM n lo2 u v) (x + 1) → zGo (d + 1) tX10_isBeside 59 [.ref r, .int (nI s), .int (nI t), .int (nI u), .int (nI v), .int (nI (b2n (zAl (zFnM n lo2 u v) x))), .int (nI (b2n (zAl (zFnM n (zTr n2 lo2) u v) x))), .int (nI x)] [.int (nI (b2n w))] (zRh h r S) (some (.int (nI (b2n (zNr n lo2 (zTr n2 lo2) u v)))), zRh h r S) := by
        intro w ew
        subst ew
        refine zN_st5 rfl (fun _ _ _ => rfl) rfl ?_
        have jn100 : ∀ w : Bool, w = zAl (zFnM n (zTr n2 lo2) u v) (x + 1) → zGo (d + 1) tX10_isBeside 100 [.ref r, .int (nI s), .int (nI t), .int (nI u), .int (nI v), .int (nI (b2n (zAl (zFnM n lo2 u v) (x + 1)))), .int (nI (b2n (zAl (zFnM n (zTr n2 lo2) u v) x))), .int (nI x)] [.int (nI (b2n w))] (zRh h r S) (some (.int (nI (b2n (zNr n lo2 (zTr n2 lo2) u v)))), zRh h r S) := by
          intro w ew
          subst ew
          refine zN_st6 rfl (fun _ _ _ => rfl) rfl ?_
          refine zN_inc7 rfl rfl ?_
          refine zG_s rfl rfl ?_
          -- leaf 4
          exact ih9
        refine zG_s rfl rfl ?_
        first | refine zN_ifb rfl (fun c9 => ?_) (fun c10 => ?_) | refine zN_eq0 rfl (by omega) (fun c9 => ?_) (fun c10 => ?_)
        · skip
          refine zG_s rfl rfl ?_
          -- leaf 5
          exact jn100 false (by rw [zAl, c9]; rfl)
        · skip
          refine zG_s rfl rfl ?_
          refine zN_get rfl zRh_o rfl ?_
          refine zG_s rfl rfl ?_
          refine zG_s rfl rfl ?_
          refine zN_mul rfl ?_
          refine zG_s rfl rfl ?_
          refine zG_s rfl rfl ?_
          refine zG_cS1 rfl rfl (cr_imageOf (by omega) (by omega)) ?_
          refine zN_add rfl ?_
          refine zR_ald (k := 2) (n := 80) rfl rfl (by omega) (hT.2.2 _ hdx).2 ?_
          refine zG_s rfl rfl ?_
          refine zG_s rfl rfl ?_
          refine zG_cS1 rfl rfl (cr_imageOf (by omega) (by omega)) ?_
          refine zG_cS1 rfl rfl (cr_has _ (by omega) (by omega)) ?_
          first | refine zN_ifb rfl (fun c11 => ?_) (fun c12 => ?_) | refine zN_eq0 rfl (by omega) (fun c11 => ?_) (fun c12 => ?_)
          · skip
            refine zG_s rfl rfl ?_
            -- leaf 6
            exact jn100 false (by rw [zAl, c10, show zFnM n (zTr n2 lo2) u v x = false from c11]; rfl)
          · skip
            refine zG_s rfl rfl ?_
            refine zG_s rfl rfl ?_
            -- leaf 7
            exact jn100 true (by rw [zAl, c10, show zFnM n (zTr n2 lo2) u v x = true from c12]; rfl)
      refine zG_s rfl rfl ?_
      first | refine zN_ifb rfl (fun c13 => ?_) (fun c14 => ?_) | refine zN_eq0 rfl (by omega) (fun c13 => ?_) (fun c14 => ?_)
      · skip
        refine zG_s rfl rfl ?_
        -- leaf 8
        exact jn59 false (by rw [zAl, c13]; rfl)
      · skip
        refine zG_s rfl rfl ?_
        refine zN_get rfl zRh_o rfl ?_
        refine zG_s rfl rfl ?_
        refine zG_s rfl rfl ?_
        refine zN_mul rfl ?_
        refine zG_s rfl rfl ?_
        refine zG_s rfl rfl ?_
        refine zG_cS1 rfl rfl (cr_imageOf (by omega) (by omega)) ?_
        refine zN_add rfl ?_
        refine zR_ald (k := 1) (n := 80) rfl rfl (by omega) (hT.2.2 _ hdx).1 ?_
        refine zG_s rfl rfl ?_
        refine zG_s rfl rfl ?_
        refine zG_cS1 rfl rfl (cr_imageOf (by omega) (by omega)) ?_
        refine zG_cS1 rfl rfl (cr_has _ (by omega) (by omega)) ?_
        first | refine zN_ifb rfl (fun c15 => ?_) (fun c16 => ?_) | refine zN_eq0 rfl (by omega) (fun c15 => ?_) (fun c16 => ?_)
        · skip
          refine zG_s rfl rfl ?_
          -- leaf 9
          exact jn59 false (by rw [zAl, c14, show zFnM n lo2 u v x = false from c15]; rfl)
        · skip
          refine zG_s rfl rfl ?_
          refine zG_s rfl rfl ?_
          -- leaf 10
          exact jn59 true (by rw [zAl, c14, show zFnM n lo2 u v x = true from c16]; rfl)
  exact main9 0 (by omega)
