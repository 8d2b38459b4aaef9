theorem zP8_n {n p : Nat} (hn : n ≤ 8) (hp : p < 1 <<< n) : zcnt p = zPos p n := zct_none hn (fun i h1 _ => by
  cases e : p.testBit i with
  | false => rfl
  | true => exact absurd (zlt_bit hp e) (by omega))
theorem zProL_row {n m x : Nat} {lo lo2 : Nat → Nat} (hP2 : zPre m lo2) (hx : x < n * m) : zProL n m lo lo2 x = zbits (fun y => (lo (x / m)).testBit (y / m) && (lo2 (x % m)).testBit (y % m)) (n * m) := by
  have hm : 0 < m := by
    rcases Nat.eq_zero_or_pos m with e | e
    · rw [e, Nat.mul_zero] at hx; omega
    · exact e
  have h2 : ∀ x, x < m → lo2 x < 1 <<< m := fun x hx => (hP2.2 x hx).1
  refine zext (fun i => ?_)
  rw [zbits_bit]
  by_cases hi : i < n * m
  · rw [zProL_bit h2 hm hi, decide_eq_true hi, Bool.true_and]
  · rw [decide_eq_false hi, Bool.false_and]
    cases e : (zProL n m lo lo2 x).testBit i with
    | false => rfl
    | true => exact absurd (zProL_hi h2 hm e) hi
theorem cr_mm1 {d r i k n n2 : Nat} {h : zH} {S : zRS} {lo lo2 : Nat → Nat} (hS : zRs S i n lo) (hT : zRs S k n2 lo2) : zCall (d + 1) 254 [.ref r, .int (nI 1), .int (nI i), .int (nI k)] (zRh h r S) (some (.int (nI (n + n2))), zRh h r S) := by
  have hi := hS.2.1
  have hk := hT.2.1
  refine zG_m (t := tX10_manyMade) (ls0 := [.ref r, .int (nI 1), .int (nI i), .int (nI k)]) rfl rfl (zdnR (zdnI (zdnI (zdnI zdn0)))) rfl ?_
  refine zG_s rfl rfl ?_
  refine zG_s rfl rfl ?_
  refine zG_s rfl rfl ?_
  refine zN_get rfl zRh_o rfl ?_
  refine zG_s rfl rfl ?_
  refine zR_ald (k := 3) (n := 10) rfl rfl (by omega) hS.1 ?_
  refine zG_s rfl rfl ?_
  refine zN_get rfl zRh_o rfl ?_
  refine zG_s rfl rfl ?_
  refine zR_ald (k := 3) (n := 10) rfl rfl (by omega) hT.1 ?_
  refine zN_add rfl ?_
  -- leaf 1
  exact zG_ret rfl rfl rfl
theorem cr_mm2 {d r i k n n2 : Nat} {h : zH} {S : zRS} {lo lo2 : Nat → Nat} (hS : zRs S i n lo) (hT : zRs S k n2 lo2) : zCall (d + 1) 254 [.ref r, .int (nI 2), .int (nI i), .int (nI k)] (zRh h r S) (some (.int (nI (n + n2))), zRh h r S) := by
  have hi := hS.2.1
  have hk := hT.2.1
  refine zG_m (t := tX10_manyMade) (ls0 := [.ref r, .int (nI 2), .int (nI i), .int (nI k)]) rfl rfl (zdnR (zdnI (zdnI (zdnI zdn0)))) rfl ?_
  refine zG_s rfl rfl ?_
  refine zG_s rfl rfl ?_
  refine zG_s rfl rfl ?_
  refine zN_get rfl zRh_o rfl ?_
  refine zG_s rfl rfl ?_
  refine zR_ald (k := 3) (n := 10) rfl rfl (by omega) hS.1 ?_
  refine zG_s rfl rfl ?_
  refine zN_get rfl zRh_o rfl ?_
  refine zG_s rfl rfl ?_
  refine zR_ald (k := 3) (n := 10) rfl rfl (by omega) hT.1 ?_
  refine zN_add rfl ?_
  -- leaf 1
  exact zG_ret rfl rfl rfl
theorem cr_mm3 {d r i k n n2 : Nat} {h : zH} {S : zRS} {lo lo2 : Nat → Nat} (hS : zRs S i n lo) (hT : zRs S k n2 lo2) : zCall (d + 1) 254 [.ref r, .int (nI 3), .int (nI i), .int (nI k)] (zRh h r S) (some (.int (nI (n * n2))), zRh h r S) := by
  have hi := hS.2.1
  have hk := hT.2.1
  refine zG_m (t := tX10_manyMade) (ls0 := [.ref r, .int (nI 3), .int (nI i), .int (nI k)]) rfl rfl (zdnR (zdnI (zdnI (zdnI zdn0)))) rfl ?_
  refine zG_s rfl rfl ?_
  refine zG_s rfl rfl ?_
  refine zG_s rfl rfl ?_
  refine zN_get rfl zRh_o rfl ?_
  refine zG_s rfl rfl ?_
  refine zR_ald (k := 3) (n := 10) rfl rfl (by omega) hS.1 ?_
  refine zG_s rfl rfl ?_
  refine zN_get rfl zRh_o rfl ?_
  refine zG_s rfl rfl ?_
  refine zR_ald (k := 3) (n := 10) rfl rfl (by omega) hT.1 ?_
  refine zN_mul rfl ?_
  -- leaf 1
  exact zG_ret rfl rfl rfl
theorem cr_mm4 {d r i n : Nat} {h : zH} {S : zRS} {lo : Nat → Nat} {c : Int32} (hS : zRs S i n lo) : zCall (d + 1) 254 [.ref r, .int (nI 4), .int (nI i), .int c] (zRh h r S) (some (.int (nI (n + 1))), zRh h r S) := by
  have hi := hS.2.1
  refine zG_m (t := tX10_manyMade) (ls0 := [.ref r, .int (nI 4), .int (nI i), .int c]) rfl rfl (zdnR (zdnI (zdnI (zdnI zdn0)))) rfl ?_
  refine zG_s rfl rfl ?_
  refine zG_s rfl rfl ?_
  refine zG_s rfl rfl ?_
  refine zN_get rfl zRh_o rfl ?_
  refine zG_s rfl rfl ?_
  refine zR_ald (k := 3) (n := 10) rfl rfl (by omega) hS.1 ?_
  refine zG_s rfl rfl ?_
  refine zN_add rfl ?_
  -- leaf 1
  exact zG_ret rfl rfl rfl
theorem cr_mm5 {d r i n : Nat} {h : zH} {S : zRS} {lo : Nat → Nat} {c : Int32} (hS : zRs S i n lo) : zCall (d + 1) 254 [.ref r, .int (nI 5), .int (nI i), .int c] (zRh h r S) (some (.int (nI (n + 2))), zRh h r S) := by
  have hi := hS.2.1
  refine zG_m (t := tX10_manyMade) (ls0 := [.ref r, .int (nI 5), .int (nI i), .int c]) rfl rfl (zdnR (zdnI (zdnI (zdnI zdn0)))) rfl ?_
  refine zG_s rfl rfl ?_
  refine zG_s rfl rfl ?_
  refine zG_s rfl rfl ?_
  refine zN_get rfl zRh_o rfl ?_
  refine zG_s rfl rfl ?_
  refine zR_ald (k := 3) (n := 10) rfl rfl (by omega) hS.1 ?_
  refine zG_s rfl rfl ?_
  refine zN_add rfl ?_
  -- leaf 1
  exact zG_ret rfl rfl rfl
theorem cr_mm0 {d r i n : Nat} {h : zH} {S : zRS} {lo : Nat → Nat} {c : Int32} (hS : zRs S i n lo) : zCall (d + 1) 254 [.ref r, .int (nI 0), .int (nI i), .int c] (zRh h r S) (some (.int (nI (n))), zRh h r S) := by
  have hi := hS.2.1
  refine zG_m (t := tX10_manyMade) (ls0 := [.ref r, .int (nI 0), .int (nI i), .int c]) rfl rfl (zdnR (zdnI (zdnI (zdnI zdn0)))) rfl ?_
  refine zG_s rfl rfl ?_
  refine zG_s rfl rfl ?_
  refine zG_s rfl rfl ?_
  refine zN_ne0 (x := 0) rfl (by omega) (fun q => absurd q (by decide)) (fun c2 => ?_)
  refine zG_s rfl rfl ?_
  refine zN_get rfl zRh_o rfl ?_
  refine zG_s rfl rfl ?_
  refine zR_ald (k := 3) (n := 10) rfl rfl (by omega) hS.1 ?_
  refine zG_s rfl rfl ?_
  -- leaf 1
  exact zG_ret rfl rfl rfl
theorem cr_mm6 {d r i n : Nat} {h : zH} {S : zRS} {lo : Nat → Nat} {c : Int32} (hS : zRs S i n lo) (hP : zPre n lo) : zCall (d + 4) 254 [.ref r, .int (nI 6), .int (nI i), .int c] (zRh h r S) (some (.int (nI (zcnt (zFst n lo (zTr n lo))))), zRh h r S) := by
  have hi := hS.2.1
  have hf : zFst n lo (zTr n lo) < 256 := zbits_lt8 _ hP.1
  refine zG_m (t := tX10_manyMade) (ls0 := [.ref r, .int (nI 6), .int (nI i), .int c]) rfl rfl (zdnR (zdnI (zdnI (zdnI zdn0)))) rfl ?_
  refine zG_s rfl rfl ?_
  refine zG_s rfl rfl ?_
  refine zG_s rfl rfl ?_
  refine zN_ne0 (x := 6) rfl (by omega) (fun c1 => ?_) (fun q => absurd q (by decide))
  refine zG_s rfl rfl ?_
  refine zG_s rfl rfl ?_
  refine zG_cV1 rfl rfl zRh_o rfl rfl (cr_firsts hS hP) ?_
  refine zG_cS1 rfl rfl (cr_size (by omega)) ?_
  -- leaf 1
  exact zG_ret rfl rfl rfl
theorem cr_low0 {d r i n x : Nat} {c : Int32} {h : zH} {S : zRS} {lo : Nat → Nat} (hS : zRs S i n lo) (hn : n ≤ 8) (hx : x < n) : zCall (d + 2) 255 [.ref r, .int (nI 0), .int (nI i), .int c, .int (nI x)] (zRh h r S) (some (.int (nI (zTr n lo x))), zRh h r S) := by
  have hi := hS.2.1
  refine zG_m (t := tX10_lowMade) (ls0 := [.ref r, .int (nI 0), .int (nI i), .int c, .int (nI x), .null, .null, .null, .null]) rfl rfl (zdnR (zdnI (zdnI (zdnI (zdnI zdn0))))) rfl ?_
  refine zG_s rfl rfl ?_
  refine zN_get rfl zRh_o rfl ?_
  refine zG_s rfl rfl ?_
  refine zR_ald (k := 3) (n := 10) rfl rfl (by omega) hS.1 ?_
  refine zN_st5 rfl (fun _ _ _ => rfl) rfl ?_
  refine zG_s rfl rfl ?_
  refine zG_s rfl rfl ?_
  refine zN_ine (x := 0) (y := 3) rfl (by omega) (by omega) (fun c1 => ?_) (fun q => absurd q (by decide))
  refine zG_s rfl rfl ?_
  refine zN_ne0 (x := 0) rfl (by omega) (fun q => absurd q (by decide)) (fun c4 => ?_)
  refine zG_s rfl rfl ?_
  refine zN_get rfl zRh_o rfl ?_
  refine zG_s rfl rfl ?_
  refine zG_s rfl rfl ?_
  refine zN_mul rfl ?_
  refine zG_s rfl rfl ?_
  refine zN_add rfl ?_
  refine zR_ald (k := 2) (n := 80) rfl rfl (by omega) (hS.2.2 _ (by omega)).2 ?_
  -- leaf 1
  exact zG_ret rfl rfl rfl
theorem cr_low1 {d r i k n n2 x : Nat} {h : zH} {S : zRS} {lo lo2 : Nat → Nat} (hS : zRs S i n lo) (hn : n ≤ 8) (hT : zRs S k n2 lo2) (hn2 : n2 ≤ 8) (hx : x < n + n2) : zCall (d + 2) 255 [.ref r, .int (nI 1), .int (nI i), .int (nI k), .int (nI x)] (zRh h r S) (some (.int (nI (zSumL n lo lo2 0 x))), zRh h r S) := by
  have hi := hS.2.1
  have hk := hT.2.1
  refine zG_m (t := tX10_lowMade) (ls0 := [.ref r, .int (nI 1), .int (nI i), .int (nI k), .int (nI x), .null, .null, .null, .null]) rfl rfl (zdnR (zdnI (zdnI (zdnI (zdnI zdn0))))) rfl ?_
  refine zG_s rfl rfl ?_
  refine zN_get rfl zRh_o rfl ?_
  refine zG_s rfl rfl ?_
  refine zR_ald (k := 3) (n := 10) rfl rfl (by omega) hS.1 ?_
  refine zN_st5 rfl (fun _ _ _ => rfl) rfl ?_
  refine zG_s rfl rfl ?_
  refine zG_s rfl rfl ?_
  refine zN_ine (x := 1) (y := 3) rfl (by omega) (by omega) (fun c1 => ?_) (fun q => absurd q (by decide))
  refine zG_s rfl rfl ?_
  refine zN_ne0 (x := 1) rfl (by omega) (fun c3 => ?_) (fun q => absurd q (by decide))
  refine zG_s rfl rfl ?_
  refine zG_s rfl rfl ?_
  refine zN_ige rfl (by omega) (by omega) (fun c5 => ?_) (fun c6 => ?_)
  · skip
    refine zG_s rfl rfl ?_
    refine zG_s rfl rfl ?_
    refine zN_ige (x := 1) (y := 3) rfl (by omega) (by omega) (fun q => absurd q (by decide)) (fun c8 => ?_)
    refine zG_s rfl rfl ?_
    refine zN_get rfl zRh_o rfl ?_
    refine zG_s rfl rfl ?_
    refine zG_s rfl rfl ?_
    refine zN_mul rfl ?_
    refine zG_s rfl rfl ?_
    refine zN_add rfl ?_
    refine zG_s rfl rfl ?_
    refine zN_sub rfl (by omega) ?_
    refine zR_ald (k := 1) (n := 80) (w := nI (lo2 (x - n))) rfl rfl (by omega) (by rw [show 8 * k + x - n = 8 * k + (x - n) by omega]; exact (hT.2.2 (x - n) (by omega)).1) ?_
    refine zG_s rfl rfl ?_
    refine zN_shl rfl (by omega) ?_
    refine zG_s rfl rfl ?_
    refine zN_st6 rfl (fun _ _ _ => rfl) rfl ?_
    refine zG_s rfl rfl ?_
    refine zG_s rfl rfl ?_
    refine zN_ine (x := 1) (y := 1) rfl (by omega) (by omega) (fun q => absurd rfl q) (fun c10 => ?_)
    refine zG_s rfl rfl ?_
    refine zG_s rfl rfl ?_
    -- leaf 1
    exact zG_ret rfl rfl (by rw [zSumL, if_neg (by omega), Nat.or_zero])
  · skip
    refine zG_s rfl rfl ?_
    refine zN_get rfl zRh_o rfl ?_
    refine zG_s rfl rfl ?_
    refine zG_s rfl rfl ?_
    refine zN_mul rfl ?_
    refine zG_s rfl rfl ?_
    refine zN_add rfl ?_
    refine zR_ald (k := 1) (n := 80) rfl rfl (by omega) (hS.2.2 _ (by omega)).1 ?_
    -- leaf 2
    exact zG_ret rfl rfl (by rw [zSumL, if_pos (by omega)])
theorem cr_low2 {d r i k n n2 x : Nat} {h : zH} {S : zRS} {lo lo2 : Nat → Nat} (hS : zRs S i n lo) (hn : n ≤ 8) (hT : zRs S k n2 lo2) (hn2 : n2 ≤ 8) (hx : x < n + n2) : zCall (d + 2) 255 [.ref r, .int (nI 2), .int (nI i), .int (nI k), .int (nI x)] (zRh h r S) (some (.int (nI (zSumL n lo lo2 (1 <<< n - 1) x))), zRh h r S) := by
  have hi := hS.2.1
  have hk := hT.2.1
  refine zG_m (t := tX10_lowMade) (ls0 := [.ref r, .int (nI 2), .int (nI i), .int (nI k), .int (nI x), .null, .null, .null, .null]) rfl rfl (zdnR (zdnI (zdnI (zdnI (zdnI zdn0))))) rfl ?_
  refine zG_s rfl rfl ?_
  refine zN_get rfl zRh_o rfl ?_
  refine zG_s rfl rfl ?_
  refine zR_ald (k := 3) (n := 10) rfl rfl (by omega) hS.1 ?_
  refine zN_st5 rfl (fun _ _ _ => rfl) rfl ?_
  refine zG_s rfl rfl ?_
  refine zG_s rfl rfl ?_
  refine zN_ine (x := 2) (y := 3) rfl (by omega) (by omega) (fun c1 => ?_) (fun q => absurd q (by decide))
  refine zG_s rfl rfl ?_
  refine zN_ne0 (x := 2) rfl (by omega) (fun c3 => ?_) (fun q => absurd q (by decide))
  refine zG_s rfl rfl ?_
  refine zG_s rfl rfl ?_
  refine zN_ige rfl (by omega) (by omega) (fun c5 => ?_) (fun c6 => ?_)
  · skip
    refine zG_s rfl rfl ?_
    refine zG_s rfl rfl ?_
    refine zN_ige (x := 2) (y := 3) rfl (by omega) (by omega) (fun q => absurd q (by decide)) (fun c8 => ?_)
    refine zG_s rfl rfl ?_
    refine zN_get rfl zRh_o rfl ?_
    refine zG_s rfl rfl ?_
    refine zG_s rfl rfl ?_
    refine zN_mul rfl ?_
    refine zG_s rfl rfl ?_
    refine zN_add rfl ?_
    refine zG_s rfl rfl ?_
    refine zN_sub rfl (by omega) ?_
    refine zR_ald (k := 1) (n := 80) (w := nI (lo2 (x - n))) rfl rfl (by omega) (by rw [show 8 * k + x - n = 8 * k + (x - n) by omega]; exact (hT.2.2 (x - n) (by omega)).1) ?_
    refine zG_s rfl rfl ?_
    refine zN_shl rfl (by omega) ?_
    refine zG_s rfl rfl ?_
    refine zN_st6 rfl (fun _ _ _ => rfl) rfl ?_
    refine zG_s rfl rfl ?_
    refine zG_s rfl rfl ?_
    refine zN_ine (x := 2) (y := 1) rfl (by omega) (by omega) (fun c9 => ?_) (fun q => absurd q (by decide))
    refine zG_s rfl rfl ?_
    refine zG_s rfl rfl ?_
    refine zG_s rfl rfl ?_
    refine zG_cV1 rfl rfl zRh_o rfl rfl (cr_all hS hn) ?_
    refine zN_or rfl ?_
    -- leaf 1
    exact zG_ret rfl rfl (by rw [zSumL, if_neg (by omega)])
  · skip
    refine zG_s rfl rfl ?_
    refine zN_get rfl zRh_o rfl ?_
    refine zG_s rfl rfl ?_
    refine zG_s rfl rfl ?_
    refine zN_mul rfl ?_
    refine zG_s rfl rfl ?_
    refine zN_add rfl ?_
    refine zR_ald (k := 1) (n := 80) rfl rfl (by omega) (hS.2.2 _ (by omega)).1 ?_
    -- leaf 2
    exact zG_ret rfl rfl (by rw [zSumL, if_pos (by omega)])
theorem cr_low4 {d r i n x : Nat} {c : Int32} {h : zH} {S : zRS} {lo : Nat → Nat} (hS : zRs S i n lo) (hn : n ≤ 8) (hx : x < 8) : zCall (d + 2) 255 [.ref r, .int (nI 4), .int (nI i), .int c, .int (nI x)] (zRh h r S) (some (.int (nI (zTopL n lo x))), zRh h r S) := by
  have hi := hS.2.1
  refine zG_m (t := tX10_lowMade) (ls0 := [.ref r, .int (nI 4), .int (nI i), .int c, .int (nI x), .null, .null, .null, .null]) rfl rfl (zdnR (zdnI (zdnI (zdnI (zdnI zdn0))))) rfl ?_
  refine zG_s rfl rfl ?_
  refine zN_get rfl zRh_o rfl ?_
  refine zG_s rfl rfl ?_
  refine zR_ald (k := 3) (n := 10) rfl rfl (by omega) hS.1 ?_
  refine zN_st5 rfl (fun _ _ _ => rfl) rfl ?_
  refine zG_s rfl rfl ?_
  refine zG_s rfl rfl ?_
  refine zN_ine (x := 4) (y := 3) rfl (by omega) (by omega) (fun c1 => ?_) (fun q => absurd q (by decide))
  refine zG_s rfl rfl ?_
  refine zN_ne0 (x := 4) rfl (by omega) (fun c3 => ?_) (fun q => absurd q (by decide))
  refine zG_s rfl rfl ?_
  refine zG_s rfl rfl ?_
  refine zN_ige rfl (by omega) (by omega) (fun c5 => ?_) (fun c6 => ?_)
  · skip
    refine zG_s rfl rfl ?_
    refine zG_s rfl rfl ?_
    refine zN_ige (x := 4) (y := 3) rfl (by omega) (by omega) (fun c7 => ?_) (fun q => absurd q (by decide))
    refine zG_s rfl rfl ?_
    refine zG_s rfl rfl ?_
    refine zN_shl rfl (by omega) ?_
    refine zN_st6 rfl (fun _ _ _ => rfl) rfl ?_
    refine zG_s rfl rfl ?_
    refine zG_s rfl rfl ?_
    refine zN_ine (x := 4) (y := 1) rfl (by omega) (by omega) (fun c9 => ?_) (fun q => absurd q (by decide))
    refine zG_s rfl rfl ?_
    refine zG_s rfl rfl ?_
    refine zG_s rfl rfl ?_
    refine zG_cV1 rfl rfl zRh_o rfl rfl (cr_all hS hn) ?_
    refine zN_or rfl ?_
    -- leaf 1
    exact zG_ret rfl rfl (by rw [zTopL, if_neg (by omega), Nat.or_comm])
  · skip
    refine zG_s rfl rfl ?_
    refine zN_get rfl zRh_o rfl ?_
    refine zG_s rfl rfl ?_
    refine zG_s rfl rfl ?_
    refine zN_mul rfl ?_
    refine zG_s rfl rfl ?_
    refine zN_add rfl ?_
    refine zR_ald (k := 1) (n := 80) rfl rfl (by omega) (hS.2.2 _ (by omega)).1 ?_
    -- leaf 2
    exact zG_ret rfl rfl (by rw [zTopL, if_pos (by omega)])
theorem cr_low5 {d r i n x : Nat} {c : Int32} {h : zH} {S : zRS} {lo : Nat → Nat} (hS : zRs S i n lo) (hn : n ≤ 8) (hx : x < 8) : zCall (d + 2) 255 [.ref r, .int (nI 5), .int (nI i), .int c, .int (nI x)] (zRh h r S) (some (.int (nI (zTopL n lo x))), zRh h r S) := by
  have hi := hS.2.1
  refine zG_m (t := tX10_lowMade) (ls0 := [.ref r, .int (nI 5), .int (nI i), .int c, .int (nI x), .null, .null, .null, .null]) rfl rfl (zdnR (zdnI (zdnI (zdnI (zdnI zdn0))))) rfl ?_
  refine zG_s rfl rfl ?_
  refine zN_get rfl zRh_o rfl ?_
  refine zG_s rfl rfl ?_
  refine zR_ald (k := 3) (n := 10) rfl rfl (by omega) hS.1 ?_
  refine zN_st5 rfl (fun _ _ _ => rfl) rfl ?_
  refine zG_s rfl rfl ?_
  refine zG_s rfl rfl ?_
  refine zN_ine (x := 5) (y := 3) rfl (by omega) (by omega) (fun c1 => ?_) (fun q => absurd q (by decide))
  refine zG_s rfl rfl ?_
  refine zN_ne0 (x := 5) rfl (by omega) (fun c3 => ?_) (fun q => absurd q (by decide))
  refine zG_s rfl rfl ?_
  refine zG_s rfl rfl ?_
  refine zN_ige rfl (by omega) (by omega) (fun c5 => ?_) (fun c6 => ?_)
  · skip
    refine zG_s rfl rfl ?_
    refine zG_s rfl rfl ?_
    refine zN_ige (x := 5) (y := 3) rfl (by omega) (by omega) (fun c7 => ?_) (fun q => absurd q (by decide))
    refine zG_s rfl rfl ?_
    refine zG_s rfl rfl ?_
    refine zN_shl rfl (by omega) ?_
    refine zN_st6 rfl (fun _ _ _ => rfl) rfl ?_
    refine zG_s rfl rfl ?_
    refine zG_s rfl rfl ?_
    refine zN_ine (x := 5) (y := 1) rfl (by omega) (by omega) (fun c9 => ?_) (fun q => absurd q (by decide))
    refine zG_s rfl rfl ?_
    refine zG_s rfl rfl ?_
    refine zG_s rfl rfl ?_
    refine zG_cV1 rfl rfl zRh_o rfl rfl (cr_all hS hn) ?_
    refine zN_or rfl ?_
    -- leaf 1
    exact zG_ret rfl rfl (by rw [zTopL, if_neg (by omega), Nat.or_comm])
  · skip
    refine zG_s rfl rfl ?_
    refine zN_get rfl zRh_o rfl ?_
    refine zG_s rfl rfl ?_
    refine zG_s rfl rfl ?_
    refine zN_mul rfl ?_
    refine zG_s rfl rfl ?_
    refine zN_add rfl ?_
    refine zR_ald (k := 1) (n := 80) rfl rfl (by omega) (hS.2.2 _ (by omega)).1 ?_
    -- leaf 2
    exact zG_ret rfl rfl (by rw [zTopL, if_pos (by omega)])
theorem cr_low3 {d r i k n n2 x : Nat} {h : zH} {S : zRS} {lo lo2 : Nat → Nat} (hS : zRs S i n lo) (hn : n ≤ 8) (hT : zRs S k n2 lo2) (hn2 : n2 ≤ 8) (hP : zPre n lo) (hP2 : zPre n2 lo2) (hx : x < n * n2) (hm8 : n * n2 ≤ 8) : zCall (d + 2) 255 [.ref r, .int (nI 3), .int (nI i), .int (nI k), .int (nI x)] (zRh h r S) (some (.int (nI (zProL n n2 lo lo2 x))), zRh h r S) := by
  have hi := hS.2.1
  have hk := hT.2.1
  have hn20 : 0 < n2 := by
    rcases Nat.eq_zero_or_pos n2 with e | e
    · rw [e, Nat.mul_zero] at hx; omega
    · exact e
  have hxd : x / n2 < n := Nat.div_lt_of_lt_mul (by rw [Nat.mul_comm]; exact hx)
  have hxm : x % n2 < n2 := Nat.mod_lt _ hn20
  refine zG_m (t := tX10_lowMade) (ls0 := [.ref r, .int (nI 3), .int (nI i), .int (nI k), .int (nI x), .null, .null, .null, .null]) rfl rfl (zdnR (zdnI (zdnI (zdnI (zdnI zdn0))))) rfl ?_
  refine zG_s rfl rfl ?_
  refine zN_get rfl zRh_o rfl ?_
  refine zG_s rfl rfl ?_
  refine zR_ald (k := 3) (n := 10) rfl rfl (by omega) hS.1 ?_
  refine zN_st5 rfl (fun _ _ _ => rfl) rfl ?_
  refine zG_s rfl rfl ?_
  refine zG_s rfl rfl ?_
  refine zN_ine (x := 3) (y := 3) rfl (by omega) (by omega) (fun q => absurd rfl q) (fun c2 => ?_)
  refine zG_s rfl rfl ?_
  refine zN_st6 rfl (fun _ _ _ => rfl) rfl ?_
  refine zG_s rfl rfl ?_
  refine zN_st7 rfl (fun _ _ _ => rfl) rfl ?_
  have main19 : ∀ y, y ≤ (n * n2) → ∀ x8 : Value, zGo (d + 1) tX10_lowMade 19 [.ref r, .int (nI 3), .int (nI i), .int (nI k), .int (nI x), .int (nI n), .int (nI (zbits (fun y => (lo (x / n2)).testBit (y / n2) && (lo2 (x % n2)).testBit (y % n2)) y)), .int (nI y), x8] [] (zRh h r S) (some (.int (nI (zbits (fun y => (lo (x / n2)).testBit (y / n2) && (lo2 (x % n2)).testBit (y % n2)) (n * n2)))), zRh h r S) := by
    refine zdown ((n * n2)) ?_ (fun y hp19 ih19 => ?_)
    · skip
      intro x8
      refine zG_s rfl rfl ?_
      refine zG_s rfl rfl ?_
      refine zG_s rfl rfl ?_
      refine zN_get rfl zRh_o rfl ?_
      refine zG_s rfl rfl ?_
      refine zR_ald (k := 3) (n := 10) rfl rfl (by omega) hT.1 ?_
      refine zN_mul rfl ?_
      refine zN_ige rfl (by omega) (by omega) (fun c3 => ?_) (fun c4 => absurd c4 (by omega))
      refine zG_s rfl rfl ?_
      -- leaf 1
      exact zG_ret rfl rfl rfl
    · skip
      intro x8
      have hyd : y / n2 < n := Nat.div_lt_of_lt_mul (by rw [Nat.mul_comm]; exact hp19)
      have hym : y % n2 < n2 := Nat.mod_lt _ hn20
      have hb1 := hP.b hxd
      have hb2 := hP2.b hxm
      refine zG_s rfl rfl ?_
      refine zG_s rfl rfl ?_
      refine zG_s rfl rfl ?_
      refine zN_get rfl zRh_o rfl ?_
      refine zG_s rfl rfl ?_
      refine zR_ald (k := 3) (n := 10) rfl rfl (by omega) hT.1 ?_
      refine zN_mul rfl ?_
      refine zN_ige rfl (by omega) (by omega) (fun c5 => absurd c5 (by omega)) (fun c6 => ?_)
      have jn106 : ∀ w : Bool, w = ((lo (x / n2)).testBit (y / n2) && (lo2 (x % n2)).testBit (y % n2)) → zGo (d + 1) tX10_lowMade 106 [.ref r, .int (nI 3), .int (nI i), .int (nI k), .int (nI x), .int (nI n), .int (nI (zbits (fun y => (lo (x / n2)).testBit (y / n2) && (lo2 (x % n2)).testBit (y % n2)) y)), .int (nI y), x8] [.int (nI (b2n w))] (zRh h r S) (some (.int (nI (zbits (fun y => (lo (x / n2)).testBit (y / n2) && (lo2 (x % n2)).testBit (y % n2)) (n * n2)))), zRh h r S) := by
        intro w ew
        refine zN_st8 rfl (fun _ _ _ => rfl) rfl ?_
        refine zG_s rfl rfl ?_
        refine zG_s rfl rfl ?_
        first | refine zN_ifb rfl (fun c7 => ?_) (fun c8 => ?_) | refine zN_eq0 rfl (by omega) (fun c7 => ?_) (fun c8 => ?_)
        · skip
          refine zG_s rfl rfl ?_
          refine zN_or rfl ?_
          refine zN_st6 rfl (fun _ _ _ => rfl) rfl ?_
          refine zN_inc7 rfl rfl ?_
          refine zG_s rfl rfl ?_
          -- leaf 2
          have e1 : ((lo (x / n2)).testBit (y / n2) && (lo2 (x % n2)).testBit (y % n2)) = false := by rw [← ew]; exact c7
          rw [zbits_no (c := fun y => (lo (x / n2)).testBit (y / n2) && (lo2 (x % n2)).testBit (y % n2)) (n := y) e1, ← Nat.or_zero (zbits _ y)] at ih19
          exact ih19 _
        · skip
          refine zG_s rfl rfl ?_
          refine zG_s rfl rfl ?_
          refine zN_shl rfl (by omega) ?_
          refine zG_s rfl rfl ?_
          refine zN_or rfl ?_
          refine zN_st6 rfl (fun _ _ _ => rfl) rfl ?_
          refine zN_inc7 rfl rfl ?_
          refine zG_s rfl rfl ?_
          -- leaf 3
          have e1 : ((lo (x / n2)).testBit (y / n2) && (lo2 (x % n2)).testBit (y % n2)) = true := by rw [← ew]; exact c8
          rw [zbits_yes (c := fun y => (lo (x / n2)).testBit (y / n2) && (lo2 (x % n2)).testBit (y % n2)) (n := y) e1] at ih19
          exact ih19 _
      refine zG_s rfl rfl ?_
      refine zN_get rfl zRh_o rfl ?_
      refine zG_s rfl rfl ?_
      refine zG_s rfl rfl ?_
      refine zN_mul rfl ?_
      refine zG_s rfl rfl ?_
      refine zG_s rfl rfl ?_
      refine zN_get rfl zRh_o rfl ?_
      refine zG_s rfl rfl ?_
      refine zR_ald (k := 3) (n := 10) rfl rfl (by omega) hT.1 ?_
      refine zN_div rfl (by omega) hn20 (by omega) ?_
      refine zN_add rfl ?_
      refine zR_ald (k := 1) (n := 80) rfl rfl (by omega) (hS.2.2 _ hxd).1 ?_
      refine zG_s rfl rfl ?_
      refine zG_s rfl rfl ?_
      refine zN_get rfl zRh_o rfl ?_
      refine zG_s rfl rfl ?_
      refine zR_ald (k := 3) (n := 10) rfl rfl (by omega) hT.1 ?_
      refine zN_div rfl (by omega) hn20 (by omega) ?_
      refine zG_cS1 rfl rfl (cr_has _ (by omega) (by omega)) ?_
      first | refine zN_ifb rfl (fun c9 => ?_) (fun c10 => ?_) | refine zN_eq0 rfl (by omega) (fun c9 => ?_) (fun c10 => ?_)
      · skip
        refine zG_s rfl rfl ?_
        -- leaf 4
        exact jn106 false (by rw [c9]; rfl)
      · skip
        refine zG_s rfl rfl ?_
        refine zN_get rfl zRh_o rfl ?_
        refine zG_s rfl rfl ?_
        refine zG_s rfl rfl ?_
        refine zN_mul rfl ?_
        refine zG_s rfl rfl ?_
        refine zG_s rfl rfl ?_
        refine zN_get rfl zRh_o rfl ?_
        refine zG_s rfl rfl ?_
        refine zR_ald (k := 3) (n := 10) rfl rfl (by omega) hT.1 ?_
        refine zN_rem rfl (by omega) hn20 (by omega) ?_
        refine zN_add rfl ?_
        refine zR_ald (k := 1) (n := 80) rfl rfl (by omega) (hT.2.2 _ hxm).1 ?_
        refine zG_s rfl rfl ?_
        refine zG_s rfl rfl ?_
        refine zN_get rfl zRh_o rfl ?_
        refine zG_s rfl rfl ?_
        refine zR_ald (k := 3) (n := 10) rfl rfl (by omega) hT.1 ?_
        refine zN_rem rfl (by omega) hn20 (by omega) ?_
        refine zG_cS1 rfl rfl (cr_has _ (by omega) (by omega)) ?_
        first | refine zN_ifb rfl (fun c11 => ?_) (fun c12 => ?_) | refine zN_eq0 rfl (by omega) (fun c11 => ?_) (fun c12 => ?_)
        · skip
          refine zG_s rfl rfl ?_
          -- leaf 5
          exact jn106 false (by rw [c11, Bool.and_false])
        · skip
          refine zG_s rfl rfl ?_
          refine zG_s rfl rfl ?_
          -- leaf 6
          exact jn106 true (by rw [c10, c12]; rfl)
  rw [zProL_row hP2 hx]; exact main19 0 (Nat.zero_le _) _
