theorem cr_isWhole {d r s t n n2 : Nat} {h : zH} {S : zRS} {lo lo2 : Nat → Nat} {x : Int32} (hS : zRs S s n lo) (hT : zRs S t n2 lo2) (hP : zPre n lo) (hP2 : zPre n2 lo2) : zCall (d + 3) 239 [.ref r, .int (nI s), .int (nI t), .int x] (zRh h r S) (some (.int (nI (b2n (zWh n n2 lo lo2 x)))), zRh h r S) := by
  have hn := hP.1
  have hn2 := hP2.1
  refine zG_m (t := tX10_isWhole) (ls0 := [.ref r, .int (nI s), .int (nI t), .int x]) rfl rfl (zdnR (zdnI (zdnI (zdnI zdn0)))) rfl ?_
  refine zG_s rfl rfl ?_
  refine zG_s rfl rfl ?_
  refine zG_s rfl rfl ?_
  refine zG_s rfl rfl ?_
  refine zG_cV1 rfl rfl zRh_o rfl rfl (cr_isMap hS hT (by omega) (by omega)) ?_
  refine zN_ifb rfl (fun c1 => ?_) (fun c2 => ?_)
  · skip
    refine zG_s rfl rfl ?_
    -- leaf 1
    rw [show zWh n n2 lo lo2 x = false from by rw [zWh, c1]; rfl]
    exact zG_ret rfl rfl rfl
  · skip
    refine zG_s rfl rfl ?_
    refine zG_s rfl rfl ?_
    refine zG_s rfl rfl ?_
    refine zG_s rfl rfl ?_
    obtain ⟨w, hw1, hw2, hcx, hcl, hD⟩ := zMp_w hn c2
    subst hcx
    have htl := zTear_le (w := w) (la := lo) (lb := lo2) hn
    refine zG_cV1 rfl rfl zRh_o rfl rfl (cr_tearsBy hS hT hP hP2 (by omega) hD) ?_
    refine zN_ne0 rfl (by omega) (fun c3 => ?_) (fun c4 => ?_)
    · skip
      refine zG_s rfl rfl ?_
      -- leaf 2
      rw [show zWh n n2 lo lo2 (nI w) = false from by rw [zWh, hcl, decide_eq_false (show ¬ zTear n lo lo2 w = 0 by omega), Bool.and_false]]
      exact zG_ret rfl rfl rfl
    · skip
      refine zG_s rfl rfl ?_
      refine zG_s rfl rfl ?_
      -- leaf 3
      rw [show zWh n n2 lo lo2 (nI w) = true from by rw [zWh, c2, hcl, decide_eq_true (show zTear n lo lo2 w = 0 by omega)]; rfl]
      exact zG_ret rfl rfl rfl
theorem cr_fixed {d r : Nat} {h : zH} {S : zRS} {s : zST} {a c : Int32} (hr : 2 ≤ r) (hI : zRI S s) (hW : zWT s) : zCallP (d + 4) 241 [.ref r, .int a, .int c] (zRh h r S) (zROut h r (zo_fixed s a c)) := by
  refine zG_mP (t := tX10_fixed) (ls0 := [.ref r, .int a, .int c, .null, .null]) rfl rfl (zdnR (zdnI (zdnI zdn0))) rfl ?_
  refine zG_s rfl rfl ?_
  refine zG_cS1 rfl rfl cr_isSpace ?_
  refine zN_ifb rfl (fun c1 => ?_) (fun c2 => ?_)
  · skip
    refine zG_s rfl rfl ?_
    -- leaf 1
    exact zG_ret rfl rfl (zRfin (by rw [zo_fixed, zb_no c1]) hI)
  · skip
    obtain ⟨i, hi, rfl⟩ := zin_of c2 (by omega)
    have hS := hI.sp i hi
    have hT := hS
    have hP := hW.1 i hi
    have hP2 := hP
    have hn8 := hP.1
    have hi10 : i < 10 := by omega
    refine zG_s rfl rfl ?_
    refine zG_s rfl rfl ?_
    refine zG_s rfl rfl ?_
    refine zG_s rfl rfl ?_
    refine zG_cV1 rfl rfl zRh_o rfl rfl (cr_isWhole hS hT hP hP2) ?_
    refine zN_ifnb rfl (fun c3 => ?_) (fun c4 => ?_)
    · skip
      obtain ⟨w, hw1, hw2, hcx, hcl, hD⟩ := zWh_w hn8 c3
      subst hcx
      have hrs : zo_fixed s (nI i) (nI w) = (nI (zbits (fun x => decide (zDig w x = x)) (s.1 i).1), s) := by rw [zo_fixed, zb_i hi (by omega), if_pos c3, hcl]
      rw [hrs]
      refine zG_s rfl rfl ?_
      refine zN_st3 rfl (fun _ _ _ => rfl) rfl ?_
      refine zG_s rfl rfl ?_
      refine zN_st4 rfl (fun _ _ _ => rfl) rfl ?_
      have main24 : ∀ x, x ≤ (s.1 i).1 → zGoP (d + 3) tX10_fixed 24 [.ref r, .int (nI i), .int (nI w), .int (nI (zbits (fun x => decide (zDig w x = x)) x)), .int (nI x)] [] (zRh h r S) (zROut h r (nI (zbits (fun x => decide (zDig w x = x)) (s.1 i).1), s)) := by
        refine zdown ((s.1 i).1) ?_ (fun x hp24 ih24 => ?_)
        · skip
          refine zG_s rfl rfl ?_
          refine zG_s rfl rfl ?_
          refine zN_get rfl zRh_o rfl ?_
          refine zG_s rfl rfl ?_
          refine zR_ald (k := 3) (n := 10) rfl rfl (by omega) hS.1 ?_
          refine zN_ige rfl (by omega) (by omega) (fun c5 => ?_) (fun c6 => absurd c6 (by omega))
          refine zG_s rfl rfl ?_
          -- leaf 2
          exact zG_ret rfl rfl (zRfin rfl hI)
        · skip
          have hdl := zDig_lt w x
          refine zG_s rfl rfl ?_
          refine zG_s rfl rfl ?_
          refine zN_get rfl zRh_o rfl ?_
          refine zG_s rfl rfl ?_
          refine zR_ald (k := 3) (n := 10) rfl rfl (by omega) hS.1 ?_
          refine zN_ige rfl (by omega) (by omega) (fun c7 => absurd c7 (by omega)) (fun c8 => ?_)
          refine zG_s rfl rfl ?_
          refine zG_s rfl rfl ?_
          refine zG_s rfl rfl ?_
          refine zG_cS1 rfl rfl (cr_imageOf (by omega) (by omega)) ?_
          refine zG_s rfl rfl ?_
          refine zN_ine rfl (by omega) (by omega) (fun c9 => ?_) (fun c10 => ?_)
          · skip
            refine zG_s rfl rfl ?_
            refine zN_or rfl ?_
            refine zN_st3 rfl (fun _ _ _ => rfl) rfl ?_
            refine zN_inc4 rfl rfl ?_
            refine zG_s rfl rfl ?_
            -- leaf 3
            rw [zbits_no (by exact decide_eq_false (by assumption)), ← Nat.or_zero (zbits _ x)] at ih24
            exact ih24
          · skip
            refine zG_s rfl rfl ?_
            refine zG_s rfl rfl ?_
            refine zN_shl rfl (by omega) ?_
            refine zG_s rfl rfl ?_
            refine zN_or rfl ?_
            refine zN_st3 rfl (fun _ _ _ => rfl) rfl ?_
            refine zN_inc4 rfl rfl ?_
            refine zG_s rfl rfl ?_
            -- leaf 4
            rw [zbits_yes (by exact decide_eq_true (by assumption))] at ih24
            exact ih24
      exact main24 0 (by omega)
    · skip
      refine zG_s rfl rfl ?_
      -- leaf 5
      exact zG_ret rfl rfl (zRfin (by rw [zo_fixed, zb_i hi (by omega), if_neg (by rw [c4]; decide)]) hI)
