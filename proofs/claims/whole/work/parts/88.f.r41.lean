theorem cr_maps {d r : Nat} {h : zH} {S : zRS} {s : zST} {a b : Int32} (hr : 2 ≤ r) (hI : zRI S s) (hW : zWT s) : zCallP (d + 3) 237 [.ref r, .int a, .int b] (zRh h r S) (zROut h r (zo_maps s a b)) := by
  refine zG_mP (t := tX10_maps) (ls0 := [.ref r, .int a, .int b, .null, .null]) rfl rfl (zdnR (zdnI (zdnI zdn0))) rfl ?_
  refine zG_s rfl rfl ?_
  refine zG_cS1 rfl rfl cr_isSpace ?_
  refine zN_ifb rfl (fun c1 => ?_) (fun c2 => ?_)
  · skip
    refine zG_s rfl rfl ?_
    -- leaf 1
    exact zG_ret rfl rfl (zRfin (by rw [zo_maps, zb_no c1]) hI)
  · skip
    obtain ⟨i, hi, rfl⟩ := zin_of c2 (by omega)
    refine zG_s rfl rfl ?_
    refine zG_cS1 rfl rfl cr_isSpace ?_
    refine zN_ifb rfl (fun c3 => ?_) (fun c4 => ?_)
    · skip
      refine zG_s rfl rfl ?_
      -- leaf 2
      exact zG_ret rfl rfl (zRfin (by rw [zo_maps, zb_i hi (by omega), zb_no c3]) hI)
    · skip
      obtain ⟨j, hj, rfl⟩ := zin_of c4 (by omega)
      have hS := hI.sp i hi
      have hT := hI.sp j hj
      have hP := hW.1 i hi
      have hP2 := hW.1 j hj
      have hn := hP.1
      have hn2 := hP2.1
      have hrs : zo_maps s (nI i) (nI j) = if 5 < (s.1 i).1 then (-1, s) else (nI (zFc false (s.1 j).1 (s.1 i).2 (zTr (s.1 i).1 (s.1 i).2) (s.1 j).2 (zTr (s.1 j).1 (s.1 j).2) (s.1 i).1 0 0 (fun _ => 0)), s) := by rw [zo_maps, zb_i hi (by omega), zb_i hj (by omega)]
      have hmq := zmaps_eq hP hP2
      generalize (s.1 i).1 = n at *
      generalize (s.1 j).1 = n2 at *
      generalize (s.1 i).2 = lo at *
      generalize (s.1 j).2 = lo2 at *
      refine zG_s rfl rfl ?_
      refine zN_get rfl zRh_o rfl ?_
      refine zG_s rfl rfl ?_
      refine zR_ald (k := 3) (n := 10) rfl rfl (by omega) hS.1 ?_
      refine zG_s rfl rfl ?_
      refine zN_ile rfl (by omega) (by omega) (fun c5 => ?_) (fun c6 => ?_)
      · skip
        have hpw : 1 <<< (3 * n) ≤ 32768 := by
          rw [Nat.one_shiftLeft]
          exact Nat.pow_le_pow_right (by decide) (show 3 * n ≤ 15 by omega)
        refine zG_s rfl rfl ?_
        refine zN_st3 rfl (fun _ _ _ => rfl) rfl ?_
        refine zG_s rfl rfl ?_
        refine zN_st4 rfl (fun _ _ _ => rfl) rfl ?_
        have main31 : ∀ w, w ≤ (1 <<< (3 * n)) → zGoP (d + 2) tX10_maps 31 [.ref r, .int (nI i), .int (nI j), .int (nI (zct (zMg n n2 lo lo2) w)), .int (nI w)] [] (zRh h r S) (zROut h r (zo_maps s (nI i) (nI j))) := by
          refine zdown ((1 <<< (3 * n))) ?_ (fun w hp31 ih31 => ?_)
          · skip
            refine zG_s rfl rfl ?_
            refine zG_s rfl rfl ?_
            refine zG_s rfl rfl ?_
            refine zG_s rfl rfl ?_
            refine zN_get rfl zRh_o rfl ?_
            refine zG_s rfl rfl ?_
            refine zR_ald (k := 3) (n := 10) rfl rfl (by omega) hS.1 ?_
            refine zN_mul rfl ?_
            refine zN_shl rfl (by omega) ?_
            refine zN_ige rfl (by omega) (by omega) (fun c7 => ?_) (fun c8 => absurd c8 (by omega))
            refine zG_s rfl rfl ?_
            -- leaf 3
            exact zG_ret rfl rfl (zRfin (by rw [hrs, if_neg (by omega), ← hmq]) hI)
          · skip
            have hcl := zct_le (zMg n n2 lo lo2) w
            refine zG_s rfl rfl ?_
            refine zG_s rfl rfl ?_
            refine zG_s rfl rfl ?_
            refine zG_s rfl rfl ?_
            refine zN_get rfl zRh_o rfl ?_
            refine zG_s rfl rfl ?_
            refine zR_ald (k := 3) (n := 10) rfl rfl (by omega) hS.1 ?_
            refine zN_mul rfl ?_
            refine zN_shl rfl (by omega) ?_
            refine zN_ige rfl (by omega) (by omega) (fun c9 => absurd c9 (by omega)) (fun c10 => ?_)
            refine zG_s rfl rfl ?_
            refine zG_s rfl rfl ?_
            refine zG_s rfl rfl ?_
            refine zG_s rfl rfl ?_
            refine zG_s rfl rfl ?_
            refine zG_cV1 rfl rfl zRh_o rfl rfl (cr_isMapT hS hT hn hn2 (by omega)) ?_
            first | refine zN_ifb rfl (fun c11 => ?_) (fun c12 => ?_) | refine zN_eq0 rfl (by omega) (fun c11 => ?_) (fun c12 => ?_)
            · skip
              refine zG_s rfl rfl ?_
              refine zN_add rfl ?_
              refine zN_st3 rfl (fun _ _ _ => rfl) rfl ?_
              refine zN_inc4 rfl rfl ?_
              refine zG_s rfl rfl ?_
              -- leaf 4
              have e1 : zMg n n2 lo lo2 w = false := by unfold zMg; rw [c11]; rfl
              rw [zct_no e1] at ih31
              exact ih31
            · skip
              refine zG_s rfl rfl ?_
              refine zG_s rfl rfl ?_
              refine zG_s rfl rfl ?_
              refine zG_s rfl rfl ?_
              have hD : ∀ i, i < n → zDig w i < n2 := fun i hi => of_decide_eq_true (zAl_iff.mp (by assumption) i hi)
              have htl := zTear_le (la := lo) (lb := lo2) (w := w) hn
              refine zG_cV1 rfl rfl zRh_o rfl rfl (cr_tearsBy hS hT hP hP2 (by omega) hD) ?_
              first | refine zN_ifnb rfl (fun c13 => ?_) (fun c14 => ?_) | refine zN_ne0 rfl (by omega) (fun c13 => ?_) (fun c14 => ?_)
              · skip
                refine zG_s rfl rfl ?_
                refine zN_add rfl ?_
                refine zN_st3 rfl (fun _ _ _ => rfl) rfl ?_
                refine zN_inc4 rfl rfl ?_
                refine zG_s rfl rfl ?_
                -- leaf 5
                have e1 : zMg n n2 lo lo2 w = false := by unfold zMg; rw [decide_eq_false (by omega), Bool.and_false]
                rw [zct_no e1] at ih31
                exact ih31
              · skip
                refine zG_s rfl rfl ?_
                refine zG_s rfl rfl ?_
                refine zN_add rfl ?_
                refine zN_st3 rfl (fun _ _ _ => rfl) rfl ?_
                refine zN_inc4 rfl rfl ?_
                refine zG_s rfl rfl ?_
                -- leaf 6
                have e1 : zMg n n2 lo lo2 w = true := by unfold zMg; rw [c12, decide_eq_true c14]; rfl
                rw [zct_yes e1] at ih31
                exact ih31
        exact main31 0 (Nat.zero_le _)
      · skip
        refine zG_s rfl rfl ?_
        -- leaf 7
        exact zG_ret rfl rfl (zRfin (by rw [hrs, if_pos (by omega)]) hI)
