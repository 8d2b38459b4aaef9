theorem zfo_full {α : Type} {f : Nat → Option α} {v : α} {y n : Nat} (hN : zfo f y = none) (h : f y = some v) (hy : y < n) : zfo f n = some v := by
  have h1 : zfo f (y + 1) = some v := by rw [zfo_yes hN]; exact h
  have h2 := zfo_more h1 (n - (y + 1))
  rwa [show y + 1 + (n - (y + 1)) = n by omega] at h2
theorem cr_tearsBy {d r s t n n2 w : Nat} {h : zH} {S : zRS} {lo lo2 : Nat → Nat} (hS : zRs S s n lo) (hT : zRs S t n2 lo2) (hP : zPre n lo) (hP2 : zPre n2 lo2) (hw : w < 2 ^ 31) (hD : ∀ i, i < n → zDig w i < n2) : zCall (d + 2) 235 [.ref r, .int (nI s), .int (nI t), .int (nI w)] (zRh h r S) (some (.int (nI (zTear n lo lo2 w))), zRh h r S) := by
  have hs := hS.2.1
  have ht := hT.2.1
  have hn := hP.1
  have hn2 := hP2.1
  unfold zTear
  refine zG_m (t := tX10_tearsBy) (ls0 := [.ref r, .int (nI s), .int (nI t), .int (nI w), .null, .null]) rfl rfl (zdnR (zdnI (zdnI (zdnI zdn0)))) rfl ?_
  refine zG_s rfl rfl ?_
  refine zN_st4 rfl (fun _ _ _ => rfl) rfl ?_
  have main3 : ∀ x, x ≤ n → ∀ x5 : Value, zfo (fun x => zfo (zTearF n lo lo2 w x) n) x = none → zGo (d + 1) tX10_tearsBy 3 [.ref r, .int (nI s), .int (nI t), .int (nI w), .int (nI x), x5] [] (zRh h r S) (some (.int (nI ((zfo (fun x => zfo (zTearF n lo lo2 w x) n) n).getD 0))), zRh h r S) := by
    refine zdown (n) ?_ (fun x hp3 ih3 => ?_)
    · skip
      intro x5 hN
      refine zG_s rfl rfl ?_
      refine zG_s rfl rfl ?_
      refine zN_get rfl zRh_o rfl ?_
      refine zG_s rfl rfl ?_
      refine zR_ald (k := 3) (n := 10) rfl rfl (by omega) hS.1 ?_
      refine zN_ige rfl (by omega) (by omega) (fun c1 => ?_) (fun c2 => absurd c2 (by omega))
      refine zG_s rfl rfl ?_
      -- leaf 1
      rw [hN]
      exact zG_ret rfl rfl rfl
    · skip
      intro x5 hN
      have hlx := hP.b hp3
      have hdx := hD x hp3
      have hl2 := hP2.b hdx
      refine zG_s rfl rfl ?_
      refine zG_s rfl rfl ?_
      refine zN_get rfl zRh_o rfl ?_
      refine zG_s rfl rfl ?_
      refine zR_ald (k := 3) (n := 10) rfl rfl (by omega) hS.1 ?_
      refine zN_ige rfl (by omega) (by omega) (fun c3 => absurd c3 (by omega)) (fun c4 => ?_)
      refine zG_s rfl rfl ?_
      refine zN_st5 rfl (fun _ _ _ => rfl) rfl ?_
      have main17 : ∀ y, y ≤ n → zfo (zTearF n lo lo2 w x) y = none → zGo (d + 1) tX10_tearsBy 17 [.ref r, .int (nI s), .int (nI t), .int (nI w), .int (nI x), .int (nI y)] [] (zRh h r S) (some (.int (nI ((zfo (fun x => zfo (zTearF n lo lo2 w x) n) n).getD 0))), zRh h r S) := by
        refine zdown (n) ?_ (fun y hp17 ih17 => ?_)
        · skip
          intro hM
          refine zG_s rfl rfl ?_
          refine zG_s rfl rfl ?_
          refine zN_get rfl zRh_o rfl ?_
          refine zG_s rfl rfl ?_
          refine zR_ald (k := 3) (n := 10) rfl rfl (by omega) hS.1 ?_
          refine zN_ige rfl (by omega) (by omega) (fun c5 => ?_) (fun c6 => absurd c6 (by omega))
          refine zN_inc4 rfl rfl ?_
          refine zG_s rfl rfl ?_
          -- leaf 2
          exact ih3 _ (by rw [zfo_no (f := fun x => zfo (zTearF n lo lo2 w x) n) hM]; exact hN)
        · skip
          intro hM
          have hdy := hD y hp17
          refine zG_s rfl rfl ?_
          refine zG_s rfl rfl ?_
          refine zN_get rfl zRh_o rfl ?_
          refine zG_s rfl rfl ?_
          refine zR_ald (k := 3) (n := 10) rfl rfl (by omega) hS.1 ?_
          refine zN_ige rfl (by omega) (by omega) (fun c7 => absurd c7 (by omega)) (fun c8 => ?_)
          refine zG_s rfl rfl ?_
          refine zN_get rfl zRh_o rfl ?_
          refine zG_s rfl rfl ?_
          refine zG_s rfl rfl ?_
          refine zN_mul rfl ?_
          refine zG_s rfl rfl ?_
          refine zN_add rfl ?_
          refine zR_ald (k := 1) (n := 80) rfl rfl (by omega) (hS.2.2 _ (by omega)).1 ?_
          refine zG_s rfl rfl ?_
          refine zG_cS1 rfl rfl (cr_has _ (by omega) (by omega)) ?_
          first | refine zN_ifb rfl (fun c9 => ?_) (fun c10 => ?_) | refine zN_eq0 rfl (by omega) (fun c9 => ?_) (fun c10 => ?_)
          · skip
            refine zN_inc5 rfl rfl ?_
            refine zG_s rfl rfl ?_
            -- leaf 3
            exact ih17 (by rw [zfo_no (by rw [zTearF, c9]; rfl)]; exact hM)
          · skip
            refine zG_s rfl rfl ?_
            refine zN_get rfl zRh_o rfl ?_
            refine zG_s rfl rfl ?_
            refine zG_s rfl rfl ?_
            refine zN_mul rfl ?_
            refine zG_s rfl rfl ?_
            refine zG_s rfl rfl ?_
            refine zG_cS1 rfl rfl (cr_imageOf (by omega) (by omega)) ?_
            refine zN_add rfl ?_
            refine zR_ald (k := 1) (n := 80) rfl rfl (by omega) (hT.2.2 _ hdx).1 ?_
            refine zG_s rfl rfl ?_
            refine zG_s rfl rfl ?_
            refine zG_cS1 rfl rfl (cr_imageOf (by omega) (by omega)) ?_
            refine zG_cS1 rfl rfl (cr_has _ (by omega) (by omega)) ?_
            first | refine zN_ifnb rfl (fun c11 => ?_) (fun c12 => ?_) | refine zN_ne0 rfl (by omega) (fun c11 => ?_) (fun c12 => ?_)
            · skip
              refine zN_inc5 rfl rfl ?_
              refine zG_s rfl rfl ?_
              -- leaf 4
              exact ih17 (by rw [zfo_no (by rw [zTearF, c11, Bool.not_true, Bool.and_false]; rfl)]; exact hM)
            · skip
              refine zG_s rfl rfl ?_
              refine zG_s rfl rfl ?_
              refine zG_s rfl rfl ?_
              refine zN_mul (x := 8) rfl ?_
              refine zN_add rfl ?_
              refine zG_s rfl rfl ?_
              refine zN_add rfl ?_
              -- leaf 5
              have e1 : zTearF n lo lo2 w x y = some (1 + 8 * x + y) := by rw [zTearF, c10, c12]; rfl
              have e2 : zfo (zTearF n lo lo2 w x) n = some (1 + 8 * x + y) := zfo_full hM e1 hp17
              rw [zfo_full (f := fun x => zfo (zTearF n lo lo2 w x) n) hN e2 hp3]
              exact zG_ret rfl rfl rfl
      exact main17 0 (by omega) rfl
  exact main3 0 (by omega) _ rfl
theorem cr_tears {d r : Nat} {h : zH} {S : zRS} {s : zST} {a b c : Int32} (hr : 2 ≤ r) (hI : zRI S s) (hW : zWT s) : zCallP (d + 3) 236 [.ref r, .int a, .int b, .int c] (zRh h r S) (zROut h r (zo_tears s a b c)) := by
  refine zG_mP (t := tX10_tears) (ls0 := [.ref r, .int a, .int b, .int c]) rfl rfl (zdnR (zdnI (zdnI (zdnI zdn0)))) rfl ?_
  refine zG_s rfl rfl ?_
  refine zG_cS1 rfl rfl cr_isSpace ?_
  refine zN_ifb rfl (fun c1 => ?_) (fun c2 => ?_)
  · skip
    refine zG_s rfl rfl ?_
    -- leaf 1
    exact zG_ret rfl rfl (zRfin (by rw [zo_tears, zb_no c1]) hI)
  · skip
    obtain ⟨i, hi, rfl⟩ := zin_of c2 (by omega)
    have hS := hI.sp i hi
    have hP := hW.1 i hi
    have hn8 := hP.1
    refine zG_s rfl rfl ?_
    refine zG_cS1 rfl rfl cr_isSpace ?_
    refine zN_ifb rfl (fun c3 => ?_) (fun c4 => ?_)
    · skip
      refine zG_s rfl rfl ?_
      -- leaf 2
      exact zG_ret rfl rfl (zRfin (by rw [zo_tears, zb_i hi (by omega), zb_no c3]) hI)
    · skip
      obtain ⟨j, hj, rfl⟩ := zin_of c4 (by omega)
      have hT := hI.sp j hj
      have hP2 := hW.1 j hj
      have hn2 := hP2.1
      refine zG_s rfl rfl ?_
      refine zG_s rfl rfl ?_
      refine zG_s rfl rfl ?_
      refine zG_s rfl rfl ?_
      refine zG_cV1 rfl rfl zRh_o rfl rfl (cr_isMap hS hT (by omega) (by omega)) ?_
      refine zN_ifb rfl (fun c5 => ?_) (fun c6 => ?_)
      · skip
        refine zG_s rfl rfl ?_
        -- leaf 3
        exact zG_ret rfl rfl (zRfin (by rw [zo_tears, zb_i hi (by omega), zb_i hj (by omega), if_neg (by rw [c5]; decide)]) hI)
      · skip
        refine zG_s rfl rfl ?_
        refine zG_s rfl rfl ?_
        refine zG_s rfl rfl ?_
        refine zG_s rfl rfl ?_
        obtain ⟨w, hw1, hw2, hcx, hcl, hD⟩ := zMp_w hn8 (by assumption)
        subst hcx
        refine zG_cV1 rfl rfl zRh_o rfl rfl (cr_tearsBy hS hT hP hP2 (by omega) hD) ?_
        refine zG_s rfl rfl ?_
        -- leaf 4
        exact zG_ret rfl rfl (zRfin (by rw [zo_tears, zb_i hi (by omega), zb_i hj (by omega), if_pos c6, hcl]) hI)
