theorem zRI.spI {S : zRS} {s : zST} {i n : Nat} {lo : Nat → Nat} {z : Int32} (hi : i < 6) (hI : zRI S (zsZ (zsSp s i n lo) z)) : zRs S i n lo := by
  have h := hI.sp i hi
  change zRs S i (if i = i then (n, lo) else s.1 i).1 (if i = i then (n, lo) else s.1 i).2 at h
  rw [if_pos rfl] at h
  exact h
theorem cr_draw {d r : Nat} {h : zH} {S : zRS} {s : zST} {a b c : Int32} (hr : 2 ≤ r) (hI : zRI S s) (hW : zWT s) : zCallP (d + 4) 266 [.ref r, .int a, .int b, .int c] (zRh h r S) (zROut h r (zo_draw s a b c)) := by
  refine zG_mP (t := tX10_draw) (ls0 := [.ref r, .int a, .int b, .int c, .null, .null, .null]) rfl rfl (zdnR (zdnI (zdnI (zdnI zdn0)))) rfl ?_
  refine zG_s rfl rfl ?_
  refine zG_cS1 rfl rfl cr_isSpace ?_
  refine zN_ifb rfl (fun c1 => ?_) (fun c2 => ?_)
  · skip
    refine zG_s rfl rfl ?_
    -- leaf 1
    exact zG_ret rfl rfl (zRfin (by rw [zo_draw, zb_no c1]) hI)
  · skip
    obtain ⟨i, hi, rfl⟩ := zin_of c2 (by omega)
    refine zG_s rfl rfl ?_
    refine zG_s rfl rfl ?_
    refine zG_s rfl rfl ?_
    refine zG_cS1 rfl rfl cr_inc ?_
    refine zN_ifb rfl (fun c3 => ?_) (fun c4 => ?_)
    · skip
      refine zG_s rfl rfl ?_
      -- leaf 2
      exact zG_ret rfl rfl (zRfin (by rw [zo_draw, zb_i hi (by omega), zb_no c3]) hI)
    · skip
      obtain ⟨n, hn, rfl⟩ := zin_of c4 (by omega)
      refine zG_s rfl rfl ?_
      refine zG_s rfl rfl ?_
      refine zG_s rfl rfl ?_
      refine zG_cS1 rfl rfl cr_inc ?_
      refine zN_ifnb rfl (fun c5 => ?_) (fun c6 => ?_)
      · skip
        obtain ⟨v, hv, rfl⟩ := zin_of c5 (by omega)
        refine zG_s rfl rfl ?_
        refine zG_s rfl rfl ?_
        refine zG_s rfl rfl ?_
        refine zG_cQN rfl rfl zRh_o rfl rfl (cr_empties hr (by omega) (by omega)) (fun h1 hB => ?_)
        obtain ⟨S1, rfl, hF1, hS1⟩ := hB
        have hI : zRI S1 (zsZ (zsSp s i n zDisc) s.2.2.1.1) := hI.u_sp hi hS1 hW hF1 (fun k j g => Or.inr g)
        have hP0 : zPre n ((s.2.2.1.1, zDisc) : Int32 × (Nat → Nat)).2 := zPre_disc (by omega)
        have hrs : zo_draw s (nI i) (nI n) (nI v) = (nI (zStr n (zDr2 v n (s.2.2.1.1, zDisc) n).2), zsZ (zsSp s i n (zDr2 v n (s.2.2.1.1, zDisc) n).2) (zDr2 v n (s.2.2.1.1, zDisc) n).1) := by rw [zo_draw, zb_i hi (by omega), zb_i hn (by omega), zb_i hv (by omega)]
        generalize hq0 : ((s.2.2.1.1, zDisc) : Int32 × (Nat → Nat)) = q0 at *
        have hI : zRI S1 (zsZ (zsSp s i n q0.2) q0.1) := by rw [← hq0]; exact hI
        refine zG_s rfl rfl ?_
        refine zN_st4 rfl (fun _ _ _ => rfl) rfl ?_
        have main38 : ∀ x, x ≤ n → ∀ (S1 : zRS) (x5 x6 : Value), zRI S1 (zsZ (zsSp s i n (zDr2 v n q0 x).2) (zDr2 v n q0 x).1) → zok1 [.ref r, .int (nI i), .int (nI n), .int (nI v), .int (nI x), x5, x6] 6 = true → zGoP (d + 3) tX10_draw 38 [.ref r, .int (nI i), .int (nI n), .int (nI v), .int (nI x), x5, x6] [] (zRh h r S1) (zROut h r (zo_draw s (nI i) (nI n) (nI v))) := by
          refine zdown (n) ?_ (fun x hp38 ih38 => ?_)
          · skip
            intro S1 x5 x6 hI e6
            have hP := zDr2_pre (v := v) (n := n) (q := q0) hP0 n
            have hS := zRI.spI hi hI
            refine zG_s rfl rfl ?_
            refine zG_s rfl rfl ?_
            refine zN_ige rfl (by omega) (by omega) (fun c7 => ?_) (fun c8 => absurd c8 (by omega))
            refine zG_s rfl rfl ?_
            refine zG_s rfl rfl ?_
            refine zG_cV1 rfl rfl zRh_o rfl rfl (cr_pairs hS hP) ?_
            -- leaf 3
            exact zG_ret rfl rfl (zRfin hrs hI)
          · skip
            intro S1 x5 x6 hI e6
            have hP := zDr2_pre (v := v) (n := n) (q := q0) hP0 x
            generalize hq1 : zDr2 v n q0 x = q1 at *
            refine zG_s rfl rfl ?_
            refine zG_s rfl rfl ?_
            refine zN_ige rfl (by omega) (by omega) (fun c9 => absurd c9 (by omega)) (fun c10 => ?_)
            refine zG_s rfl rfl ?_
            refine zN_st5 rfl (fun _ _ _ => rfl) rfl ?_
            have main47 : ∀ y, y ≤ n → ∀ (S1 : zRS) (x6 : Value), zRI S1 (zsZ (zsSp s i n (zDr1 v x y q1).2) (zDr1 v x y q1).1) → zGoP (d + 3) tX10_draw 47 [.ref r, .int (nI i), .int (nI n), .int (nI v), .int (nI x), .int (nI y), x6] [] (zRh h r S1) (zROut h r (zo_draw s (nI i) (nI n) (nI v))) := by
              refine zdown (n) ?_ (fun y hp47 ih47 => ?_)
              · skip
                intro S1 x6 hI
                refine zG_s rfl rfl ?_
                refine zG_s rfl rfl ?_
                refine zN_ige rfl (by omega) (by omega) (fun c11 => ?_) (fun c12 => absurd c12 (by omega))
                refine zN_inc4 rfl rfl ?_
                refine zG_s rfl rfl ?_
                -- leaf 4
                exact ih38 _ _ _ (by rw [zDr2, hq1]; exact hI) rfl
              · skip
                intro S1 x6 hI
                have hP := zDr1_pre (v := v) (x := x) hP y (by omega)
                have ht9 := ztop_lt (zNxt (zDr1 v x y q1).1)
                refine zG_s rfl rfl ?_
                refine zG_s rfl rfl ?_
                refine zN_ige rfl (by omega) (by omega) (fun c13 => absurd c13 (by omega)) (fun c14 => ?_)
                refine zG_s rfl rfl ?_
                refine zG_s rfl rfl ?_
                refine zN_ieq rfl (by omega) (by omega) (fun c15 => ?_) (fun c16 => ?_)
                · skip
                  refine zN_inc5 rfl rfl ?_
                  refine zG_s rfl rfl ?_
                  -- leaf 5
                  have e : zDr1 v x (y + 1) q1 = zDr1 v x y q1 := if_pos c15
                  rw [e] at ih47
                  exact ih47 _ _ hI
                · skip
                  refine zG_s rfl rfl ?_
                  refine zG_s rfl rfl ?_
                  refine zN_get rfl zRh_o rfl ?_
                  rw [hI.z.1]
                  refine zG_s rfl rfl ?_
                  refine zG_s rfl rfl ?_
                  refine zG_s rfl rfl ?_
                  refine zG_s (st' := [.int (zNxt (zDr1 v x y q1).1), .ref r]) rfl rfl ?_
                  refine zR_put rfl rfl rfl (fun _ => rfl) ?_
                  have hI2 : zRI (zRi S1 5 (zNxt (zDr1 v x y q1).1)) (zsZ (zsSp s i n (zDr1 v x y q1).2) (zNxt (zDr1 v x y q1).1)) := hI.u_z
                  refine zG_s rfl rfl ?_
                  refine zN_get rfl zRh_o rfl ?_
                  rw [show (zRi S1 5 (zNxt (zDr1 v x y q1).1)).1 5 = zNxt (zDr1 v x y q1).1 from rfl]
                  refine zG_s rfl rfl ?_
                  refine zG_s (st' := [.int (nI (zTop16 (zNxt (zDr1 v x y q1).1)))]) rfl (by rw [← ztop]; rfl) ?_
                  refine zG_s rfl rfl ?_
                  refine zN_rem (y := 100) rfl (by omega) (by omega) (by omega) ?_
                  refine zG_s rfl rfl ?_
                  refine zN_ige rfl (by omega) (by omega) (fun c17 => ?_) (fun c18 => ?_)
                  · skip
                    refine zG_s rfl rfl ?_
                    refine zN_st6 rfl (fun _ _ _ => rfl) rfl ?_
                    refine zN_inc5 rfl rfl ?_
                    refine zG_s rfl rfl ?_
                    -- leaf 6
                    have e : zDr1 v x (y + 1) q1 = (zNxt (zDr1 v x y q1).1, (zDr1 v x y q1).2) := by rw [zDr1, if_neg c16, if_neg (by omega)]
                    rw [e] at ih47
                    exact ih47 _ _ hI2
                  · skip
                    refine zG_s rfl rfl ?_
                    refine zG_s rfl rfl ?_
                    refine zG_s rfl rfl ?_
                    refine zG_s rfl rfl ?_
                    refine zG_cQV rfl rfl zRh_o rfl rfl (cr_nests hr (zRI.spI hi hI2) hP hp38 hp47) (fun h3 hB => ?_)
                    obtain ⟨S3, rfl, hF3, hS3⟩ := hB
                    have hI := hI2.u_sp hi hS3 (hW.sp hP).z hF3 (fun k j g => Or.inr g)
                    rw [zsSp2] at hI
                    refine zG_s rfl rfl ?_
                    refine zN_st6 rfl (fun _ _ _ => rfl) rfl ?_
                    refine zN_inc5 rfl rfl ?_
                    refine zG_s rfl rfl ?_
                    -- leaf 7
                    have e : zDr1 v x (y + 1) q1 = (zNxt (zDr1 v x y q1).1, zNst (zDr1 v x y q1).2 x y) := by rw [zDr1, if_neg c16, if_pos c18]
                    rw [e] at ih47
                    exact ih47 _ _ hI
            exact main47 0 (by omega) _ _ hI
        exact main38 0 (by omega) _ _ _ hI rfl
      · skip
        refine zG_s rfl rfl ?_
        -- leaf 8
        exact zG_ret rfl rfl (zRfin (by rw [zo_draw, zb_i hi (by omega), zb_i hn (by omega), zb_no c6]) hI)
