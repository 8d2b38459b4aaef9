theorem zLv_g {M a : Nat} {g : Nat → Bool} {nr : Nat → Nat → Bool} : ∀ {n v : Nat}, zLv M a g nr n v = true → v = a ∨ g v = true
  | 0, v, h => Or.inl (of_decide_eq_true h)
  | n + 1, v, h => by
    rw [zLv, Bool.or_eq_true, Bool.and_eq_true] at h
    rcases h with h | h
    · exact zLv_g h
    · exact Or.inr h.1
theorem cr_fence {d r : Nat} {h : zH} {S : zRS} {s : zST} {a b c e : Int32} (hr : 2 ≤ r) (hI : zRI S s) (hW : zWT s) : zCallP (d + 4) 240 [.ref r, .int a, .int b, .int c, .int e] (zRh h r S) (zROut h r (zo_fence s a b c e)) := by
  refine zG_mP (t := tX10_fence) (ls0 := [.ref r, .int a, .int b, .int c, .int e, .null, .null, .null, .null, .null]) rfl rfl (zdnR (zdnI (zdnI (zdnI (zdnI zdn0))))) rfl ?_
  refine zG_s rfl rfl ?_
  refine zG_cS1 rfl rfl cr_isSpace ?_
  refine zN_ifb rfl (fun c1 => ?_) (fun c2 => ?_)
  · skip
    refine zG_s rfl rfl ?_
    -- leaf 1
    exact zG_ret rfl rfl (zRfin (by rw [zo_fence, zb_no c1]) hI)
  · skip
    obtain ⟨i, hi, rfl⟩ := zin_of c2 (by omega)
    refine zG_s rfl rfl ?_
    refine zG_cS1 rfl rfl cr_isSpace ?_
    refine zN_ifb rfl (fun c3 => ?_) (fun c4 => ?_)
    · skip
      refine zG_s rfl rfl ?_
      -- leaf 2
      exact zG_ret rfl rfl (zRfin (by rw [zo_fence, zb_i hi (by omega), zb_no c3]) hI)
    · skip
      obtain ⟨j, hj, rfl⟩ := zin_of c4 (by omega)
      have hS := hI.sp i hi
      have hT := hI.sp j hj
      have hP := hW.1 i hi
      have hP2 := hW.1 j hj
      have hn := hP.1
      have hn2 := hP2.1
      have hrs : zo_fence s (nI i) (nI j) c e = if 3 < (s.1 i).1 then (-1, s) else if zWh (s.1 i).1 (s.1 j).1 (s.1 i).2 (s.1 j).2 c && zWh (s.1 i).1 (s.1 j).1 (s.1 i).2 (s.1 j).2 e then (zFdW (1 <<< (3 * (s.1 i).1)) c.toNatClampNeg (zGd (s.1 i).1 (s.1 j).1 (s.1 i).2 (s.1 j).2) (zNr (s.1 i).1 (s.1 j).2 (zTr (s.1 j).1 (s.1 j).2)) e.toNatClampNeg, s) else (-1, s) := by rw [zo_fence, zb_i hi (by omega), zb_i hj (by omega)]
      generalize (s.1 i).1 = n at *
      generalize (s.1 j).1 = n2 at *
      generalize (s.1 i).2 = lo at *
      generalize (s.1 j).2 = lo2 at *
      refine zG_s rfl rfl ?_
      refine zN_get rfl zRh_o rfl ?_
      refine zG_s rfl rfl ?_
      refine zR_ald (k := 3) (n := 10) rfl rfl (by omega) hS.1 ?_
      refine zG_s rfl rfl ?_
      refine zN_igt rfl (by omega) (by omega) (fun c5 => ?_) (fun c6 => ?_)
      · skip
        refine zG_s rfl rfl ?_
        -- leaf 3
        exact zG_ret rfl rfl (zRfin (by rw [hrs, if_pos (by omega)]) hI)
      · skip
        refine zG_s rfl rfl ?_
        refine zG_s rfl rfl ?_
        refine zG_s rfl rfl ?_
        refine zG_s rfl rfl ?_
        refine zG_cV1 rfl rfl zRh_o rfl rfl (cr_isWhole hS hT hP hP2) ?_
        first | refine zN_ifb rfl (fun c7 => ?_) (fun c8 => ?_) | refine zN_eq0 rfl (by omega) (fun c7 => ?_) (fun c8 => ?_)
        · skip
          refine zG_s rfl rfl ?_
          -- leaf 4
          exact zG_ret rfl rfl (zRfin (by rw [hrs, if_neg (by omega), if_neg (by rw [c7, Bool.false_and]; decide)]) hI)
        · skip
          refine zG_s rfl rfl ?_
          refine zG_s rfl rfl ?_
          refine zG_s rfl rfl ?_
          refine zG_s rfl rfl ?_
          refine zG_cV1 rfl rfl zRh_o rfl rfl (cr_isWhole hS hT hP hP2) ?_
          first | refine zN_ifnb rfl (fun c9 => ?_) (fun c10 => ?_) | refine zN_ne0 rfl (by omega) (fun c9 => ?_) (fun c10 => ?_)
          · skip
            obtain ⟨w, hw1, hw2, hcx, hcl, hg1⟩ := zWh_w hn c8
            obtain ⟨b, hb1, hb2, hex, hel, hg2⟩ := zWh_w hn c9
            subst hcx hex
            have hrs2 : zo_fence s (nI i) (nI j) (nI w) (nI b) = (zFdW (1 <<< (3 * n)) w (zGd n n2 lo lo2) (zNr n lo2 (zTr n2 lo2)) b, s) := by rw [hrs, if_neg (by omega), if_pos (by rw [c8, c9]; rfl), hcl, hel]
            have hM : 1 <<< (3 * n) ≤ 512 := by
              rw [Nat.one_shiftLeft]
              exact Nat.pow_le_pow_right (by decide) (show 3 * n ≤ 9 by omega)
            generalize hMM : 1 <<< (3 * n) = M at *
            have hD9 : ∀ k q, k < M → zMb M w (zGd n n2 lo lo2) (zNr n lo2 (zTr n2 lo2)) q k = true → ∀ x, x < n → zDig k x < n2 := fun k q hk hm => by
              rcases zLv_g (zMb_iff.mp hm).1 with g9 | g9
              · rw [g9]; exact (zGd_d hn (by omega) hg1).2
              · exact (zGd_d hn (by omega) g9).2
            refine zG_s rfl rfl ?_
            refine zG_s rfl rfl ?_
            refine zG_s rfl rfl ?_
            refine zN_get rfl zRh_o rfl ?_
            refine zG_s rfl rfl ?_
            refine zR_ald (k := 3) (n := 10) rfl rfl (by omega) hS.1 ?_
            refine zN_mul rfl ?_
            refine zN_shl rfl (by omega) ?_
            rw [hMM]
            refine zN_st5 rfl (fun _ _ _ => rfl) rfl ?_
            refine zG_s rfl rfl ?_
            refine zN_st6 rfl (fun _ _ _ => rfl) rfl ?_
            have main62 : ∀ k, k ≤ M → ∀ S1 : zRS, zRF (fun k2 _ => k2 = 13) S S1 → (∀ v, v < k → S1.2.1 13 v = if v = w then nI 0 else if zGd n n2 lo lo2 v then -1 else -2) → zGoP (d + 3) tX10_fence 62 [.ref r, .int (nI i), .int (nI j), .int (nI w), .int (nI b), .int (nI M), .int (nI k), .null, .null, .null] [] (zRh h r S1) (zROut h r (zo_fence s (nI i) (nI j) (nI w) (nI b))) := by
              refine zdown (M) ?_ (fun k hp62 ih62 => ?_)
              · skip
                intro S1 hF hA
                refine zG_s rfl rfl ?_
                refine zG_s rfl rfl ?_
                refine zN_ige rfl (by omega) (by omega) (fun c11 => ?_) (fun c12 => absurd c12 (by omega))
                refine zG_s rfl rfl ?_
                refine zN_st6 rfl (fun _ _ _ => rfl) rfl ?_
                refine zG_s rfl rfl ?_
                refine zN_st7 rfl (fun _ _ _ => rfl) rfl ?_
                have jn221 : ∀ (x6 x7 x8 x9 : Value) (S2 : zRS), zRF (fun k2 _ => k2 = 13) S S2 → zFd M w (zGd n n2 lo lo2) (zNr n lo2 (zTr n2 lo2)) b (if zc1 .ge (S2.2.1 13 b) then S2.2.1 13 b else -3) → zGoP (d + 3) tX10_fence 221 [.ref r, .int (nI i), .int (nI j), .int (nI w), .int (nI b), .int (nI M), x6, x7, x8, x9] [] (zRh h r S2) (zROut h r (zo_fence s (nI i) (nI j) (nI w) (nI b))) := by
                  intro x6 x7 x8 x9 S2 hF hfd
                  have hI2 := hI.fr hW hF (fun k2 j g => by unfold zScr; omega)
                  refine zG_s rfl rfl ?_
                  refine zN_get rfl zRh_o rfl ?_
                  refine zG_s rfl rfl ?_
                  refine zR_ald (k := 13) (n := 512) (w := S2.2.1 13 b) rfl rfl (by omega) rfl ?_
                  refine zN_if rfl (fun c13 => ?_) (fun c14 => ?_)
                  · skip
                    refine zG_s rfl rfl ?_
                    refine zN_get rfl zRh_o rfl ?_
                    refine zG_s rfl rfl ?_
                    refine zR_ald (k := 13) (n := 512) (w := S2.2.1 13 b) rfl rfl (by omega) rfl ?_
                    -- leaf 5
                    rw [if_pos c13] at hfd
                    exact zG_ret rfl rfl (zRfin (by rw [hrs2, zFdW_eq hfd]) hI2)
                  · skip
                    refine zG_s rfl rfl ?_
                    refine zG_s rfl rfl ?_
                    -- leaf 6
                    rw [if_neg (by rw [c14]; decide)] at hfd
                    exact zG_ret rfl rfl (zRfin (by rw [hrs2, zFdW_eq hfd]) hI2)
                have main115 : ∀ m9, m9 ≤ M → ∀ (mo : Nat) (x8 x9 : Value) (S2 : zRS), zRF (fun k2 _ => k2 = 13) S S2 → zFq M w (zGd n n2 lo lo2) (zNr n lo2 (zTr n2 lo2)) m9 0 0 (S2.2.1 13) → mo ≤ 1 → (0 < mo → m9 + 1 ≤ zct (zLv M w (zGd n n2 lo lo2) (zNr n lo2 (zTr n2 lo2)) m9) M) → (mo = 0 → ∃ m, m9 = m + 1 ∧ ∀ v, v < M → zLv M w (zGd n n2 lo lo2) (zNr n lo2 (zTr n2 lo2)) (m + 1) v = true → zLv M w (zGd n n2 lo lo2) (zNr n lo2 (zTr n2 lo2)) m v = true) → zGoP (d + 3) tX10_fence 115 [.ref r, .int (nI i), .int (nI j), .int (nI w), .int (nI b), .int (nI M), .int (nI mo), .int (nI m9), x8, x9] [] (zRh h r S2) (zROut h r (zo_fence s (nI i) (nI j) (nI w) (nI b))) := by
                  refine zdown (M) ?_ (fun m9 hp115 ih115 => ?_)
                  · skip
                    intro mo x8 x9 S2 hF hq hm1 hmc hms
                    have hcl9 := zct_le (zLv M w (zGd n n2 lo lo2) (zNr n lo2 (zTr n2 lo2)) M) M
                    refine zG_s rfl rfl ?_
                    refine zN_eq0 rfl (by omega) (fun c15 => ?_) (fun c16 => absurd c16 (by omega))
                    -- leaf 7
                    exact jn221 _ _ _ _ S2 hF (zFq_end hq hb1 (by omega) (fun _ => hms c15))
                  · skip
                    intro mo x8 x9 S2 hF hq hm1 hmc hms
                    have hcl9 := zct_le (zLv M w (zGd n n2 lo lo2) (zNr n lo2 (zTr n2 lo2)) m9) M
                    refine zG_s rfl rfl ?_
                    refine zN_eq0 rfl (by omega) (fun c17 => ?_) (fun c18 => ?_)
                    · skip
                      -- leaf 8
                      exact jn221 _ _ _ _ S2 hF (zFq_end hq hb1 (by omega) (fun _ => hms c17))
                    · skip
                      refine zG_s rfl rfl ?_
                      refine zN_get rfl zRh_o rfl ?_
                      refine zG_s rfl rfl ?_
                      refine zR_ald (k := 13) (n := 512) (w := S2.2.1 13 b) rfl rfl (by omega) rfl ?_
                      refine zN_if rfl (fun c19 => ?_) (fun c20 => ?_)
                      · skip
                        -- leaf 9
                        exact jn221 _ _ _ _ S2 hF (zFq_end hq hb1 (by omega) (fun g => absurd (c19.symm.trans g) (by decide)))
                      · skip
                        refine zG_s rfl rfl ?_
                        refine zN_st6 rfl (fun _ _ _ => rfl) rfl ?_
                        refine zG_s rfl rfl ?_
                        refine zN_st8 rfl (fun _ _ _ => rfl) rfl ?_
                        have main136 : ∀ k, k ≤ M → ∀ (mo3 : Nat) (x9 : Value) (S3 : zRS), zRF (fun k2 _ => k2 = 13) S S3 → zFq M w (zGd n n2 lo lo2) (zNr n lo2 (zTr n2 lo2)) m9 k 0 (S3.2.1 13) → zFm9 M w (zGd n n2 lo lo2) (zNr n lo2 (zTr n2 lo2)) m9 k 0 mo3 → zGoP (d + 3) tX10_fence 136 [.ref r, .int (nI i), .int (nI j), .int (nI w), .int (nI b), .int (nI M), .int (nI mo3), .int (nI m9), .int (nI k), x9] [] (zRh h r S3) (zROut h r (zo_fence s (nI i) (nI j) (nI w) (nI b))) := by
                          refine zdown (M) ?_ (fun k hp136 ih136 => ?_)
                          · skip
                            intro mo3 x9 S3 hF hq hm
                            refine zG_s rfl rfl ?_
                            refine zG_s rfl rfl ?_
                            refine zN_ige rfl (by omega) (by omega) (fun c21 => ?_) (fun c22 => absurd c22 (by omega))
                            refine zN_inc7 rfl rfl ?_
                            refine zG_s rfl rfl ?_
                            -- leaf 10
                            obtain ⟨g1, g2, g3⟩ := hq.next hm
                            exact ih115 mo3 _ _ S3 hF g1 hm.1 (fun g => by have a1 := g2 g; have a2 := hmc (by omega); omega) (fun g => ⟨m9, rfl, g3 g⟩)
                          · skip
                            intro mo3 x9 S3 hF hq hm
                            refine zG_s rfl rfl ?_
                            refine zG_s rfl rfl ?_
                            refine zN_ige rfl (by omega) (by omega) (fun c23 => absurd c23 (by omega)) (fun c24 => ?_)
                            refine zG_s rfl rfl ?_
                            refine zN_st9 rfl (fun _ _ _ => rfl) rfl ?_
                            have main146 : ∀ q, q ≤ M → ∀ (mo4 : Nat) (S4 : zRS), zRF (fun k2 _ => k2 = 13) S S4 → zFq M w (zGd n n2 lo lo2) (zNr n lo2 (zTr n2 lo2)) m9 k q (S4.2.1 13) → zFm9 M w (zGd n n2 lo lo2) (zNr n lo2 (zTr n2 lo2)) m9 k q mo4 → zGoP (d + 3) tX10_fence 146 [.ref r, .int (nI i), .int (nI j), .int (nI w), .int (nI b), .int (nI M), .int (nI mo4), .int (nI m9), .int (nI k), .int (nI q)] [] (zRh h r S4) (zROut h r (zo_fence s (nI i) (nI j) (nI w) (nI b))) := by
                              refine zdown (M) ?_ (fun q hp146 ih146 => ?_)
                              · skip
                                intro mo4 S4 hF hq hm
                                refine zG_s rfl rfl ?_
                                refine zG_s rfl rfl ?_
                                refine zN_ige rfl (by omega) (by omega) (fun c25 => ?_) (fun c26 => absurd c26 (by omega))
                                refine zN_inc8 rfl rfl ?_
                                refine zG_s rfl rfl ?_
                                -- leaf 11
                                exact ih136 mo4 _ S4 hF (hq.cg (fun v hv => zRq_M hv)) (hm.cg (fun v hv => zRq_M hv))
                              · skip
                                intro mo4 S4 hF hq hm
                                have hS := hS.fr hn hF (fun k2 j g1 g2 => by unfold zRsp at g1; omega)
                                have hT := hT.fr hn2 hF (fun k2 j g1 g2 => by unfold zRsp at g1; omega)
                                have hkn := zFq_n (show m9 + 1 < 2 ^ 31 by omega) hq hp136
                                have hq1 := zFq_m1 (show m9 + 1 < 2 ^ 31 by omega) hq hp146
                                refine zG_s rfl rfl ?_
                                refine zG_s rfl rfl ?_
                                refine zN_ige rfl (by omega) (by omega) (fun c27 => absurd c27 (by omega)) (fun c28 => ?_)
                                refine zG_s rfl rfl ?_
                                refine zN_get rfl zRh_o rfl ?_
                                refine zG_s rfl rfl ?_
                                refine zR_ald (k := 13) (n := 512) (w := S4.2.1 13 k) rfl rfl (by omega) rfl ?_
                                refine zG_s rfl rfl ?_
                                refine zN_if2 rfl (fun c29 => ?_) (fun c30 => ?_)
                                · skip
                                  refine zN_inc8 rfl rfl ?_
                                  refine zG_s rfl rfl ?_
                                  -- leaf 12
                                  have g9 : zMb M w (zGd n n2 lo lo2) (zNr n lo2 (zTr n2 lo2)) m9 k = false := by
                                    cases e9 : zMb M w (zGd n n2 lo lo2) (zNr n lo2 (zTr n2 lo2)) m9 k with
                                    | false => rfl
                                    | true => exact absurd (hkn.mpr e9) (of_decide_eq_true c29)
                                  exact ih136 mo4 _ S4 hF (hq.cg (fun v hv => zRq_no g9)) (hm.cg (fun v hv => zRq_no g9))
                                · skip
                                  refine zG_s rfl rfl ?_
                                  refine zN_get rfl zRh_o rfl ?_
                                  refine zG_s rfl rfl ?_
                                  refine zR_ald (k := 13) (n := 512) (w := S4.2.1 13 q) rfl rfl (by omega) rfl ?_
                                  refine zG_s rfl rfl ?_
                                  refine zN_if2 rfl (fun c31 => ?_) (fun c32 => ?_)
                                  · skip
                                    refine zN_inc9 rfl rfl ?_
                                    refine zG_s rfl rfl ?_
                                    -- leaf 13
                                    have e9 : zLv M w (zGd n n2 lo lo2) (zNr n lo2 (zTr n2 lo2)) m9 q = false → zRq M w (zGd n n2 lo lo2) (zNr n lo2 (zTr n2 lo2)) m9 k (q + 1) q = zRq M w (zGd n n2 lo lo2) (zNr n lo2 (zTr n2 lo2)) m9 k q q := fun hl => by
                                      rw [zRq_at]
                                      cases g1 : zRq M w (zGd n n2 lo lo2) (zNr n lo2 (zTr n2 lo2)) m9 k q q with
                                      | true => rfl
                                      | false =>
                                        cases g2 : zGd n n2 lo lo2 q with
                                        | false => rfl
                                        | true => exact absurd (hq1.mpr ⟨hl, g1, g2⟩) (of_decide_eq_true c31)
                                    obtain ⟨h5, h6⟩ := hq.no hm hp146 e9
                                    exact ih146 mo4 S4 hF h5 h6
                                  · skip
                                    refine zG_s rfl rfl ?_
                                    refine zG_s rfl rfl ?_
                                    refine zG_s rfl rfl ?_
                                    refine zG_s rfl rfl ?_
                                    refine zG_s rfl rfl ?_
                                    refine zG_cV1 rfl rfl zRh_o rfl rfl (cr_isBeside hS hT hn hP2 (by omega) (by omega) (hD9 k m9 hp136 (hkn.mp (Decidable.not_not.mp (of_decide_eq_false (by assumption)))))) ?_
                                    first | refine zN_ifb rfl (fun c33 => ?_) (fun c34 => ?_) | refine zN_eq0 rfl (by omega) (fun c33 => ?_) (fun c34 => ?_)
                                    · skip
                                      refine zN_inc9 rfl rfl ?_
                                      refine zG_s rfl rfl ?_
                                      -- leaf 14
                                      obtain ⟨h5, h6⟩ := hq.no hm hp146 (fun _ => by rw [zRq_at, c33]; simp)
                                      exact ih146 mo4 S4 hF h5 h6
                                    · skip
                                      refine zG_s rfl rfl ?_
                                      refine zN_get rfl zRh_o rfl ?_
                                      refine zG_s rfl rfl ?_
                                      refine zG_s rfl rfl ?_
                                      refine zG_s rfl rfl ?_
                                      refine zN_add rfl ?_
                                      refine zR_ast (k := 13) (n := 512) rfl rfl (by omega) hr ?_
                                      refine zG_s rfl rfl ?_
                                      refine zN_st6 rfl (fun _ _ _ => rfl) rfl ?_
                                      refine zN_inc9 rfl rfl ?_
                                      refine zG_s rfl rfl ?_
                                      -- leaf 15
                                      obtain ⟨g1, g2, g3⟩ := hq1.mp (Decidable.not_not.mp (of_decide_eq_false c32))
                                      obtain ⟨h5, h6⟩ := hq.yes (mo := 0) hp146 g1 g3 (hkn.mp (Decidable.not_not.mp (of_decide_eq_false c30))) c34
                                      exact ih146 1 _ (hF.a rfl) (show zFq _ _ _ _ _ _ _ (upd (S4.2.1 13) q (nI (m9 + 1))) from h5) h6
                            exact main146 0 (Nat.zero_le _) mo3 S3 hF hq hm
                        exact main136 0 (Nat.zero_le _) 0 _ S2 hF hq ⟨by omega, fun g => absurd g (by omega), fun ⟨v, _, _, g⟩ => absurd (zRq_0.symm.trans g) (by decide)⟩
                exact main115 0 (Nat.zero_le _) 1 _ _ S1 hF (zFq_start hA) (by omega) (fun _ => zLv_cnt0 hw1) (fun g => absurd g (by omega))
              · skip
                intro S1 hF hA
                have hS := hS.fr hn hF (fun k2 j g1 g2 => by unfold zRsp at g1; omega)
                have hT := hT.fr hn2 hF (fun k2 j g1 g2 => by unfold zRsp at g1; omega)
                refine zG_s rfl rfl ?_
                refine zG_s rfl rfl ?_
                refine zN_ige rfl (by omega) (by omega) (fun c35 => absurd c35 (by omega)) (fun c36 => ?_)
                refine zG_s rfl rfl ?_
                refine zN_get rfl zRh_o rfl ?_
                refine zG_s rfl rfl ?_
                refine zG_s rfl rfl ?_
                refine zG_s rfl rfl ?_
                refine zN_ine rfl (by omega) (by omega) (fun c37 => ?_) (fun c38 => ?_)
                · skip
                  refine zG_s rfl rfl ?_
                  refine zG_s rfl rfl ?_
                  refine zG_s rfl rfl ?_
                  refine zG_s rfl rfl ?_
                  refine zG_cV1 rfl rfl zRh_o rfl rfl (cr_isWhole hS hT hP hP2) ?_
                  first | refine zN_ifb rfl (fun c39 => ?_) (fun c40 => ?_) | refine zN_eq0 rfl (by omega) (fun c39 => ?_) (fun c40 => ?_)
                  · skip
                    refine zG_s rfl rfl ?_
                    refine zR_ast (k := 13) (n := 512) rfl rfl (by omega) hr ?_
                    refine zN_inc6 rfl rfl ?_
                    refine zG_s rfl rfl ?_
                    -- leaf 16
                    refine ih62 _ (hF.a rfl) (fun v hv => ?_)
                    by_cases e9 : v = k
                    · rw [e9, zRa_at, if_neg c37, show zGd n n2 lo lo2 k = false from c39]; rfl
                    · rw [zRa_ne (Or.inr e9)]; exact hA v (by omega)
                  · skip
                    refine zG_s rfl rfl ?_
                    refine zG_s rfl rfl ?_
                    refine zR_ast (k := 13) (n := 512) rfl rfl (by omega) hr ?_
                    refine zN_inc6 rfl rfl ?_
                    refine zG_s rfl rfl ?_
                    -- leaf 17
                    refine ih62 _ (hF.a rfl) (fun v hv => ?_)
                    by_cases e9 : v = k
                    · rw [e9, zRa_at, if_neg c37, show zGd n n2 lo lo2 k = true from c40]; rfl
                    · rw [zRa_ne (Or.inr e9)]; exact hA v (by omega)
                · skip
                  refine zG_s rfl rfl ?_
                  refine zG_s rfl rfl ?_
                  refine zR_ast (k := 13) (n := 512) rfl rfl (by omega) hr ?_
                  refine zN_inc6 rfl rfl ?_
                  refine zG_s rfl rfl ?_
                  -- leaf 18
                  refine ih62 _ (hF.a rfl) (fun v hv => ?_)
                  by_cases e9 : v = k
                  · rw [e9, zRa_at, if_pos c38]
                  · rw [zRa_ne (Or.inr e9)]; exact hA v (by omega)
            exact main62 0 (Nat.zero_le _) _ zRF.rf (fun v hv => absurd hv (Nat.not_lt_zero v))
          · skip
            refine zG_s rfl rfl ?_
            -- leaf 19
            exact zG_ret rfl rfl (zRfin (by rw [hrs, if_neg (by omega), if_neg (by rw [c8, c10]; decide)]) hI)
