/-- copy -/
theorem cr_copy {d r : Nat} {h : zH} {S : zRS} {s : zST} {a b c e g : Int32} (hr : 2 ≤ r) (hI : zRI S s) (hW : zWT s) : zCallP (d + 3) 273 [.ref r, .int a, .int b, .int c, .int e, .int g] (zRh h r S) (zROut h r (zo_copy s a b c e g)) := by
  refine zG_mP (t := tX10_copy) (ls0 := [.ref r, .int a, .int b, .int c, .int e, .int g, .null]) rfl rfl (zdnR (zdnI (zdnI (zdnI (zdnI (zdnI zdn0)))))) rfl ?_
  refine zG_s rfl rfl ?_
  refine zG_cS1 rfl rfl cr_isSheet ?_
  refine zN_ifb rfl (fun c1 => ?_) (fun c2 => ?_)
  · skip
    refine zG_s rfl rfl ?_
    -- leaf 1
    exact zG_ret rfl rfl (zRfin (by rw [zo_copy, zb_no c1]) hI)
  · skip
    obtain ⟨i, hi, rfl⟩ := zin_of c2 (by omega)
    refine zG_s rfl rfl ?_
    refine zG_cS1 rfl rfl cr_isSheet ?_
    refine zN_ifnb rfl (fun c3 => ?_) (fun c4 => ?_)
    · skip
      obtain ⟨k, hk, rfl⟩ := zin_of c3 (by omega)
      have h1 := hI.sh i hi
      have h2 := hI.sh k hk
      obtain ⟨hst, hln⟩ := hW.2.2.2.1 i hi
      obtain ⟨hst2, hln2⟩ := hW.2.2.2.1 k hk
      refine zG_s rfl rfl ?_
      refine zN_get rfl zRh_o rfl ?_
      refine zG_s rfl rfl ?_
      refine zR_ald (k := 18) (n := 4) rfl rfl (by omega) h1.1 ?_
      refine zN_ifbv rfl (by omega) (fun c5 => ?_) (fun c6 => ?_)
      · skip
        refine zG_s rfl rfl ?_
        -- leaf 2
        exact zG_ret rfl rfl (zRfin (by rw [zo_copy, zb_i hi (by omega), zb_i hk (by omega), if_pos (Or.inl c5)]; first | done | rfl) hI)
      · skip
        refine zG_s rfl rfl ?_
        refine zN_get rfl zRh_o rfl ?_
        refine zG_s rfl rfl ?_
        refine zR_ald (k := 18) (n := 4) rfl rfl (by omega) h2.1 ?_
        refine zN_gebv rfl (by omega) (fun c7 => ?_) (fun c8 => ?_)
        · skip
          refine zG_s rfl rfl ?_
          refine zN_get rfl zRh_o rfl ?_
          refine zG_s rfl rfl ?_
          refine zR_ald (k := 18) (n := 4) rfl rfl (by omega) h1.1 ?_
          refine zG_s rfl rfl ?_
          refine zN_get rfl zRh_o rfl ?_
          refine zG_s rfl rfl ?_
          refine zR_ald (k := 18) (n := 4) rfl rfl (by omega) h2.1 ?_
          refine zN_seqs rfl (by omega) (by omega) (fun c9 => ?_) (fun c10 => ?_)
          · skip
            refine zG_s rfl rfl ?_
            refine zG_s rfl rfl ?_
            refine zG_s rfl rfl ?_
            refine zG_s rfl rfl ?_
            refine zG_cV1 rfl rfl zRh_o rfl rfl (cr_isOutside hi (h1.2 (by omega)).1 hln) ?_
            first | refine zN_ifnb rfl (fun c11 => ?_) (fun c12 => ?_) | refine zN_ne0 rfl (by omega) (fun c11 => ?_) (fun c12 => ?_)
            · skip
              refine zG_s rfl rfl ?_
              -- leaf 3
              exact zG_ret rfl rfl (zRfin (by rw [zo_copy, zb_i hi (by omega), zb_i hk (by omega), if_neg (by omega), if_neg (fun q => q c9), if_pos (Or.inl (by simpa using c11))]; first | done | rfl) hI)
            · skip
              refine zG_s rfl rfl ?_
              refine zG_s rfl rfl ?_
              refine zG_s rfl rfl ?_
              refine zG_s rfl rfl ?_
              refine zG_cV1 rfl rfl zRh_o rfl rfl (cr_isOutside hk (h2.2 (by omega)).1 hln2) ?_
              first | refine zN_ifb rfl (fun c13 => ?_) (fun c14 => ?_) | refine zN_eq0 rfl (by omega) (fun c13 => ?_) (fun c14 => ?_)
              · skip
                have hin1 : zInr (s.2.2.2.2.1 i).2.1 b g = true := by simpa using c12
                have hin2 : zInr (s.2.2.2.2.1 k).2.1 e g = true := by simpa using c13
                obtain ⟨p, m, hpm, ep, em⟩ := zInr_q hln hin1
                obtain ⟨p2, m2, hpm2, ep2, em2⟩ := zInr_q hln2 hin2
                subst ep em ep2
                have hmm : m = m2 := (nI_inj (by omega) (by omega)).mp em2
                subst hmm
                have hrs : zo_copy s (nI i) (nI p) (nI k) (nI p2) (nI m) = (nI m, zsSh s k (s.2.2.2.2.1 k).1 (s.2.2.2.2.1 k).2.1 (va_cpy (s.2.2.2.2.1 i).2.2 (s.2.2.2.2.1 k).2.2 p p2 m)) := by
                  rw [zo_copy, zb_i hi (by omega), zb_i hk (by omega), if_neg (by omega), if_neg (fun q => q c9), if_neg (by rw [hin1, hin2]; simp), nI_cl (by omega), nI_cl (by omega), nI_cl (by omega)]
                refine zG_s rfl rfl ?_
                refine zN_st6 rfl (fun _ _ _ => rfl) rfl ?_
                have main84 : ∀ q, q ≤ m → ∀ S1 : zRS, zRF (fun k2 _ => k2 = 21) S S1 → (∀ j, j < q → S1.2.2 21 j = ((s.2.2.2.2.1 i).2.2 (p + j)).toInt64) → zGoP (d + 2) tX10_copy 84 [.ref r, .int (nI i), .int (nI p), .int (nI k), .int (nI p2), .int (nI m), .int (nI q)] [] (zRh h r S1) (zROut h r (zo_copy s (nI i) (nI p) (nI k) (nI p2) (nI m))) := by
                  refine zdown (m) ?_ (fun q hp84 ih84 => ?_)
                  · skip
                    intro S1 hF hA
                    refine zG_s rfl rfl ?_
                    refine zG_s rfl rfl ?_
                    refine zN_ige rfl (by omega) (by omega) (fun c15 => ?_) (fun c16 => absurd c16 (by omega))
                    refine zG_s rfl rfl ?_
                    refine zN_st6 rfl (fun _ _ _ => rfl) rfl ?_
                    have main121 : ∀ q, q ≤ m → ∀ S2 : zRS, zRF (zRshP k) S1 S2 → (S2.2.1 18 k = S1.2.1 18 k ∧ S2.2.1 19 k = S1.2.1 19 k) → (∀ j, j < (s.2.2.2.2.1 k).2.1 → S2.2.2 20 (40 * k + j) = (va_cpy (s.2.2.2.2.1 i).2.2 (s.2.2.2.2.1 k).2.2 p p2 q j).toInt64) → zGoP (d + 2) tX10_copy 121 [.ref r, .int (nI i), .int (nI p), .int (nI k), .int (nI p2), .int (nI m), .int (nI q)] [] (zRh h r S2) (zROut h r (zo_copy s (nI i) (nI p) (nI k) (nI p2) (nI m))) := by
                      refine zdown (m) ?_ (fun q hp121 ih121 => ?_)
                      · skip
                        intro S2 hF2 h89 hB
                        have hI2 := zRI.u_sh (st := (s.2.2.2.2.1 k).1) (ln := (s.2.2.2.2.1 k).2.1) (f := va_cpy (s.2.2.2.2.1 i).2.2 (s.2.2.2.2.1 k).2.2 p p2 m) (S1 := S2) (P := fun k2 j => k2 = 21 ∨ zRshP k k2 j) ⟨h89.1.trans ((hF.2.1 18 k (by omega)).trans h2.1), fun g => ⟨h89.2.trans ((hF.2.1 19 k (by omega)).trans (h2.2 g).1), hB⟩⟩ hI hW ((hF.mono (fun k2 j g => Or.inl g)).tr (hF2.mono (fun k2 j g => Or.inr g))) (fun k2 j g => g.elim (fun g => Or.inl (by unfold zScr; omega)) Or.inr)
                        refine zG_s rfl rfl ?_
                        refine zG_s rfl rfl ?_
                        refine zN_ige rfl (by omega) (by omega) (fun c17 => ?_) (fun c18 => absurd c18 (by omega))
                        refine zG_s rfl rfl ?_
                        -- leaf 4
                        exact zG_ret rfl rfl (zRfin hrs hI2)
                      · skip
                        intro S2 hF2 h89 hB
                        refine zG_s rfl rfl ?_
                        refine zG_s rfl rfl ?_
                        refine zN_ige rfl (by omega) (by omega) (fun c19 => absurd c19 (by omega)) (fun c20 => ?_)
                        refine zG_s rfl rfl ?_
                        refine zN_get rfl zRh_o rfl ?_
                        refine zG_s rfl rfl ?_
                        refine zG_s rfl rfl ?_
                        refine zN_mul rfl ?_
                        refine zG_s rfl rfl ?_
                        refine zN_add rfl ?_
                        refine zG_s rfl rfl ?_
                        refine zN_add rfl ?_
                        refine zG_s rfl rfl ?_
                        refine zN_get rfl zRh_o rfl ?_
                        refine zG_s rfl rfl ?_
                        refine zR_lld (k := 21) (n := 40) rfl rfl (by omega) ((hF2.2.2 21 _ (by unfold zRshP; omega)).trans (hA q (by omega))) ?_
                        refine zR_lst (k := 20) (n := 160) rfl rfl (by omega) hr ?_
                        refine zN_inc6 rfl rfl ?_
                        refine zG_s rfl rfl ?_
                        -- leaf 5
                        refine ih121 _ (hF2.l (Or.inr ⟨rfl, by omega, by omega⟩)) h89 (fun j hj => ?_)
                        by_cases e : j = p2 + q
                        · rw [show 40 * k + j = 40 * k + p2 + q by omega, zRl_at, e]
                          unfold va_cpy
                          rw [if_pos (by omega), show p + (p2 + q - p2) = p + q by omega]
                        · rw [zRl_ne (Or.inr (by omega)), hB j hj]
                          unfold va_cpy
                          by_cases e2 : p2 ≤ j ∧ j < p2 + q
                          · rw [if_pos e2, if_pos (by omega)]
                          · rw [if_neg e2, if_neg (by omega)]
                    refine main121 0 (by omega) _ zRF.rf ⟨rfl, rfl⟩ (fun j hj => ?_)
                    rw [hF.2.2 20 _ (by omega), (h2.2 (by omega)).2 j hj]
                    unfold va_cpy
                    rw [if_neg (by omega)]
                  · skip
                    intro S1 hF hA
                    refine zG_s rfl rfl ?_
                    refine zG_s rfl rfl ?_
                    refine zN_ige rfl (by omega) (by omega) (fun c21 => absurd c21 (by omega)) (fun c22 => ?_)
                    refine zG_s rfl rfl ?_
                    refine zN_get rfl zRh_o rfl ?_
                    refine zG_s rfl rfl ?_
                    refine zG_s rfl rfl ?_
                    refine zN_get rfl zRh_o rfl ?_
                    refine zG_s rfl rfl ?_
                    refine zG_s rfl rfl ?_
                    refine zN_mul rfl ?_
                    refine zG_s rfl rfl ?_
                    refine zN_add rfl ?_
                    refine zG_s rfl rfl ?_
                    refine zN_add rfl ?_
                    refine zR_lld (k := 20) (n := 160) (w := ((s.2.2.2.2.1 i).2.2 (p + q)).toInt64) rfl rfl (by omega) ((hF.2.2 20 _ (by omega)).trans (by rw [Nat.add_assoc]; exact (h1.2 (by omega)).2 (p + q) (by omega))) ?_
                    refine zR_lst (k := 21) (n := 40) rfl rfl (by omega) hr ?_
                    refine zN_inc6 rfl rfl ?_
                    refine zG_s rfl rfl ?_
                    -- leaf 6
                    refine ih84 _ (hF.l rfl) (fun j hj => ?_)
                    by_cases e : j = q
                    · rw [e, zRl_at]
                    · rw [zRl_ne (Or.inr (by omega))]; exact hA j (by omega)
                exact main84 0 (by omega) _ zRF.rf (fun j hj => absurd hj (Nat.not_lt_zero j))
              · skip
                refine zG_s rfl rfl ?_
                -- leaf 7
                exact zG_ret rfl rfl (zRfin (by rw [zo_copy, zb_i hi (by omega), zb_i hk (by omega), if_neg (by omega), if_neg (fun q => q c9), if_pos (Or.inr (by simpa using c14))]; first | done | rfl) hI)
          · skip
            refine zG_s rfl rfl ?_
            -- leaf 8
            exact zG_ret rfl rfl (zRfin (by rw [zo_copy, zb_i hi (by omega), zb_i hk (by omega), if_neg (by omega), if_pos c10]; first | done | rfl) hI)
        · skip
          refine zG_s rfl rfl ?_
          -- leaf 9
          exact zG_ret rfl rfl (zRfin (by rw [zo_copy, zb_i hi (by omega), zb_i hk (by omega), if_pos (Or.inr c8)]; first | done | rfl) hI)
    · skip
      refine zG_s rfl rfl ?_
      -- leaf 10
      exact zG_ret rfl rfl (zRfin (by rw [zo_copy, zb_i hi (by omega), zb_no c4]) hI)
