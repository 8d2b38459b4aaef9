theorem zwlt (a b : Int32) : a.toInt64 < b.toInt64 ↔ a < b := by
  rw [Int64.lt_iff_toInt_lt, Int32.lt_iff_toInt_lt, Int32.toInt_toInt64, Int32.toInt_toInt64]
theorem zwc_lt (a b : Int32) : zc1 .lt (lg_cmp a.toInt64 b.toInt64) = decide (a < b) := by
  show decide (lg_cmp _ _ < 0) = _
  rw [decide_eq_decide, lg_cmp_lt, zwlt]
theorem zwc_gt (a b : Int32) : zc1 .gt (lg_cmp a.toInt64 b.toInt64) = decide (b < a) := by
  show decide (0 < lg_cmp _ _) = _
  rw [decide_eq_decide, lg_cmp_gt, zwlt]
theorem zf15_lt {x : Int32} (h : x < nI 1) : zin (x - nI 1) 15 = false := by
  cases e : zin (x - nI 1) 15 with
  | false => rfl
  | true =>
    obtain ⟨F, h1, h2, rfl⟩ := zf15.mp e
    have := (nI_ltI (by omega) (by decide)).mp h
    omega
theorem zf15_gt {x : Int32} (h : nI 15 < x) : zin (x - nI 1) 15 = false := by
  cases e : zin (x - nI 1) 15 with
  | false => rfl
  | true =>
    obtain ⟨F, h1, h2, rfl⟩ := zf15.mp e
    have := (nI_ltI (by decide) (by omega)).mp h
    omega
theorem zf15_in {x : Int32} (h1 : ¬ x < nI 1) (h2 : ¬ nI 15 < x) : zin (x - nI 1) 15 = true := by
  obtain ⟨F, a1, a2, a3⟩ := zfct (decide_eq_false h1) (decide_eq_true (Int32.not_lt.mp h2))
  exact zf15.mpr ⟨F, a2, a1, a3⟩
theorem b2n_or (a b : Bool) : b2n a ||| b2n b = b2n (a || b) := by cases a <;> cases b <;> rfl
theorem cr_faces {d r : Nat} {h : zH} {S : zRS} {s : zST} {a b c e : Int32} (hr : 2 ≤ r) (hI : zRI S s) (hW : zWT s) : zCallP (d + 5) 253 [.ref r, .int a, .int b, .int c, .int e] (zRh h r S) (zROut h r (zo_faces s a b c e)) := by
  refine zG_mP (t := tX10_faces) (ls0 := [.ref r, .int a, .int b, .int c, .int e, .null, .null, .null]) rfl rfl (zdnR (zdnI (zdnI (zdnI (zdnI zdn0))))) rfl ?_
  refine zG_s rfl rfl ?_
  refine zG_cS1 rfl rfl cr_isSheet ?_
  refine zN_ifb rfl (fun c1 => ?_) (fun c2 => ?_)
  · skip
    refine zG_s rfl rfl ?_
    -- leaf 1
    exact zG_ret rfl rfl (zRfin (by rw [zo_faces, zb_no c1]) hI)
  · skip
    obtain ⟨i, hi, rfl⟩ := zin_of c2 (by omega)
    refine zG_s rfl rfl ?_
    refine zG_s rfl rfl ?_
    refine zG_s rfl rfl ?_
    refine zG_cS1 rfl rfl cr_in ?_
    refine zN_ifb rfl (fun c3 => ?_) (fun c4 => ?_)
    · skip
      refine zG_s rfl rfl ?_
      -- leaf 2
      exact zG_ret rfl rfl (zRfin (by rw [zo_faces, zb_i hi (by omega), zb1_no (zbt1_no (by decide) c3)]) hI)
    · skip
      obtain ⟨n, hn, hn0, rfl⟩ := zbt1_of (by decide) c4
      refine zG_s rfl rfl ?_
      refine zG_cS1 rfl rfl cr_isSpace ?_
      refine zN_ifnb rfl (fun c5 => ?_) (fun c6 => ?_)
      · skip
        obtain ⟨j, hj, rfl⟩ := zin_of c5 (by omega)
        have hsh := hI.sh i hi
        obtain ⟨hst, hln⟩ := hW.2.2.2.1 i hi
        have hrs : zo_faces s (nI i) b (nI n) (nI j) = if (s.2.2.2.2.1 i).1 = 0 then (-11, s) else if (s.2.2.2.2.1 i).1 ≠ 2 then (-13, s) else if zInr (s.2.2.2.2.1 i).2.1 b (nI n) = false then (-12, s) else if zAl (fun k => zin ((s.2.2.2.2.1 i).2.2 (b.toNatClampNeg + k) - nI 1) 15) n then zStl s (zFcC (fun k => ((s.2.2.2.2.1 i).2.2 (b.toNatClampNeg + k)).toNatClampNeg) n) j else (-1, s) := by rw [zo_faces, zb_i hi (by omega), zb1_i hn hn0 (by decide), zb_i hj (by omega)]
        refine zG_s rfl rfl ?_
        refine zN_get rfl zRh_o rfl ?_
        refine zG_s rfl rfl ?_
        refine zR_ald (k := 18) (n := 4) rfl rfl (by omega) hsh.1 ?_
        refine zG_s rfl rfl ?_
        refine zN_seqk (k := 1) rfl (by omega) (by omega) (fun c7 => ?_) (fun c8 => ?_)
        · skip
          refine zG_s rfl rfl ?_
          refine zG_s rfl rfl ?_
          refine zG_s rfl rfl ?_
          refine zG_s rfl rfl ?_
          refine zG_cV1 rfl rfl zRh_o rfl rfl (cr_isOutside hi (hsh.2 (by omega)).1 hln) ?_
          first | refine zN_ifb rfl (fun c9 => ?_) (fun c10 => ?_) | refine zN_eq0 rfl (by omega) (fun c9 => ?_) (fun c10 => ?_)
          · skip
            have hin : zInr (s.2.2.2.2.1 i).2.1 b (nI n) = true := by simpa using c9
            obtain ⟨p, hp, ep⟩ := zInr_p hln hin (by omega)
            subst ep
            have hcp : (nI p).toNatClampNeg = p := nI_cl (by omega)
            rw [hcp, if_neg (show ¬ (s.2.2.2.2.1 i).1 = 0 by omega), if_neg (fun q => q c7), if_neg (by rw [hin]; decide)] at hrs
            have hcl := (hsh.2 (show 0 < (s.2.2.2.2.1 i).1 by omega)).2
            generalize hff : (s.2.2.2.2.1 i).2.2 = f at *
            refine zG_s rfl rfl ?_
            refine zN_st5 rfl (fun _ _ _ => rfl) rfl ?_
            refine zG_s rfl rfl ?_
            refine zN_st6 rfl (fun _ _ _ => rfl) rfl ?_
            have main73 : ∀ k, k ≤ n → zGoP (d + 4) tX10_faces 73 [.ref r, .int (nI i), .int (nI p), .int (nI n), .int (nI j), .int (nI (b2n (zAl (fun k => zin (f (p + k) - nI 1) 15) k))), .int (nI k), .null] [] (zRh h r S) (zROut h r (zo_faces s (nI i) (nI p) (nI n) (nI j))) := by
              refine zdown (n) ?_ (fun k hp73 ih73 => ?_)
              · skip
                refine zG_s rfl rfl ?_
                refine zG_s rfl rfl ?_
                refine zN_ige rfl (by omega) (by omega) (fun c11 => ?_) (fun c12 => absurd c12 (by omega))
                refine zG_s rfl rfl ?_
                first | refine zN_ifnb rfl (fun c13 => ?_) (fun c14 => ?_) | refine zN_ne0 rfl (by omega) (fun c13 => ?_) (fun c14 => ?_)
                · skip
                  have hF9 := zfF c13
                  refine zG_s rfl rfl ?_
                  refine zN_st6 rfl (fun _ _ _ => rfl) rfl ?_
                  have main147 : ∀ q, q ≤ 256 → ∀ (x7 : Value) (S1 : zRS), zRF (fun k2 _ => k2 = 16) S S1 → (∀ t, t < q → S1.2.1 16 t = nI (b2n (zFc1 (fun k => (f (p + k)).toNatClampNeg) n t))) → zGoP (d + 4) tX10_faces 147 [.ref r, .int (nI i), .int (nI p), .int (nI n), .int (nI j), .int (nI 1), .int (nI q), x7] [] (zRh h r S1) (zROut h r (zo_faces s (nI i) (nI p) (nI n) (nI j))) := by
                    refine zdown (256) ?_ (fun q hp147 ih147 => ?_)
                    · skip
                      intro x7 S1 hF hA
                      have hI1 := hI.fr hW hF (fun k2 j g => by unfold zScr; omega)
                      have hT : zRtl S1 (zFc1 (fun k => (f (p + k)).toNatClampNeg) n) (zFcC (fun k => (f (p + k)).toNatClampNeg) n) := fun q hq => ⟨hA q hq, rfl, fun e => by unfold zFc1; rw [decide_eq_false (show ¬ 1 ≤ q by omega)]; rfl⟩
                      refine zG_s rfl rfl ?_
                      refine zG_s rfl rfl ?_
                      refine zN_ige rfl (by omega) (by omega) (fun c15 => ?_) (fun c16 => absurd c16 (by omega))
                      refine zG_s rfl rfl ?_
                      refine zG_s rfl rfl ?_
                      refine zG_cQV rfl rfl zRh_o rfl rfl (cr_settle hr hj hI1 hW hT) (fun h2 hB => ?_)
                      obtain ⟨S2, rfl, hI2⟩ := hB
                      -- leaf 3
                      exact zG_ret rfl rfl (zRfin (by rw [hrs, if_pos c13]) hI2)
                    · skip
                      intro x7 S1 hF hA
                      refine zG_s rfl rfl ?_
                      refine zG_s rfl rfl ?_
                      refine zN_ige rfl (by omega) (by omega) (fun c17 => absurd c17 (by omega)) (fun c18 => ?_)
                      refine zG_s rfl rfl ?_
                      refine zN_get rfl zRh_o rfl ?_
                      refine zG_s rfl rfl ?_
                      refine zG_s rfl rfl ?_
                      refine zR_bst (k := 16) (n := 256) (w := false) rfl rfl (by omega) hr ?_
                      refine zG_s rfl rfl ?_
                      refine zN_st7 rfl (fun _ _ _ => rfl) rfl ?_
                      have main166 : ∀ k, k ≤ n → ∀ S2 : zRS, zRF (fun k2 _ => k2 = 16) S S2 → (∀ t, t < q → S2.2.1 16 t = nI (b2n (zFc1 (fun k => (f (p + k)).toNatClampNeg) n t))) → S2.2.1 16 q = nI (b2n (zFc1 (fun k => (f (p + k)).toNatClampNeg) k q)) → zGoP (d + 4) tX10_faces 166 [.ref r, .int (nI i), .int (nI p), .int (nI n), .int (nI j), .int (nI 1), .int (nI q), .int (nI k)] [] (zRh h r S2) (zROut h r (zo_faces s (nI i) (nI p) (nI n) (nI j))) := by
                        refine zdown (n) ?_ (fun k hp166 ih166 => ?_)
                        · skip
                          intro S2 hF hA hB
                          refine zG_s rfl rfl ?_
                          refine zG_s rfl rfl ?_
                          refine zN_ige rfl (by omega) (by omega) (fun c19 => ?_) (fun c20 => absurd c20 (by omega))
                          refine zN_inc6 rfl rfl ?_
                          refine zG_s rfl rfl ?_
                          -- leaf 4
                          exact ih147 _ S2 hF (fun t ht => by
                            by_cases g : t = q
                            · rw [g]; exact hB
                            · exact hA t (by omega))
                        · skip
                          intro S2 hF hA hB
                          refine zG_s rfl rfl ?_
                          refine zG_s rfl rfl ?_
                          refine zN_ige rfl (by omega) (by omega) (fun c21 => absurd c21 (by omega)) (fun c22 => ?_)
                          refine zG_s rfl rfl ?_
                          refine zN_get rfl zRh_o rfl ?_
                          refine zG_s rfl rfl ?_
                          refine zG_s rfl rfl ?_
                          refine zR_bld (k := 16) (n := 256) rfl rfl (by omega) hB ?_
                          refine zG_s rfl rfl ?_
                          have jn213 : ∀ w : Bool, w = (decide (1 ≤ q) && decide (zan q ((f (p + k)).toNatClampNeg) = 0)) → zGoP (d + 4) tX10_faces 213 [.ref r, .int (nI i), .int (nI p), .int (nI n), .int (nI j), .int (nI 1), .int (nI q), .int (nI k)] [.int (nI (b2n w)), .int (nI (b2n (zFc1 (fun k => (f (p + k)).toNatClampNeg) k q))), .int (nI q), .ref (r + 16)] (zRh h r S2) (zROut h r (zo_faces s (nI i) (nI p) (nI n) (nI j))) := by
                            intro w ew
                            have e1 : (zFc1 (fun k => (f (p + k)).toNatClampNeg) k q || w) = zFc1 (fun k => (f (p + k)).toNatClampNeg) (k + 1) q := by rw [zFc1_s, ew]
                            refine zN_or rfl ?_
                            rw [b2n_or, e1]
                            refine zR_bst (k := 16) (n := 256) rfl rfl (by omega) hr ?_
                            refine zN_inc7 rfl rfl ?_
                            refine zG_s rfl rfl ?_
                            -- leaf 5
                            exact ih166 _ (hF.a rfl) (fun t ht => by rw [zRa_ne (Or.inr (by omega))]; exact hA t ht) zRa_at
                          refine zN_le0 rfl (by omega) (fun c23 => ?_) (fun c24 => ?_)
                          · skip
                            refine zG_s rfl rfl ?_
                            -- leaf 6
                            exact jn213 false (by rw [decide_eq_false (show ¬ 1 ≤ q by omega)]; rfl)
                          · skip
                            refine zG_s rfl rfl ?_
                            refine zG_s rfl rfl ?_
                            refine zN_get rfl zRh_o rfl ?_
                            refine zG_s rfl rfl ?_
                            refine zG_s rfl rfl ?_
                            refine zN_mul rfl ?_
                            refine zG_s rfl rfl ?_
                            refine zN_add rfl ?_
                            refine zG_s rfl rfl ?_
                            refine zN_add rfl ?_
                            refine zR_lld (k := 20) (n := 160) (w := (f (p + k)).toInt64) rfl rfl (by omega) ((hF.2.2 20 _ (by omega)).trans (by rw [Nat.add_assoc]; exact hcl (p + k) (by omega))) ?_
                            refine zG_s (st' := .int (nI ((f (p + k)).toNatClampNeg)) :: .int (nI q) :: _) rfl (by rw [← (hF9 k hp166).1, show (.int (f (p + k)) : Value) = .int ((f (p + k)).toInt64.toInt32) from by rw [zti]]; rfl) ?_
                            refine zG_s rfl rfl ?_
                            refine zN_not rfl ?_
                            refine zN_andn rfl ?_
                            refine zN_ne0 rfl (by have := zan_lt (a := q) ((f (p + k)).toNatClampNeg) hp147; omega) (fun c25 => ?_) (fun c26 => ?_)
                            · skip
                              refine zG_s rfl rfl ?_
                              -- leaf 7
                              exact jn213 false (by rw [decide_eq_false (show ¬ zan q ((f (p + k)).toNatClampNeg) = 0 by omega), Bool.and_false])
                            · skip
                              refine zG_s rfl rfl ?_
                              refine zG_s rfl rfl ?_
                              -- leaf 8
                              exact jn213 true (by rw [decide_eq_true (show 1 ≤ q by omega), decide_eq_true (show zan q ((f (p + k)).toNatClampNeg) = 0 by omega)]; rfl)
                      refine main166 0 (by omega) _ (hF.a rfl) (fun t ht => ?_) (zRa_at.trans ?_)
                      · rw [zRa_ne (Or.inr (by omega))]; exact hA t ht
                      · rw [show zFc1 (fun k => (f (p + k)).toNatClampNeg) 0 q = false from by unfold zFc1; exact Bool.and_false _]
                  rw [c13]
                  exact main147 0 (by omega) _ _ zRF.rf (fun t ht => absurd ht (Nat.not_lt_zero t))
                · skip
                  refine zG_s rfl rfl ?_
                  -- leaf 9
                  exact zG_ret rfl rfl (zRfin (by rw [hrs, if_neg (by rw [c14]; decide)]) hI)
              · skip
                refine zG_s rfl rfl ?_
                refine zG_s rfl rfl ?_
                refine zN_ige rfl (by omega) (by omega) (fun c27 => absurd c27 (by omega)) (fun c28 => ?_)
                refine zG_s rfl rfl ?_
                have jn129 : ∀ w : Bool, w = zAl (fun k => zin (f (p + k) - nI 1) 15) (k + 1) → zGoP (d + 4) tX10_faces 129 [.ref r, .int (nI i), .int (nI p), .int (nI n), .int (nI j), .int (nI (b2n (zAl (fun k => zin (f (p + k) - nI 1) 15) k))), .int (nI k), .null] [.int (nI (b2n w))] (zRh h r S) (zROut h r (zo_faces s (nI i) (nI p) (nI n) (nI j))) := by
                  intro w ew
                  subst ew
                  refine zN_st5 rfl (fun _ _ _ => rfl) rfl ?_
                  refine zN_inc6 rfl rfl ?_
                  refine zG_s rfl rfl ?_
                  -- leaf 10
                  exact ih73
                first | refine zN_ifb rfl (fun c29 => ?_) (fun c30 => ?_) | refine zN_eq0 rfl (by omega) (fun c29 => ?_) (fun c30 => ?_)
                · skip
                  refine zG_s rfl rfl ?_
                  -- leaf 11
                  exact jn129 false (by rw [show zAl (fun k => zin (f (p + k) - nI 1) 15) (k + 1) = (zAl (fun k => zin (f (p + k) - nI 1) 15) k && zin (f (p + k) - nI 1) 15) from rfl, c29]; rfl)
                · skip
                  refine zG_s rfl rfl ?_
                  refine zN_get rfl zRh_o rfl ?_
                  refine zG_s rfl rfl ?_
                  refine zG_s rfl rfl ?_
                  refine zN_mul rfl ?_
                  refine zG_s rfl rfl ?_
                  refine zN_add rfl ?_
                  refine zG_s rfl rfl ?_
                  refine zN_add rfl ?_
                  refine zR_lld (k := 20) (n := 160) (w := (f (p + k)).toInt64) rfl rfl (by omega) (by rw [Nat.add_assoc]; exact hcl (p + k) (by omega)) ?_
                  refine zG_s (st' := .long (nL 1) :: _) rfl rfl ?_
                  refine zG_s (st' := [.int (lg_cmp (f (p + k)).toInt64 (nI 1).toInt64)]) rfl rfl ?_
                  refine zN_if rfl (fun c31 => ?_) (fun c32 => ?_)
                  · skip
                    refine zG_s rfl rfl ?_
                    -- leaf 12
                    rw [zwc_lt] at c31
                    exact jn129 false (by rw [show zAl (fun k => zin (f (p + k) - nI 1) 15) (k + 1) = (zAl (fun k => zin (f (p + k) - nI 1) 15) k && zin (f (p + k) - nI 1) 15) from rfl, c30, zf15_lt (of_decide_eq_true c31)]; rfl)
                  · skip
                    refine zG_s rfl rfl ?_
                    refine zN_get rfl zRh_o rfl ?_
                    refine zG_s rfl rfl ?_
                    refine zG_s rfl rfl ?_
                    refine zN_mul rfl ?_
                    refine zG_s rfl rfl ?_
                    refine zN_add rfl ?_
                    refine zG_s rfl rfl ?_
                    refine zN_add rfl ?_
                    refine zR_lld (k := 20) (n := 160) (w := (f (p + k)).toInt64) rfl rfl (by omega) (by rw [Nat.add_assoc]; exact hcl (p + k) (by omega)) ?_
                    refine zG_s rfl rfl ?_
                    refine zG_s (st' := [.int (lg_cmp (f (p + k)).toInt64 (nI 15).toInt64)]) rfl rfl ?_
                    refine zN_if rfl (fun c33 => ?_) (fun c34 => ?_)
                    · skip
                      refine zG_s rfl rfl ?_
                      -- leaf 13
                      rw [zwc_gt] at c33
                      exact jn129 false (by rw [show zAl (fun k => zin (f (p + k) - nI 1) 15) (k + 1) = (zAl (fun k => zin (f (p + k) - nI 1) 15) k && zin (f (p + k) - nI 1) 15) from rfl, c30, zf15_gt (of_decide_eq_true c33)]; rfl)
                    · skip
                      refine zG_s rfl rfl ?_
                      refine zG_s rfl rfl ?_
                      -- leaf 14
                      rw [zwc_lt] at c32
                      rw [zwc_gt] at c34
                      exact jn129 true (by rw [show zAl (fun k => zin (f (p + k) - nI 1) 15) (k + 1) = (zAl (fun k => zin (f (p + k) - nI 1) 15) k && zin (f (p + k) - nI 1) 15) from rfl, c30, zf15_in (of_decide_eq_false c32) (of_decide_eq_false c34)]; rfl)
            exact main73 0 (by omega)
          · skip
            refine zG_s rfl rfl ?_
            -- leaf 15
            exact zG_ret rfl rfl (zRfin (by rw [hrs, if_neg (by omega), if_neg (fun q => q c7), if_pos (by simpa using c10)]) hI)
        · skip
          refine zG_s rfl rfl ?_
          refine zN_get rfl zRh_o rfl ?_
          refine zG_s rfl rfl ?_
          refine zR_ald (k := 18) (n := 4) rfl rfl (by omega) hsh.1 ?_
          refine zN_gebv rfl (by omega) (fun c35 => ?_) (fun c36 => ?_)
          · skip
            refine zG_s rfl rfl ?_
            -- leaf 16
            exact zG_ret rfl rfl (zRfin (by rw [hrs, if_neg c35, if_pos c8]) hI)
          · skip
            refine zG_s rfl rfl ?_
            refine zG_s rfl rfl ?_
            -- leaf 17
            exact zG_ret rfl rfl (zRfin (by rw [hrs, if_pos c36]) hI)
      · skip
        refine zG_s rfl rfl ?_
        -- leaf 18
        exact zG_ret rfl rfl (zRfin (by rw [zo_faces, zb_i hi (by omega), zb1_i hn hn0 (by decide), zb_no c6]) hI)
