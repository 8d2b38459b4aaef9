theorem ct_walk {d : Nat} {h0 h : zH} {g n k : Nat} {ec : Int32} {lo hi : Nat → Nat} {rw en im : Nat → Int32} (hg : 2 ≤ g) (hA : zGA h0 g n lo hi ec rw en im h) (hO : zOk n lo hi) (hR : zRfl n lo hi) (hk : k < 6) : zCallP (d + 7) 35 [.ref g, .int (nI k)] h (zRV (.int (nI (zW n lo hi k (1 <<< n)).2.2.2)) (fun h1 => ∃ rw1 en1 : Nat → Int32, zGA h0 g n lo hi (nI (zW n lo hi k (1 <<< n)).2.2.1) rw1 en1 im h1 ∧ ∀ i, i < (zW n lo hi k (1 <<< n)).2.2.1 → en1 i = nI ((zW n lo hi k (1 <<< n)).2.1 i))) := by
  have hn := hO.1
  have b0 := zpow_le hn
  generalize hQ : zRV (.int (nI (zW n lo hi k (1 <<< n)).2.2.2)) (fun h1 => ∃ rw1 en1 : Nat → Int32, zGA h0 g n lo hi (nI (zW n lo hi k (1 <<< n)).2.2.1) rw1 en1 im h1 ∧ ∀ i, i < (zW n lo hi k (1 <<< n)).2.2.1 → en1 i = nI ((zW n lo hi k (1 <<< n)).2.1 i)) = Q
  refine zG_mP (t := tX3_walk) (ls0 := [.ref g, .int (nI k), .null, .null, .null, .null]) rfl rfl (zdnR (zdnI zdn0)) rfl ?_
  refine zG_s rfl rfl ?_
  refine zN_st2 rfl (fun _ _ _ => rfl) rfl ?_
  have main2 : ∀ s, s ≤ 1 <<< n - 1 → ∀ (h1 : zH) (rw : Nat → Int32), zGA h0 g n lo hi ec rw en im h1 → (∀ j, j < s → rw j = nI 0) → zGoP (d + 6) tX3_walk 2 [.ref g, .int (nI k), .int (nI s), .null, .null, .null] [] h1 Q := by
    refine zdown (1 <<< n - 1) ?_ (fun s hp2 ih2 => ?_)
    · skip
      intro h1 rw hA hrw
      obtain ⟨fl, fh, fb, fa, ft, sh, hG⟩ := hA.g
      have hA2 := hA.p_rw (q := upd rw (1 <<< n - 1) (nI 1))
      obtain ⟨fl2, fh2, fb2, fa2, ft2, sh2, hG2⟩ := hA2.g
      have hA3 := hA2.p_ec (e2 := nI 0)
      obtain ⟨fl3, fh3, fb3, fa3, ft3, sh3, hG3⟩ := hA3.g
      refine zG_s rfl rfl ?_
      refine zG_s rfl rfl ?_
      refine zG_cV1 rfl rfl hG.o rfl rfl (ct_gall hG.o (by omega)) ?_
      refine zN_ige rfl (by omega) (by omega) (fun c1 => ?_) (fun c2 => absurd c2 (by omega))
      refine zG_s rfl rfl ?_
      refine zN_get rfl hG.o rfl ?_
      refine zG_s rfl rfl ?_
      refine zG_cV1 rfl rfl hG.o rfl rfl (ct_gall hG.o (by omega)) ?_
      refine zG_s rfl rfl ?_
      refine zN_ast rfl hG.rw (by omega) (by omega) (zble_of hg) ?_
      refine zG_s rfl rfl ?_
      refine zG_s rfl rfl ?_
      refine zN_put (fs' := [.int (nI n), .ref (g + 1), .ref (g + 2), .ref (g + 3), .ref (g + 4), .ref (g + 5), .ref (g + 6), .ref (g + 7), .ref (g + 8), .int (nI 0), .ref (g + 9)]) rfl hG2.o rfl rfl rfl ?_
      refine zG_s rfl rfl ?_
      refine zN_st2 rfl (fun _ _ _ => rfl) rfl ?_
      refine zG_s rfl rfl ?_
      refine zG_cV1 rfl rfl hG3.o rfl rfl (ct_gall hG3.o (by omega)) ?_
      rw [show nI (1 <<< n - 1) = zbv (1 <<< n - 0) by unfold zbv; rw [if_neg (by omega)]; rfl]
      refine zN_st3 rfl (fun _ _ _ => rfl) rfl ?_
      have main45 : ∀ j, j ≤ 1 <<< n → ∀ (h1 : zH) (rw en : Nat → Int32) (z4 z5 : Value), zGA h0 g n lo hi (nI (zW n lo hi k j).2.2.1) rw en im h1 → (∀ s, s < 1 <<< n → rw s = nI ((zW n lo hi k j).1 s)) → (∀ i, i < (zW n lo hi k j).2.2.1 → en i = nI ((zW n lo hi k j).2.1 i)) → zok1 [.ref g, .int (nI k), .int (nI (zW n lo hi k j).2.2.2), .int (zbv (1 <<< n - j)), z4, z5] 5 = true → zGoP (d + 6) tX3_walk 45 [.ref g, .int (nI k), .int (nI (zW n lo hi k j).2.2.2), .int (zbv (1 <<< n - j)), z4, z5] [] h1 Q := by
        refine zdown (1 <<< n) ?_ (fun j hp45 ih45 => ?_)
        · skip
          intro h1 rw en z4 z5 hA hrw hen e5
          refine zG_s rfl rfl ?_
          refine zN_ifbv rfl (by omega) (fun c3 => ?_) (fun c4 => absurd c4 (by omega))
          try rw [zbv_s]
          refine zG_s rfl rfl ?_
          -- leaf 1
          rw [← hQ]
          exact zG_ret rfl rfl ⟨rfl, _, _, hA, hen⟩
        · skip
          intro h1 rw en z4 z5 hA hrw hen e5
          obtain ⟨c, hc⟩ : ∃ c, 1 <<< n - j = c + 1 := ⟨1 <<< n - j - 1, by omega⟩
          have hcj : c = 1 <<< n - 1 - j := by omega
          have hcj2 : c = 1 <<< n - (j + 1) := by omega
          have hB := zW_bd (k := k) (lo := lo) (hi := hi) hn j hp45
          have hW : zW n lo hi k (j + 1) = if zWx (zWg n lo hi k (zW n lo hi k j).1 c) c (zW n lo hi k j).1 n c ≠ 0 ∧ zWg n lo hi k (zW n lo hi k j).1 c = 0 then (zWx (zWg n lo hi k (zW n lo hi k j).1 c) c (zW n lo hi k j).1 n, zupd (zW n lo hi k j).2.1 (zW n lo hi k j).2.2.1 c, (zW n lo hi k j).2.2.1 + 1, (zW n lo hi k j).2.2.2 + zWx (zWg n lo hi k (zW n lo hi k j).1 c) c (zW n lo hi k j).1 n c) else (zWx (zWg n lo hi k (zW n lo hi k j).1 c) c (zW n lo hi k j).1 n, (zW n lo hi k j).2) := by rw [hcj]; rfl
          have he := zW_ec n lo hi k j
          rw [← hcj2] at ih45
          rw [hc] at e5 ⊢
          generalize zW n lo hi k j = q at *
          obtain ⟨f, E, m, S⟩ := q
          simp only at *
          have hself : ∀ x, zWx (zWg n lo hi k f c) c f x c = f c := fun x => zWx_self zWg_in
          have bc := zBd_lt hB (s := c) (by omega) (by omega)
          have bg9 := zbits_lt8 (fun x => c.testBit x && zMay n lo hi k x c) hn
          change zGoers n lo hi k c < 256 at bg9
          have bg : zWg n lo hi k f c < 256 := by unfold zWg; split <;> omega
          obtain ⟨fl, fh, fb, fa, ft, sh, hG⟩ := hA.g
          refine zG_s rfl rfl ?_
          refine zN_ifbv rfl (by omega) (fun c5 => absurd c5 (by omega)) (fun c6 => ?_)
          try rw [zbv_s]
          refine zG_s rfl rfl ?_
          refine zN_get rfl hG.o rfl ?_
          refine zG_s rfl rfl ?_
          refine zN_ald rfl hG.rw (by omega) (by omega) (hrw c (by omega)) ?_
          have jn68 : ∀ (h1 : zH) (G : Nat), zGA h0 g n lo hi (nI m) rw en im h1 → G = zWg n lo hi k f c → zGoP (d + 6) tX3_walk 68 [.ref g, .int (nI k), .int (nI S), .int (nI c), z4, z5] [.int (nI G)] h1 Q := by
            intro h1 G hA eG
            clear hG fl fh fb fa ft sh
            rw [← eG] at bg hW hself
            refine zN_st4 rfl (fun _ _ _ => rfl) rfl ?_
            refine zG_s rfl rfl ?_
            refine zN_st5 rfl (fun _ _ _ => rfl) rfl ?_
            have main73 : ∀ x, x ≤ n → ∀ (h1 : zH) (rw : Nat → Int32), zGA h0 g n lo hi (nI m) rw en im h1 → (∀ s, s < 1 <<< n → rw s = nI (zWx G c f x s)) → zGoP (d + 6) tX3_walk 73 [.ref g, .int (nI k), .int (nI S), .int (nI c), .int (nI G), .int (nI x)] [] h1 Q := by
              refine zdown (n) ?_ (fun x hp73 ih73 => ?_)
              · skip
                intro h1 rw hA hrw
                obtain ⟨fl, fh, fb, fa, ft, sh, hG⟩ := hA.g
                refine zG_s rfl rfl ?_
                refine zG_s rfl rfl ?_
                refine zN_get rfl hG.o rfl ?_
                refine zN_ige rfl (by omega) (by omega) (fun c7 => ?_) (fun c8 => absurd c8 (by omega))
                refine zG_s rfl rfl ?_
                refine zN_get rfl hG.o rfl ?_
                refine zG_s rfl rfl ?_
                refine zN_ald rfl hG.rw (by omega) (by omega) (hrw _ (by omega)) ?_
                rw [hself]
                refine zN_eq0 rfl (by omega) (fun c9 => ?_) (fun c10 => ?_)
                · skip
                  refine zG_s rfl rfl ?_
                  rw [show nI c + -1 = zbv c from zbv_dec]
                  refine zG_s rfl rfl ?_
                  -- leaf 2
                  rw [hW, if_neg (by rw [hself]; omega)] at ih45
                  exact ih45 _ _ _ _ _ hA hrw hen rfl
                · skip
                  refine zG_s rfl rfl ?_
                  first | refine zN_ifnb rfl (fun c11 => ?_) (fun c12 => ?_) | refine zN_ne0 rfl (by omega) (fun c11 => ?_) (fun c12 => ?_)
                  · skip
                    refine zG_s rfl rfl ?_
                    rw [show nI c + -1 = zbv c from zbv_dec]
                    refine zG_s rfl rfl ?_
                    -- leaf 3
                    rw [hW, if_neg (by omega)] at ih45
                    exact ih45 _ _ _ _ _ hA hrw hen rfl
                  · skip
                    refine zG_s rfl rfl ?_
                    refine zN_get rfl hG.o rfl ?_
                    refine zG_s rfl rfl ?_
                    refine zN_get rfl hG.o rfl ?_
                    refine zG_s rfl rfl ?_
                    have hA2 := hA.p_en (q := upd en m (nI c))
                    obtain ⟨fl2, fh2, fb2, fa2, ft2, sh2, hG2⟩ := hA2.g
                    have hA3 := hA2.p_ec (e2 := nI (m + 1))
                    obtain ⟨fl3, fh3, fb3, fa3, ft3, sh3, hG3⟩ := hA3.g
                    refine zN_ast rfl hG.en (by omega) (by omega) (zble_of hg) ?_
                    refine zG_s rfl rfl ?_
                    refine zG_s rfl rfl ?_
                    refine zN_get rfl hG2.o rfl ?_
                    refine zG_s rfl rfl ?_
                    refine zN_add (y := 1) rfl ?_
                    refine zN_put (fs' := [.int (nI n), .ref (g + 1), .ref (g + 2), .ref (g + 3), .ref (g + 4), .ref (g + 5), .ref (g + 6), .ref (g + 7), .ref (g + 8), .int (nI (m + 1)), .ref (g + 9)]) rfl hG2.o rfl rfl rfl ?_
                    refine zG_s rfl rfl ?_
                    refine zG_s rfl rfl ?_
                    refine zN_get rfl hG3.o rfl ?_
                    refine zG_s rfl rfl ?_
                    refine zN_ald rfl hG3.rw (by omega) (by omega) (hrw _ (by omega)) ?_
                    refine zN_add rfl ?_
                    refine zN_st2 rfl (fun _ _ _ => rfl) rfl ?_
                    refine zG_s rfl rfl ?_
                    rw [show nI c + -1 = zbv c from zbv_dec]
                    refine zG_s rfl rfl ?_
                    -- leaf 4
                    rw [hW, if_pos ⟨by rw [hself]; omega, c12⟩] at ih45
                    refine ih45 _ _ _ _ _ hA3 hrw (fun i hi => ?_) rfl
                    by_cases e : i = m
                    · subst e
                      simp only [zupd_at]
                      exact upd_at _ _ _
                    · simp only [zupd_ne _ _ e, upd_ne _ _ e]
                      exact hen i (by simp only at hi; omega)
              · skip
                intro h1 rw hA hrw
                obtain ⟨fl, fh, fb, fa, ft, sh, hG⟩ := hA.g
                have lz := zan_le c (1 <<< x)
                refine zG_s rfl rfl ?_
                refine zG_s rfl rfl ?_
                refine zN_get rfl hG.o rfl ?_
                refine zN_ige rfl (by omega) (by omega) (fun c13 => absurd c13 (by omega)) (fun c14 => ?_)
                refine zG_s rfl rfl ?_
                refine zG_s rfl rfl ?_
                refine zG_cS1 rfl rfl (ct_has _ (by omega) (by omega)) ?_
                first | refine zN_ifb rfl (fun c15 => ?_) (fun c16 => ?_) | refine zN_eq0 rfl (by omega) (fun c15 => ?_) (fun c16 => ?_)
                · skip
                  refine zN_inc5 rfl rfl ?_
                  refine zG_s rfl rfl ?_
                  -- leaf 5
                  have e : zWx G c f (x + 1) = zWx G c f x := if_neg (by rw [c15]; decide)
                  rw [e] at ih73
                  exact ih73 h1 rw hA hrw
                · skip
                  refine zG_s rfl rfl ?_
                  refine zN_get rfl hG.o rfl ?_
                  refine zG_s rfl rfl ?_
                  refine zG_s rfl rfl ?_
                  refine zG_s rfl rfl ?_
                  refine zN_shl rfl (by omega) ?_
                  refine zG_s rfl rfl ?_
                  refine zN_not rfl ?_
                  refine zN_andn rfl ?_
                  refine zG_s rfl rfl ?_
                  refine zN_ald rfl hG.rw (by omega) (by omega) (hrw _ (by omega)) ?_
                  refine zG_s rfl rfl ?_
                  refine zN_get rfl hG.o rfl ?_
                  refine zG_s rfl rfl ?_
                  refine zN_ald rfl hG.rw (by omega) (by omega) (hrw _ (by omega)) ?_
                  refine zN_add rfl ?_
                  refine zN_ast rfl hG.rw (by omega) (by omega) (zble_of hg) ?_
                  refine zN_inc5 rfl rfl ?_
                  refine zG_s rfl rfl ?_
                  -- leaf 6
                  have e : zWx G c f (x + 1) = zupd (zWx G c f x) (zan c (1 <<< x)) (zWx G c f x (zan c (1 <<< x)) + zWx G c f x c) := if_pos c16
                  rw [e] at ih73
                  refine ih73 _ _ hA.p_rw (fun s hs => ?_)
                  by_cases es : s = zan c (1 <<< x)
                  · rw [es, zupd_at]; exact upd_at _ _ _
                  · rw [zupd_ne _ _ es, upd_ne _ _ es]; exact hrw s hs
            exact main73 0 (by omega) h1 rw hA hrw
          first | refine zN_ifnb rfl (fun c17 => ?_) (fun c18 => ?_) | refine zN_ne0 rfl (by omega) (fun c17 => ?_) (fun c18 => ?_)
          · skip
            refine zG_s rfl rfl ?_
            refine zG_s rfl rfl ?_
            refine zG_s rfl rfl ?_
            refine zG_cQV rfl rfl hG.o rfl rfl (ct_goers (x := 0) hg hA hO hR (by omega) (by omega)) (fun h2 hA2 => ?_)
            -- leaf 7
            exact jn68 h2 _ hA2 (if_neg (by omega)).symm
          · skip
            refine zG_s rfl rfl ?_
            refine zG_s rfl rfl ?_
            -- leaf 8
            exact jn68 h1 0 hA (if_pos c18).symm
      refine main45 0 (by omega) _ _ _ _ _ hA3 (fun s hs => ?_) (fun i hi => absurd hi (Nat.not_lt_zero i)) rfl
      show _ = nI (if s = 1 <<< n - 1 then 1 else 0)
      by_cases e : s = 1 <<< n - 1
      · rw [if_pos e, e]; exact upd_at _ _ _
      · rw [if_neg e, upd_ne _ _ e]; exact hrw s (by omega)
    · skip
      intro h1 rw hA hrw
      obtain ⟨fl, fh, fb, fa, ft, sh, hG⟩ := hA.g
      refine zG_s rfl rfl ?_
      refine zG_s rfl rfl ?_
      refine zG_cV1 rfl rfl hG.o rfl rfl (ct_gall hG.o (by omega)) ?_
      refine zN_ige rfl (by omega) (by omega) (fun c19 => absurd c19 (by omega)) (fun c20 => ?_)
      refine zG_s rfl rfl ?_
      refine zN_get rfl hG.o rfl ?_
      refine zG_s rfl rfl ?_
      refine zG_s rfl rfl ?_
      refine zN_ast rfl hG.rw (by omega) (by omega) (zble_of hg) ?_
      refine zN_inc2 rfl rfl ?_
      refine zG_s rfl rfl ?_
      -- leaf 9
      exact ih2 _ _ hA.p_rw (fun j hj => by
        by_cases e : j = s
        · subst e; exact upd_at _ _ _
        · rw [upd_ne _ _ e]; exact hrw j (by omega))
  exact main2 0 (by omega) h rw hA (fun j hj => absurd hj (by omega))
theorem ct_retraction {d : Nat} {h0 h : zH} {g n : Nat} {ec : Int32} {lo hi : Nat → Nat} {rw en im : Nat → Int32} (hg : 2 ≤ g) (hA : zGA h0 g n lo hi ec rw en im h) (hO : zOk n lo hi) : zCallP (d + 4) 38 [.ref g] h (zRV (.int (nI (zMap (zRtr n lo hi 8).2 n))) (fun h1 => ∃ im1, zGA h0 g n lo hi ec rw en im1 h1)) := by
  have hn := hO.1
  have b0 := zpow_le hn
  generalize hQ : zRV (.int (nI (zMap (zRtr n lo hi 8).2 n))) (fun h1 => ∃ im1, zGA h0 g n lo hi ec rw en im1 h1) = Q
  have hst : ∀ i, i ≤ 8 → ¬ zLB n lo hi (zRtr n lo hi i).1 < n → zRtr n lo hi 8 = zRtr n lo hi i := by
    intro i hi8 h1
    have : ∀ k, zRtr n lo hi (i + k) = zRtr n lo hi i := by
      intro k
      induction k with
      | zero => rfl
      | succ k ih => rw [← Nat.add_assoc, zRtr, ih, if_neg h1]
    have e := this (8 - i)
    rw [show i + (8 - i) = 8 by omega] at e
    exact e
  refine zG_mP (t := tX3_retraction) (ls0 := [.ref g, .null, .null, .null, .null, .null]) rfl rfl (zdnR zdn0) rfl ?_
  refine zG_s rfl rfl ?_
  refine zN_st1 rfl (fun _ _ _ => rfl) rfl ?_
  have main2 : ∀ x, x ≤ n → ∀ (h1 : zH) (im : Nat → Int32), zGA h0 g n lo hi ec rw en im h1 → (∀ j, j < x → im j = nI j) → zGoP (d + 3) tX3_retraction 2 [.ref g, .int (nI x), .null, .null, .null, .null] [] h1 Q := by
    refine zdown (n) ?_ (fun x hp2 ih2 => ?_)
    · skip
      intro h1 im hA him
      obtain ⟨fl, fh, fb, fa, ft, sh, hG⟩ := hA.g
      refine zG_s rfl rfl ?_
      refine zG_s rfl rfl ?_
      refine zN_get rfl hG.o rfl ?_
      refine zN_ige rfl (by omega) (by omega) (fun c1 => ?_) (fun c2 => absurd c2 (by omega))
      refine zG_s rfl rfl ?_
      refine zG_cV1 rfl rfl hG.o rfl rfl (ct_gall hG.o (by omega)) ?_
      refine zN_st1 rfl (fun _ _ _ => rfl) rfl ?_
      have jn119 : ∀ (h1 : zH) (im : Nat → Int32) (w1 w2 : Int32) (z3 z4 z5 : Value), zGA h0 g n lo hi ec rw en im h1 → (∀ j, j < n → im j = nI ((zRtr n lo hi 8).2 j)) → zGoP (d + 3) tX3_retraction 119 [.ref g, .int w1, .int w2, z3, z4, z5] [] h1 Q := by
        intro h1 im w1 w2 z3 z4 z5 hA him
        clear hG fl fh fb fa ft sh
        generalize hT : (zRtr n lo hi 8).2 = T at *
        obtain ⟨fl, fh, fb, fa, ft, sh, hG⟩ := hA.g
        refine zG_s rfl rfl ?_
        refine zN_st2 rfl (fun _ _ _ => rfl) rfl ?_
        refine zG_s rfl rfl ?_
        refine zN_st3 rfl (fun _ _ _ => rfl) rfl ?_
        have main123 : ∀ x, x ≤ n → zGoP (d + 3) tX3_retraction 123 [.ref g, .int w1, .int (nI (zor (fun x => T x <<< (3 * x)) x)), .int (nI x), z4, z5] [] h1 Q := by
          refine zdown (n) ?_ (fun x hp123 ih123 => ?_)
          · skip
            refine zG_s rfl rfl ?_
            refine zG_s rfl rfl ?_
            refine zN_get rfl hG.o rfl ?_
            refine zN_ige rfl (by omega) (by omega) (fun c3 => ?_) (fun c4 => absurd c4 (by omega))
            refine zG_s rfl rfl ?_
            -- leaf 1
            rw [← hQ]
            exact zG_ret rfl rfl ⟨rfl, _, hA⟩
          · skip
            refine zG_s rfl rfl ?_
            refine zG_s rfl rfl ?_
            refine zN_get rfl hG.o rfl ?_
            refine zN_ige rfl (by omega) (by omega) (fun c5 => absurd c5 (by omega)) (fun c6 => ?_)
            refine zG_s rfl rfl ?_
            refine zG_s rfl rfl ?_
            refine zN_get rfl hG.o rfl ?_
            refine zG_s rfl rfl ?_
            refine zN_ald rfl hG.im (by omega) (by omega) (him x hp123) ?_
            refine zG_s rfl rfl ?_
            refine zG_s rfl rfl ?_
            refine zN_mul (x := 3) rfl ?_
            refine zN_shl rfl (by omega) ?_
            refine zN_or rfl ?_
            refine zN_st2 rfl (fun _ _ _ => rfl) rfl ?_
            refine zN_inc3 rfl rfl ?_
            refine zG_s rfl rfl ?_
            -- leaf 2
            exact ih123
        exact main123 0 (by omega)
      refine zG_s rfl rfl ?_
      refine zN_st2 rfl (fun _ _ _ => rfl) rfl ?_
      have main30 : ∀ i, i ≤ 8 → ∀ (h1 : zH) (im : Nat → Int32) (z3 z4 z5 : Value), zGA h0 g n lo hi ec rw en im h1 → (∀ j, j < n → im j = nI ((zRtr n lo hi i).2 j)) → zok1 [.ref g, .int (nI (zRtr n lo hi i).1), .int (nI i), z3, z4, z5] 4 = true → zok1 [.ref g, .int (nI (zRtr n lo hi i).1), .int (nI i), z3, z4, z5] 5 = true → zGoP (d + 3) tX3_retraction 30 [.ref g, .int (nI (zRtr n lo hi i).1), .int (nI i), z3, z4, z5] [] h1 Q := by
        refine zdown (8) ?_ (fun i hp30 ih30 => ?_)
        · skip
          intro h1 im z3 z4 z5 hA him e4 e5
          refine zG_s rfl rfl ?_
          refine zG_s rfl rfl ?_
          refine zN_ige rfl (by omega) (by omega) (fun c7 => ?_) (fun c8 => absurd c8 (by omega))
          -- leaf 3
          exact jn119 _ _ _ _ _ _ _ hA him
        · skip
          intro h1 im z3 z4 z5 hA him e4 e5
          clear hG fl fh fb fa ft sh
          obtain ⟨hF, fl, fh, fb, fa, ft, sh, hG, hV, hM⟩ := hA
          have hA : zGA h0 g n lo hi ec rw en im h1 := ⟨hF, fl, fh, fb, fa, ft, sh, hG, hV, hM⟩
          have bs := zRtr_lt n lo hi i
          have hS : zRtr n lo hi (i + 1) = if zLB n lo hi (zRtr n lo hi i).1 < n then (zan (zRtr n lo hi i).1 (1 <<< zLB n lo hi (zRtr n lo hi i).1), fun p => if (zRtr n lo hi i).2 p = zLB n lo hi (zRtr n lo hi i).1 then zHost n lo hi (zLB n lo hi (zRtr n lo hi i).1) (zRtr n lo hi i).1 else (zRtr n lo hi i).2 p) else zRtr n lo hi i := rfl
          have hT := hst i (by omega)
          have hI := zRtr_im (n := n) (lo := lo) (hi := hi) i
          rw [hS] at ih30
          generalize zRtr n lo hi i = q at *
          obtain ⟨s, I⟩ := q
          simp only at *
          refine zG_s rfl rfl ?_
          refine zG_s rfl rfl ?_
          refine zN_ige rfl (by omega) (by omega) (fun c9 => absurd c9 (by omega)) (fun c10 => ?_)
          refine zG_s rfl rfl ?_
          refine zG_s rfl rfl ?_
          refine zG_cV1 rfl rfl hG.o rfl rfl (ct_leastBeat hG hV hO (by omega)) ?_
          refine zN_st3 rfl (fun _ _ _ => rfl) rfl ?_
          refine zG_s rfl rfl ?_
          refine zN_if rfl (fun c1 => ?_) (fun c2 => ?_)
          · skip
            rw [zix_ge0 (by omega)] at c1
            have cx := of_decide_eq_true c1
            have hbt := zLB_bt cx
            have hh := zHost_lt (zhigh bs) hbt.2
            rw [if_pos cx] at ih30
            rw [show zix (zLB n lo hi s) n = nI (zLB n lo hi s) from if_pos cx]
            generalize zLB n lo hi s = y at *
            refine zG_s rfl rfl ?_
            refine zG_s rfl rfl ?_
            refine zG_s rfl rfl ?_
            refine zG_cV1 rfl rfl hG.o rfl rfl (ct_host hG hV hO cx (by omega)) ?_
            rw [show zix (zHost n lo hi y s) n = nI (zHost n lo hi y s) from if_pos hh]
            refine zN_st4 rfl (fun _ _ _ => rfl) rfl ?_
            refine zG_s rfl rfl ?_
            refine zN_st5 rfl (fun _ _ _ => rfl) rfl ?_
            have main60 : ∀ x, x ≤ n → ∀ (h1 : zH) (im1 : Nat → Int32), zGA h0 g n lo hi ec rw en im1 h1 → (∀ j, j < n → im1 j = nI (if j < x then (if I j = y then zHost n lo hi y s else I j) else I j)) → zGoP (d + 3) tX3_retraction 60 [.ref g, .int (nI s), .int (nI i), .int (nI y), .int (nI (zHost n lo hi y s)), .int (nI x)] [] h1 Q := by
              refine zdown (n) ?_ (fun x hp60 ih60 => ?_)
              · skip
                intro h1 im1 hA him1
                obtain ⟨fl, fh, fb, fa, ft, sh, hG⟩ := hA.g
                refine zG_s rfl rfl ?_
                refine zG_s rfl rfl ?_
                refine zN_get rfl hG.o rfl ?_
                refine zN_ige rfl (by omega) (by omega) (fun c13 => ?_) (fun c14 => absurd c14 (by omega))
                refine zG_s rfl rfl ?_
                refine zG_s rfl rfl ?_
                refine zG_s rfl rfl ?_
                refine zN_shl rfl (by omega) ?_
                refine zG_s rfl rfl ?_
                refine zN_not rfl ?_
                refine zN_andn rfl ?_
                refine zN_st1 rfl (fun _ _ _ => rfl) rfl ?_
                refine zN_inc2 rfl rfl ?_
                refine zG_s rfl rfl ?_
                -- leaf 4
                refine ih30 _ _ _ _ _ hA (fun j hj => ?_) rfl rfl
                have := him1 j hj
                rw [if_pos hj] at this
                exact this
              · skip
                intro h1 im1 hA him1
                obtain ⟨fl, fh, fb, fa, ft, sh, hG⟩ := hA.g
                have e1 : im1 x = nI (I x) := by rw [him1 x hp60, if_neg (Nat.lt_irrefl x)]
                have bI := hI x hp60
                refine zG_s rfl rfl ?_
                refine zG_s rfl rfl ?_
                refine zN_get rfl hG.o rfl ?_
                refine zN_ige rfl (by omega) (by omega) (fun c15 => absurd c15 (by omega)) (fun c16 => ?_)
                refine zG_s rfl rfl ?_
                refine zN_get rfl hG.o rfl ?_
                refine zG_s rfl rfl ?_
                refine zG_s rfl rfl ?_
                refine zN_get rfl hG.o rfl ?_
                refine zG_s rfl rfl ?_
                refine zN_ald rfl hG.im (by omega) (by omega) e1 ?_
                refine zG_s rfl rfl ?_
                refine zN_ine rfl (by omega) (by omega) (fun c17 => ?_) (fun c18 => ?_)
                · skip
                  refine zG_s rfl rfl ?_
                  refine zN_get rfl hG.o rfl ?_
                  refine zG_s rfl rfl ?_
                  refine zN_ald rfl hG.im (by omega) (by omega) e1 ?_
                  refine zN_ast rfl hG.im (by omega) (by omega) (zble_of hg) ?_
                  refine zN_inc5 rfl rfl ?_
                  refine zG_s rfl rfl ?_
                  -- leaf 5
                  refine ih60 _ _ hA.p_im (fun j hj => ?_)
                  by_cases e : j = x
                  · subst e; rw [upd_at, if_pos (Nat.lt_succ_self _), if_neg c17]
                  · rw [upd_ne _ _ e, him1 j hj]
                    by_cases e2 : j < x
                    · rw [if_pos e2, if_pos (show j < x + 1 by omega)]
                    · rw [if_neg e2, if_neg (show ¬ j < x + 1 by omega)]
                · skip
                  refine zG_s rfl rfl ?_
                  refine zG_s rfl rfl ?_
                  refine zN_ast rfl hG.im (by omega) (by omega) (zble_of hg) ?_
                  refine zN_inc5 rfl rfl ?_
                  refine zG_s rfl rfl ?_
                  -- leaf 6
                  refine ih60 _ _ hA.p_im (fun j hj => ?_)
                  by_cases e : j = x
                  · subst e; rw [upd_at, if_pos (Nat.lt_succ_self _), if_pos c18]
                  · rw [upd_ne _ _ e, him1 j hj]
                    by_cases e2 : j < x
                    · rw [if_pos e2, if_pos (show j < x + 1 by omega)]
                    · rw [if_neg e2, if_neg (show ¬ j < x + 1 by omega)]
            exact main60 0 (by omega) _ _ hA (fun j hj => by rw [if_neg (Nat.not_lt_zero j)]; exact him j hj)
          · skip
            refine zG_s rfl rfl ?_
            -- leaf 7
            rw [zix_ge0 (by omega)] at c2
            have e8 := hT (of_decide_eq_false c2)
            exact jn119 _ _ _ _ _ _ _ hA (by rw [e8]; exact him)
      exact main30 0 (by omega) _ _ _ _ _ hA him rfl rfl
    · skip
      intro h1 im hA him
      obtain ⟨fl, fh, fb, fa, ft, sh, hG⟩ := hA.g
      refine zG_s rfl rfl ?_
      refine zG_s rfl rfl ?_
      refine zN_get rfl hG.o rfl ?_
      refine zN_ige rfl (by omega) (by omega) (fun c19 => absurd c19 (by omega)) (fun c20 => ?_)
      refine zG_s rfl rfl ?_
      refine zN_get rfl hG.o rfl ?_
      refine zG_s rfl rfl ?_
      refine zG_s rfl rfl ?_
      refine zN_ast rfl hG.im (by omega) (by omega) (zble_of hg) ?_
      refine zN_inc1 rfl rfl ?_
      refine zG_s rfl rfl ?_
      -- leaf 8
      exact ih2 _ _ hA.p_im (fun j hj => by
        by_cases e : j = x
        · subst e; exact upd_at _ _ _
        · rw [upd_ne _ _ e]; exact him j (by omega))
  exact main2 0 (by omega) h im hA (fun j hj => absurd hj (by omega))
