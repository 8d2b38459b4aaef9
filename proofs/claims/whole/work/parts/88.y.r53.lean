theorem zE9_l {n : Nat} (hn : n < 5) : zE9 n ≤ 4096 ∧ n * (n - 1) ≤ 20 := ⟨zE9_le n hn, zn20 n (by omega)⟩
theorem zcS6 {k j : Nat} (g : zRsp 6 k j) : zScr k j := by unfold zRsp at g; unfold zScr; omega
theorem zcN6 {k j : Nat} (g : zNfP 0 k j) : zScr k j := by unfold zNfP at g; unfold zScr; omega
theorem cr_codesOf {d r n f : Nat} {h : zH} {S : zRS} (hr : 2 ≤ r) (hn : n < 5) (hf : f < 2 ^ 31) : zCallP (d + 9) 231 [.ref r, .int (nI n), .int (nI f)] (zRh h r S) (zRV (.int (nI (zct (fun y => zVal n y && decide (zFo0 n y = f)) (zE9 n)))) (zRX h r S zScr (fun _ => True))) := by
  have h9 := zE9_l hn
  have h9e : 1 <<< (n * (n - 1)) = zE9 n := rfl
  refine zG_mP (t := tX10_codesOf) (ls0 := [.ref r, .int (nI n), .int (nI f), .null, .null]) rfl rfl (zdnR (zdnI (zdnI zdn0))) rfl ?_
  refine zG_s rfl rfl ?_
  refine zN_st3 rfl (fun _ _ _ => rfl) rfl ?_
  refine zG_s rfl rfl ?_
  refine zN_st4 rfl (fun _ _ _ => rfl) rfl ?_
  have main5 : ∀ c, c ≤ (zE9 n) → ∀ S1 : zRS, zRF zScr S S1 → zGoP (d + 8) tX10_codesOf 5 [.ref r, .int (nI n), .int (nI f), .int (nI (zct (fun y => zVal n y && decide (zFo0 n y = f)) c)), .int (nI c)] [] (zRh h r S1) (zRV (.int (nI (zct (fun y => zVal n y && decide (zFo0 n y = f)) (zE9 n)))) (zRX h r S zScr (fun _ => True))) := by
    refine zdown ((zE9 n)) ?_ (fun c hp5 ih5 => ?_)
    · skip
      intro S1 hF1
      let c := zE9 n
      have ec : c = zE9 n := rfl
      refine zG_s rfl rfl ?_
      refine zG_s rfl rfl ?_
      refine zG_s rfl rfl ?_
      refine zG_s rfl rfl ?_
      have jn20 : ∀ (q : Nat), q = n - 1 → zGoP (d + 8) tX10_codesOf 20 [.ref r, .int (nI n), .int (nI f), .int (nI (zct (fun y => zVal n y && decide (zFo0 n y = f)) c)), .int (nI c)] [.int (nI q), .int (nI n), .int (nI 1), .int (nI c)] (zRh h r S1) (zRV (.int (nI (zct (fun y => zVal n y && decide (zFo0 n y = f)) (zE9 n)))) (zRX h r S zScr (fun _ => True))) := by
        intro q rfl
        refine zN_mul rfl ?_
        refine zN_shl rfl (by omega) ?_
        refine zN_ige rfl (by omega) (by omega) (fun c1 => ?_) (fun c2 => absurd c2 (by omega))
        refine zG_s rfl rfl ?_
        -- leaf 1
        exact zG_ret rfl rfl ⟨rfl, S1, rfl, hF1, trivial⟩
      refine zN_le0 rfl (by omega) (fun c3 => ?_) (fun c4 => ?_)
      · skip
        refine zG_s rfl rfl ?_
        -- leaf 2
        exact jn20 _ (by omega)
      · skip
        refine zG_s rfl rfl ?_
        refine zG_s rfl rfl ?_
        refine zN_sub rfl (by omega) ?_
        refine zG_s rfl rfl ?_
        -- leaf 3
        exact jn20 _ rfl
    · skip
      intro S1 hF1
      have hct := zct_le (fun y => zVal n y && decide (zFo0 n y = f)) c
      refine zG_s rfl rfl ?_
      refine zG_s rfl rfl ?_
      refine zG_s rfl rfl ?_
      refine zG_s rfl rfl ?_
      have jn20 : ∀ (q : Nat), q = n - 1 → zGoP (d + 8) tX10_codesOf 20 [.ref r, .int (nI n), .int (nI f), .int (nI (zct (fun y => zVal n y && decide (zFo0 n y = f)) c)), .int (nI c)] [.int (nI q), .int (nI n), .int (nI 1), .int (nI c)] (zRh h r S1) (zRV (.int (nI (zct (fun y => zVal n y && decide (zFo0 n y = f)) (zE9 n)))) (zRX h r S zScr (fun _ => True))) := by
        intro q rfl
        refine zN_mul rfl ?_
        refine zN_shl rfl (by omega) ?_
        refine zN_ige rfl (by omega) (by omega) (fun c5 => absurd c5 (by omega)) (fun c6 => ?_)
        refine zG_s rfl rfl ?_
        refine zG_s rfl rfl ?_
        refine zG_s rfl rfl ?_
        refine zG_s rfl rfl ?_
        refine zG_s rfl rfl ?_
        refine zG_cQV rfl rfl zRh_o rfl rfl (cr_isCode hr (by omega) (by omega) (by omega)) (fun h1 hB => ?_)
        obtain ⟨S2, rfl, hF2, hS2⟩ := hB
        first | refine zN_ifb rfl (fun c7 => ?_) (fun c8 => ?_) | refine zN_eq0 rfl (by omega) (fun c7 => ?_) (fun c8 => ?_)
        · skip
          refine zG_s rfl rfl ?_
          refine zN_add rfl ?_
          refine zN_st3 rfl (fun _ _ _ => rfl) rfl ?_
          refine zN_inc4 rfl rfl ?_
          refine zG_s rfl rfl ?_
          -- leaf 4
          have e : (zVal n c && decide (zFo0 n c = f)) = false := by rw [c7]; rfl
          rw [zct_no (c := fun y => zVal n y && decide (zFo0 n y = f)) e] at ih5
          exact ih5 _ (hF1.tr (hF2.mono (fun _ _ => zcS6)))
        · skip
          refine zG_s rfl rfl ?_
          refine zG_s rfl rfl ?_
          refine zG_cQV rfl rfl zRh_o rfl rfl (cr_formOf hr hS2 (by omega) (fun x hx => zDl_lt (by omega) (by omega))) (fun h1 hB => ?_)
          obtain ⟨S3, rfl, hF3, _⟩ := hB
          have hfl := zFm_lt (n := n) (lo := zDl n c) (by omega) (zFac n)
          refine zG_s rfl rfl ?_
          refine zN_ine rfl (by omega) (by omega) (fun c9 => ?_) (fun c10 => ?_)
          · skip
            refine zG_s rfl rfl ?_
            refine zN_add rfl ?_
            refine zN_st3 rfl (fun _ _ _ => rfl) rfl ?_
            refine zN_inc4 rfl rfl ?_
            refine zG_s rfl rfl ?_
            -- leaf 5
            have e : (zVal n c && decide (zFo0 n c = f)) = false := by rw [decide_eq_false (show ¬ zFo0 n c = f from c9), Bool.and_false]
            rw [zct_no (c := fun y => zVal n y && decide (zFo0 n y = f)) e] at ih5
            exact ih5 _ ((hF1.tr (hF2.mono (fun _ _ => zcS6))).tr (hF3.mono (fun _ _ => zcN6)))
          · skip
            refine zG_s rfl rfl ?_
            refine zG_s rfl rfl ?_
            refine zN_add rfl ?_
            refine zN_st3 rfl (fun _ _ _ => rfl) rfl ?_
            refine zN_inc4 rfl rfl ?_
            refine zG_s rfl rfl ?_
            -- leaf 6
            have e : (zVal n c && decide (zFo0 n c = f)) = true := by rw [c8, decide_eq_true (show zFo0 n c = f from c10)]; rfl
            rw [zct_yes (c := fun y => zVal n y && decide (zFo0 n y = f)) e] at ih5
            exact ih5 _ ((hF1.tr (hF2.mono (fun _ _ => zcS6))).tr (hF3.mono (fun _ _ => zcN6)))
      refine zN_le0 rfl (by omega) (fun c11 => ?_) (fun c12 => ?_)
      · skip
        refine zG_s rfl rfl ?_
        -- leaf 7
        exact jn20 _ (by omega)
      · skip
        refine zG_s rfl rfl ?_
        refine zG_s rfl rfl ?_
        refine zN_sub rfl (by omega) ?_
        refine zG_s rfl rfl ?_
        -- leaf 8
        exact jn20 _ rfl
  exact main5 0 (by omega) _ zRF.rf
theorem cr_list {d r : Nat} {h : zH} {S : zRS} {s : zST} {a b : Int32} (hr : 2 ≤ r) (hI : zRI S s) (hW : zWT s) : zCallP (d + 10) 230 [.ref r, .int a, .int b] (zRh h r S) (zROut h r (zo_list s a b)) := by
  refine zG_mP (t := tX10_list) (ls0 := [.ref r, .int a, .int b, .null, .null, .null]) rfl rfl (zdnR (zdnI (zdnI zdn0))) rfl ?_
  refine zG_s rfl rfl ?_
  refine zG_s rfl rfl ?_
  refine zG_s rfl rfl ?_
  refine zG_cS1 rfl rfl cr_inc ?_
  refine zN_ifb rfl (fun c1 => ?_) (fun c2 => ?_)
  · skip
    refine zG_s rfl rfl ?_
    -- leaf 1
    exact zG_ret rfl rfl (zRfin (by rw [zo_list, zb_no c1]) hI)
  · skip
    obtain ⟨n, hn, rfl⟩ := zin_of c2 (by omega)
    have h9 := zE9_l hn
    have h9e : 1 <<< (n * (n - 1)) = zE9 n := rfl
    refine zG_s rfl rfl ?_
    refine zG_s rfl rfl ?_
    refine zG_s rfl rfl ?_
    refine zG_cS1 rfl rfl cr_inc ?_
    refine zN_ifnb rfl (fun c3 => ?_) (fun c4 => ?_)
    · skip
      obtain ⟨w, hw, rfl⟩ := zin_of c3 (by omega)
      refine zG_s rfl rfl ?_
      refine zN_st3 rfl (fun _ _ _ => rfl) rfl ?_
      refine zG_s rfl rfl ?_
      refine zN_st4 rfl (fun _ _ _ => rfl) rfl ?_
      have main25 : ∀ c, c ≤ (zE9 n) → ∀ (S1 : zRS) (x5 : Value), zRF zScr S S1 → zGoP (d + 9) tX10_list 25 [.ref r, .int (nI n), .int (nI w), .int (nI (zct (zLi9 n w) c)), .int (nI c), x5] [] (zRh h r S1) (zROut h r (zo_list s (nI n) (nI w))) := by
        refine zdown ((zE9 n)) ?_ (fun c hp25 ih25 => ?_)
        · skip
          intro S1 x5 hF1
          let c := zE9 n
          have ec : c = zE9 n := rfl
          refine zG_s rfl rfl ?_
          refine zG_s rfl rfl ?_
          refine zG_s rfl rfl ?_
          refine zG_s rfl rfl ?_
          have jn40 : ∀ (q : Nat), q = n - 1 → zGoP (d + 9) tX10_list 40 [.ref r, .int (nI n), .int (nI w), .int (nI (zct (zLi9 n w) c)), .int (nI c), x5] [.int (nI q), .int (nI n), .int (nI 1), .int (nI c)] (zRh h r S1) (zROut h r (zo_list s (nI n) (nI w))) := by
            intro q rfl
            refine zN_mul rfl ?_
            refine zN_shl rfl (by omega) ?_
            refine zN_ige rfl (by omega) (by omega) (fun c5 => ?_) (fun c6 => absurd c6 (by omega))
            refine zG_s rfl rfl ?_
            -- leaf 2
            exact zG_ret rfl rfl (zRfin (by rw [zo_list, zb_i hn (by omega), zb_i hw (by omega), zList9_eq hn hw]; first | done | rfl) (hI.fr hW hF1 (fun _ _ g => g)))
          refine zN_le0 rfl (by omega) (fun c7 => ?_) (fun c8 => ?_)
          · skip
            refine zG_s rfl rfl ?_
            -- leaf 3
            exact jn40 _ (by omega)
          · skip
            refine zG_s rfl rfl ?_
            refine zG_s rfl rfl ?_
            refine zN_sub rfl (by omega) ?_
            refine zG_s rfl rfl ?_
            -- leaf 4
            exact jn40 _ rfl
        · skip
          intro S1 x5 hF1
          have hct := zct_le (zLi9 n w) c
          refine zG_s rfl rfl ?_
          refine zG_s rfl rfl ?_
          refine zG_s rfl rfl ?_
          refine zG_s rfl rfl ?_
          have jn40 : ∀ (q : Nat), q = n - 1 → zGoP (d + 9) tX10_list 40 [.ref r, .int (nI n), .int (nI w), .int (nI (zct (zLi9 n w) c)), .int (nI c), x5] [.int (nI q), .int (nI n), .int (nI 1), .int (nI c)] (zRh h r S1) (zROut h r (zo_list s (nI n) (nI w))) := by
            intro q rfl
            refine zN_mul rfl ?_
            refine zN_shl rfl (by omega) ?_
            refine zN_ige rfl (by omega) (by omega) (fun c9 => absurd c9 (by omega)) (fun c10 => ?_)
            have jn93 : ∀ (b : Bool) (S2 : zRS), b = zLi9 n w c → zRF zScr S S2 → zGoP (d + 9) tX10_list 93 [.ref r, .int (nI n), .int (nI w), .int (nI (zct (zLi9 n w) c)), .int (nI c), x5] [.int (nI (b2n b))] (zRh h r S2) (zROut h r (zo_list s (nI n) (nI w))) := by
              intro b S2 eb hF2
              refine zN_st5 rfl (fun _ _ _ => rfl) rfl ?_
              refine zG_s rfl rfl ?_
              refine zG_s rfl rfl ?_
              first | refine zN_ifb rfl (fun c11 => ?_) (fun c12 => ?_) | refine zN_eq0 rfl (by omega) (fun c11 => ?_) (fun c12 => ?_)
              · skip
                refine zG_s rfl rfl ?_
                refine zN_add rfl ?_
                refine zN_st3 rfl (fun _ _ _ => rfl) rfl ?_
                refine zN_inc4 rfl rfl ?_
                refine zG_s rfl rfl ?_
                -- leaf 5
                rw [zct_no (show zLi9 n w c = false by rw [← eb]; exact c11)] at ih25
                exact ih25 _ _ hF2
              · skip
                refine zG_s rfl rfl ?_
                refine zG_s rfl rfl ?_
                refine zN_add rfl ?_
                refine zN_st3 rfl (fun _ _ _ => rfl) rfl ?_
                refine zN_inc4 rfl rfl ?_
                refine zG_s rfl rfl ?_
                -- leaf 6
                rw [zct_yes (show zLi9 n w c = true by rw [← eb]; exact c12)] at ih25
                exact ih25 _ _ hF2
            refine zG_s rfl rfl ?_
            refine zG_s rfl rfl ?_
            refine zG_s rfl rfl ?_
            refine zG_s rfl rfl ?_
            refine zG_cQV rfl rfl zRh_o rfl rfl (cr_isCode hr (by omega) (by omega) (by omega)) (fun h1 hB => ?_)
            obtain ⟨S2, rfl, hF2, hS2⟩ := hB
            have hF2 := hF1.tr (hF2.mono (fun _ _ => zcS6))
            first | refine zN_ifb rfl (fun c13 => ?_) (fun c14 => ?_) | refine zN_eq0 rfl (by omega) (fun c13 => ?_) (fun c14 => ?_)
            · skip
              refine zG_s rfl rfl ?_
              -- leaf 7
              exact jn93 false _ (by unfold zLi9; rw [c13]; first | done | rfl) hF2
            · skip
              refine zG_s rfl rfl ?_
              refine zG_s rfl rfl ?_
              refine zN_rem rfl (by omega) (by omega) (by omega) ?_
              first | refine zN_ifb rfl (fun c15 => ?_) (fun c16 => ?_) | refine zN_eq0 rfl (by omega) (fun c15 => ?_) (fun c16 => ?_)
              · skip
                refine zG_s rfl rfl ?_
                refine zG_s rfl rfl ?_
                refine zN_ilt rfl (by omega) (by omega) (fun c17 => ?_) (fun c18 => ?_)
                · skip
                  refine zG_s rfl rfl ?_
                  refine zG_s rfl rfl ?_
                  -- leaf 8
                  exact jn93 true _ (by unfold zLi9; rw [c14, decide_eq_true (show w % 2 = 0 by omega), decide_eq_true (show w < 2 by omega)]; first | done | rfl) hF2
                · skip
                  refine zG_s rfl rfl ?_
                  refine zG_s rfl rfl ?_
                  refine zG_cQV rfl rfl zRh_o rfl rfl (cr_formOf hr hS2 (by omega) (fun x hx => zDl_lt (by omega) (by omega))) (fun h1 hB => ?_)
                  obtain ⟨S3, rfl, hF3, _⟩ := hB
                  have hF3 := hF2.tr (hF3.mono (fun _ _ => zcN6))
                  have hfl := zFm_lt (n := n) (lo := zDl n c) (by omega) (zFac n)
                  refine zG_s rfl rfl ?_
                  refine zN_ine rfl (by omega) (by omega) (fun c19 => ?_) (fun c20 => ?_)
                  · skip
                    refine zG_s rfl rfl ?_
                    -- leaf 9
                    exact jn93 false _ (by unfold zLi9; rw [decide_eq_false (show ¬ w < 2 by omega), decide_eq_false (show ¬ zFo0 n c = c from c19), Bool.or_false, Bool.and_false]) hF3
                  · skip
                    refine zG_s rfl rfl ?_
                    refine zG_s rfl rfl ?_
                    -- leaf 10
                    exact jn93 true _ (by unfold zLi9; rw [c14, decide_eq_true (show w % 2 = 0 by omega), decide_eq_true (show zFo0 n c = c from c20), Bool.or_true]; first | done | rfl) hF3
              · skip
                refine zG_s rfl rfl ?_
                refine zG_s rfl rfl ?_
                have hv : zVal n c = true := by assumption
                refine zG_cV1 rfl rfl zRh_o rfl rfl (cr_isPlain hS2 (zPre.dl (by omega) hv)) ?_
                first | refine zN_ifb rfl (fun c21 => ?_) (fun c22 => ?_) | refine zN_eq0 rfl (by omega) (fun c21 => ?_) (fun c22 => ?_)
                · skip
                  refine zG_s rfl rfl ?_
                  -- leaf 11
                  exact jn93 false _ (by unfold zLi9; rw [c14, decide_eq_false (show ¬ w % 2 = 0 by omega), show zPln n c = false from c21]; first | done | rfl) hF2
                · skip
                  refine zG_s rfl rfl ?_
                  refine zG_s rfl rfl ?_
                  refine zN_ilt rfl (by omega) (by omega) (fun c23 => ?_) (fun c24 => ?_)
                  · skip
                    refine zG_s rfl rfl ?_
                    refine zG_s rfl rfl ?_
                    -- leaf 12
                    exact jn93 true _ (by unfold zLi9; rw [c14, show zPln n c = true from c22, Bool.or_true, decide_eq_true (show w < 2 by omega)]; first | done | rfl) hF2
                  · skip
                    refine zG_s rfl rfl ?_
                    refine zG_s rfl rfl ?_
                    refine zG_cQV rfl rfl zRh_o rfl rfl (cr_formOf hr hS2 (by omega) (fun x hx => zDl_lt (by omega) (by omega))) (fun h1 hB => ?_)
                    obtain ⟨S3, rfl, hF3, _⟩ := hB
                    have hF3 := hF2.tr (hF3.mono (fun _ _ => zcN6))
                    have hfl := zFm_lt (n := n) (lo := zDl n c) (by omega) (zFac n)
                    refine zG_s rfl rfl ?_
                    refine zN_ine rfl (by omega) (by omega) (fun c25 => ?_) (fun c26 => ?_)
                    · skip
                      refine zG_s rfl rfl ?_
                      -- leaf 13
                      exact jn93 false _ (by unfold zLi9; rw [decide_eq_false (show ¬ w < 2 by omega), decide_eq_false (show ¬ zFo0 n c = c from c25), Bool.or_false, Bool.and_false]) hF3
                    · skip
                      refine zG_s rfl rfl ?_
                      refine zG_s rfl rfl ?_
                      -- leaf 14
                      exact jn93 true _ (by unfold zLi9; rw [c14, show zPln n c = true from c22, Bool.or_true, decide_eq_true (show zFo0 n c = c from c26), Bool.or_true]; first | done | rfl) hF3
          refine zN_le0 rfl (by omega) (fun c27 => ?_) (fun c28 => ?_)
          · skip
            refine zG_s rfl rfl ?_
            -- leaf 15
            exact jn40 _ (by omega)
          · skip
            refine zG_s rfl rfl ?_
            refine zG_s rfl rfl ?_
            refine zN_sub rfl (by omega) ?_
            refine zG_s rfl rfl ?_
            -- leaf 16
            exact jn40 _ rfl
      exact main25 0 (by omega) _ _ zRF.rf
    · skip
      refine zG_s rfl rfl ?_
      -- leaf 17
      exact zG_ret rfl rfl (zRfin (by rw [zo_list, zb_i hn (by omega), zb_no c4]) hI)
theorem cr_listed {d r : Nat} {h : zH} {S : zRS} {s : zST} {a b c e : Int32} (hr : 2 ≤ r) (hI : zRI S s) (hW : zWT s) : zCallP (d + 11) 232 [.ref r, .int a, .int b, .int c, .int e] (zRh h r S) (zROut h r (zo_listed s a b c e)) := by
  refine zG_mP (t := tX10_listed) (ls0 := [.ref r, .int a, .int b, .int c, .int e, .null, .null]) rfl rfl (zdnR (zdnI (zdnI (zdnI (zdnI zdn0))))) rfl ?_
  refine zG_s rfl rfl ?_
  refine zG_s rfl rfl ?_
  refine zG_s rfl rfl ?_
  refine zG_cS1 rfl rfl cr_inc ?_
  refine zN_ifb rfl (fun c1 => ?_) (fun c2 => ?_)
  · skip
    refine zG_s rfl rfl ?_
    -- leaf 1
    exact zG_ret rfl rfl (zRfin (by rw [zo_listed, zb_no c1]) hI)
  · skip
    obtain ⟨n, hn, rfl⟩ := zin_of c2 (by omega)
    have h9 := zE9_l hn
    have h9e : 1 <<< (n * (n - 1)) = zE9 n := rfl
    refine zG_s rfl rfl ?_
    refine zG_s rfl rfl ?_
    refine zG_s rfl rfl ?_
    refine zG_cS1 rfl rfl cr_inc ?_
    refine zN_ifb rfl (fun c3 => ?_) (fun c4 => ?_)
    · skip
      refine zG_s rfl rfl ?_
      -- leaf 2
      exact zG_ret rfl rfl (zRfin (by rw [zo_listed, zb_i hn (by omega), zb_no c3]) hI)
    · skip
      obtain ⟨p, hp, rfl⟩ := zin_of c4 (by omega)
      refine zG_s rfl rfl ?_
      refine zN_if rfl (fun c5 => ?_) (fun c6 => ?_)
      · skip
        refine zG_s rfl rfl ?_
        -- leaf 3
        exact zG_ret rfl rfl (zRfin (by rw [zo_listed, zb_i hn (by omega), zb_i hp (by omega), if_pos (of_decide_eq_true c5)]) hI)
      · skip
        obtain ⟨i, hi, rfl⟩ := nI_of (of_decide_eq_false c6)
        refine zG_s rfl rfl ?_
        refine zG_s rfl rfl ?_
        refine zG_s rfl rfl ?_
        refine zG_cS1 rfl rfl cr_inc ?_
        refine zN_ifnb rfl (fun c7 => ?_) (fun c8 => ?_)
        · skip
          obtain ⟨w, hw, rfl⟩ := zin_of c7 (by omega)
          have hz9 : zo_listed s (nI n) (nI p) (nI i) (nI w) = (zListed n p i w, s) := by rw [zo_listed, zb_i hn (by omega), zb_i hp (by omega), if_neg (of_decide_eq_false c6), zb_i hw (by omega), nI_cl hi]
          refine zG_s rfl rfl ?_
          refine zN_st5 rfl (fun _ _ _ => rfl) rfl ?_
          refine zG_s rfl rfl ?_
          refine zN_st6 rfl (fun _ _ _ => rfl) rfl ?_
          have main40 : ∀ c, c ≤ (zE9 n) → ∀ S1 : zRS, zRF zScr S S1 → zct (zFp9 n p) c ≤ i → zGoP (d + 10) tX10_listed 40 [.ref r, .int (nI n), .int (nI p), .int (nI i), .int (nI w), .int (nI (zct (zFp9 n p) c)), .int (nI c)] [] (zRh h r S1) (zROut h r (zo_listed s (nI n) (nI p) (nI i) (nI w))) := by
            refine zdown ((zE9 n)) ?_ (fun c hp40 ih40 => ?_)
            · skip
              intro S1 hF1 hci
              let c := zE9 n
              have ec : c = zE9 n := rfl
              refine zG_s rfl rfl ?_
              refine zG_s rfl rfl ?_
              refine zG_s rfl rfl ?_
              refine zG_s rfl rfl ?_
              have jn55 : ∀ (q : Nat), q = n - 1 → zGoP (d + 10) tX10_listed 55 [.ref r, .int (nI n), .int (nI p), .int (nI i), .int (nI w), .int (nI (zct (zFp9 n p) c)), .int (nI c)] [.int (nI q), .int (nI n), .int (nI 1), .int (nI c)] (zRh h r S1) (zROut h r (zo_listed s (nI n) (nI p) (nI i) (nI w))) := by
                intro q rfl
                refine zN_mul rfl ?_
                refine zN_shl rfl (by omega) ?_
                refine zN_ige rfl (by omega) (by omega) (fun c9 => ?_) (fun c10 => absurd c10 (by omega))
                refine zG_s rfl rfl ?_
                -- leaf 4
                exact zG_ret rfl rfl (zRfin (by rw [hz9, zListed_no hn hp hci]) (hI.fr hW hF1 (fun _ _ g => g)))
              refine zN_le0 rfl (by omega) (fun c11 => ?_) (fun c12 => ?_)
              · skip
                refine zG_s rfl rfl ?_
                -- leaf 5
                exact jn55 _ (by omega)
              · skip
                refine zG_s rfl rfl ?_
                refine zG_s rfl rfl ?_
                refine zN_sub rfl (by omega) ?_
                refine zG_s rfl rfl ?_
                -- leaf 6
                exact jn55 _ rfl
            · skip
              intro S1 hF1 hci
              have hct := zct_le (zFp9 n p) c
              refine zG_s rfl rfl ?_
              refine zG_s rfl rfl ?_
              refine zG_s rfl rfl ?_
              refine zG_s rfl rfl ?_
              have jn55 : ∀ (q : Nat), q = n - 1 → zGoP (d + 10) tX10_listed 55 [.ref r, .int (nI n), .int (nI p), .int (nI i), .int (nI w), .int (nI (zct (zFp9 n p) c)), .int (nI c)] [.int (nI q), .int (nI n), .int (nI 1), .int (nI c)] (zRh h r S1) (zROut h r (zo_listed s (nI n) (nI p) (nI i) (nI w))) := by
                intro q rfl
                refine zN_mul rfl ?_
                refine zN_shl rfl (by omega) ?_
                refine zN_ige rfl (by omega) (by omega) (fun c13 => absurd c13 (by omega)) (fun c14 => ?_)
                refine zG_s rfl rfl ?_
                refine zG_s rfl rfl ?_
                refine zG_s rfl rfl ?_
                refine zG_s rfl rfl ?_
                refine zG_cQV rfl rfl zRh_o rfl rfl (cr_isCode hr (by omega) (by omega) (by omega)) (fun h1 hB => ?_)
                obtain ⟨S2, rfl, hF2, hS2⟩ := hB
                have hF2 := hF1.tr (hF2.mono (fun _ _ => zcS6))
                first | refine zN_ifb rfl (fun c15 => ?_) (fun c16 => ?_) | refine zN_eq0 rfl (by omega) (fun c15 => ?_) (fun c16 => ?_)
                · skip
                  refine zN_inc6 rfl rfl ?_
                  refine zG_s rfl rfl ?_
                  -- leaf 7
                  rw [zct_no (show zFp9 n p c = false by unfold zFp9 zFc9; rw [c15]; rfl)] at ih40
                  exact ih40 _ hF2 hci
                · skip
                  refine zG_s rfl rfl ?_
                  first | refine zN_ifb rfl (fun c17 => ?_) (fun c18 => ?_) | refine zN_eq0 rfl (by omega) (fun c17 => ?_) (fun c18 => ?_)
                  · skip
                    refine zG_s rfl rfl ?_
                    refine zG_s rfl rfl ?_
                    refine zG_cQV rfl rfl zRh_o rfl rfl (cr_formOf hr hS2 (by omega) (fun x hx => zDl_lt (by omega) (by omega))) (fun h1 hB => ?_)
                    obtain ⟨S3, rfl, hF3, _⟩ := hB
                    have hF3 := hF2.tr (hF3.mono (fun _ _ => zcN6))
                    have hfl := zFm_lt (n := n) (lo := zDl n c) (by omega) (zFac n)
                    refine zG_s rfl rfl ?_
                    refine zN_ine rfl (by omega) (by omega) (fun c19 => ?_) (fun c20 => ?_)
                    · skip
                      refine zN_inc6 rfl rfl ?_
                      refine zG_s rfl rfl ?_
                      -- leaf 8
                      rw [zct_no (show zFp9 n p c = false by unfold zFp9 zFc9; rw [decide_eq_false (show ¬ zFo0 n c = c from c19), Bool.and_false]; rfl)] at ih40
                      exact ih40 _ hF3 hci
                    · skip
                      refine zG_s rfl rfl ?_
                      refine zG_s rfl rfl ?_
                      refine zN_ine rfl (by omega) (by omega) (fun c21 => ?_) (fun c22 => ?_)
                      · skip
                        refine zN_inc5 rfl rfl ?_
                        refine zN_inc6 rfl rfl ?_
                        refine zG_s rfl rfl ?_
                        -- leaf 9
                        rw [zct_yes (show zFp9 n p c = true by unfold zFp9 zFc9; rw [c16, decide_eq_true (show zFo0 n c = c from c20), decide_eq_true (show p = 0 by omega)]; first | done | rfl)] at ih40
                        exact ih40 _ hF3 (by omega)
                      · skip
                        refine zG_s rfl rfl ?_
                        first | refine zN_ifnb rfl (fun c23 => ?_) (fun c24 => ?_) | refine zN_ne0 rfl (by omega) (fun c23 => ?_) (fun c24 => ?_)
                        · skip
                          refine zG_s rfl rfl ?_
                          refine zG_s rfl rfl ?_
                          refine zG_s rfl rfl ?_
                          have hz := zct_le (fun y => zVal n y && decide (zFo0 n y = c)) (zE9 n)
                          refine zG_cQV rfl rfl zRh_o rfl rfl (cr_codesOf hr hn (by omega)) (fun h1 hB => ?_)
                          obtain ⟨S4, rfl, hF4, _⟩ := hB
                          have hF4 := hF3.tr hF4
                          -- leaf 10
                          exact zG_ret rfl rfl (zRfin (by rw [hz9, zListed_f hn hp (by omega) (show zFp9 n p c = true by unfold zFp9 zFc9; rw [c16, decide_eq_true (show zFo0 n c = c from c20), decide_eq_true (show p = 0 by omega)]; first | done | rfl) (by omega), if_neg (by omega)]) (hI.fr hW hF4 (fun _ _ g => g)))
                        · skip
                          refine zG_s rfl rfl ?_
                          refine zG_s rfl rfl ?_
                          -- leaf 11
                          exact zG_ret rfl rfl (zRfin (by rw [hz9, zListed_f hn hp (by omega) (show zFp9 n p c = true by unfold zFp9 zFc9; rw [c16, decide_eq_true (show zFo0 n c = c from c20), decide_eq_true (show p = 0 by omega)]; first | done | rfl) (by omega), if_pos (by omega)]) (hI.fr hW hF3 (fun _ _ g => g)))
                  · skip
                    refine zG_s rfl rfl ?_
                    refine zG_s rfl rfl ?_
                    have hv : zVal n c = true := by assumption
                    refine zG_cV1 rfl rfl zRh_o rfl rfl (cr_isPlain hS2 (zPre.dl (by omega) hv)) ?_
                    first | refine zN_ifb rfl (fun c25 => ?_) (fun c26 => ?_) | refine zN_eq0 rfl (by omega) (fun c25 => ?_) (fun c26 => ?_)
                    · skip
                      refine zN_inc6 rfl rfl ?_
                      refine zG_s rfl rfl ?_
                      -- leaf 12
                      rw [zct_no (show zFp9 n p c = false by unfold zFp9; rw [show zPln n c = false from c25, decide_eq_false (show ¬ p = 0 by omega), Bool.or_false, Bool.and_false])] at ih40
                      exact ih40 _ hF2 hci
                    · skip
                      refine zG_s rfl rfl ?_
                      refine zG_s rfl rfl ?_
                      refine zG_cQV rfl rfl zRh_o rfl rfl (cr_formOf hr hS2 (by omega) (fun x hx => zDl_lt (by omega) (by omega))) (fun h1 hB => ?_)
                      obtain ⟨S3, rfl, hF3, _⟩ := hB
                      have hF3 := hF2.tr (hF3.mono (fun _ _ => zcN6))
                      have hfl := zFm_lt (n := n) (lo := zDl n c) (by omega) (zFac n)
                      refine zG_s rfl rfl ?_
                      refine zN_ine rfl (by omega) (by omega) (fun c27 => ?_) (fun c28 => ?_)
                      · skip
                        refine zN_inc6 rfl rfl ?_
                        refine zG_s rfl rfl ?_
                        -- leaf 13
                        rw [zct_no (show zFp9 n p c = false by unfold zFp9 zFc9; rw [decide_eq_false (show ¬ zFo0 n c = c from c27), Bool.and_false]; rfl)] at ih40
                        exact ih40 _ hF3 hci
                      · skip
                        refine zG_s rfl rfl ?_
                        refine zG_s rfl rfl ?_
                        refine zN_ine rfl (by omega) (by omega) (fun c29 => ?_) (fun c30 => ?_)
                        · skip
                          refine zN_inc5 rfl rfl ?_
                          refine zN_inc6 rfl rfl ?_
                          refine zG_s rfl rfl ?_
                          -- leaf 14
                          rw [zct_yes (show zFp9 n p c = true by unfold zFp9 zFc9; rw [c16, decide_eq_true (show zFo0 n c = c from c28), show zPln n c = true from c26, Bool.or_true]; first | done | rfl)] at ih40
                          exact ih40 _ hF3 (by omega)
                        · skip
                          refine zG_s rfl rfl ?_
                          first | refine zN_ifnb rfl (fun c31 => ?_) (fun c32 => ?_) | refine zN_ne0 rfl (by omega) (fun c31 => ?_) (fun c32 => ?_)
                          · skip
                            refine zG_s rfl rfl ?_
                            refine zG_s rfl rfl ?_
                            refine zG_s rfl rfl ?_
                            have hz := zct_le (fun y => zVal n y && decide (zFo0 n y = c)) (zE9 n)
                            refine zG_cQV rfl rfl zRh_o rfl rfl (cr_codesOf hr hn (by omega)) (fun h1 hB => ?_)
                            obtain ⟨S4, rfl, hF4, _⟩ := hB
                            have hF4 := hF3.tr hF4
                            -- leaf 15
                            exact zG_ret rfl rfl (zRfin (by rw [hz9, zListed_f hn hp (by omega) (show zFp9 n p c = true by unfold zFp9 zFc9; rw [c16, decide_eq_true (show zFo0 n c = c from c28), show zPln n c = true from c26, Bool.or_true]; first | done | rfl) (by omega), if_neg (by omega)]) (hI.fr hW hF4 (fun _ _ g => g)))
                          · skip
                            refine zG_s rfl rfl ?_
                            refine zG_s rfl rfl ?_
                            -- leaf 16
                            exact zG_ret rfl rfl (zRfin (by rw [hz9, zListed_f hn hp (by omega) (show zFp9 n p c = true by unfold zFp9 zFc9; rw [c16, decide_eq_true (show zFo0 n c = c from c28), show zPln n c = true from c26, Bool.or_true]; first | done | rfl) (by omega), if_pos (by omega)]) (hI.fr hW hF3 (fun _ _ g => g)))
              refine zN_le0 rfl (by omega) (fun c33 => ?_) (fun c34 => ?_)
              · skip
                refine zG_s rfl rfl ?_
                -- leaf 17
                exact jn55 _ (by omega)
              · skip
                refine zG_s rfl rfl ?_
                refine zG_s rfl rfl ?_
                refine zN_sub rfl (by omega) ?_
                refine zG_s rfl rfl ?_
                -- leaf 18
                exact jn55 _ rfl
          exact main40 0 (by omega) _ zRF.rf (Nat.zero_le _)
        · skip
          refine zG_s rfl rfl ?_
          -- leaf 19
          exact zG_ret rfl rfl (zRfin (by rw [zo_listed, zb_i hn (by omega), zb_i hp (by omega), if_neg (of_decide_eq_false c6), zb_no c8]) hI)
