theorem zW_end {n k : Nat} {lo hi : Nat → Nat} (hn : n ≤ 8) : ∀ j, j ≤ 1 <<< n → ∀ i, i < (zW n lo hi k j).2.2.1 → (zW n lo hi k j).2.1 i < 1 <<< n
  | 0, _, i, h => absurd h (Nat.not_lt_zero i)
  | j + 1, hj, i, h => by
    have hp := zpow_le hn
    have ih := zW_end (k := k) (lo := lo) (hi := hi) hn j (by omega)
    have hW : zW n lo hi k (j + 1) = if zWx (zWg n lo hi k (zW n lo hi k j).1 (1 <<< n - 1 - j)) (1 <<< n - 1 - j) (zW n lo hi k j).1 n (1 <<< n - 1 - j) ≠ 0 ∧ zWg n lo hi k (zW n lo hi k j).1 (1 <<< n - 1 - j) = 0 then (zWx (zWg n lo hi k (zW n lo hi k j).1 (1 <<< n - 1 - j)) (1 <<< n - 1 - j) (zW n lo hi k j).1 n, zupd (zW n lo hi k j).2.1 (zW n lo hi k j).2.2.1 (1 <<< n - 1 - j), (zW n lo hi k j).2.2.1 + 1, (zW n lo hi k j).2.2.2 + zWx (zWg n lo hi k (zW n lo hi k j).1 (1 <<< n - 1 - j)) (1 <<< n - 1 - j) (zW n lo hi k j).1 n (1 <<< n - 1 - j)) else (zWx (zWg n lo hi k (zW n lo hi k j).1 (1 <<< n - 1 - j)) (1 <<< n - 1 - j) (zW n lo hi k j).1 n, (zW n lo hi k j).2) := rfl
    rw [hW] at h ⊢
    generalize zW n lo hi k j = q at *
    obtain ⟨f, E, m, T⟩ := q
    simp only at *
    split at h
    · rename_i hc
      rw [if_pos hc]
      show zupd E m (1 <<< n - 1 - j) i < _
      by_cases e : i = m
      · rw [e, zupd_at]; omega
      · rw [zupd_ne _ _ e]; exact ih i (by have h : i < m + 1 := h; omega)
    · rename_i hc
      rw [if_neg hc]
      exact ih i h
def zRu (k j : Nat) : Prop := zRnR k j
theorem cr_unlikeEnds {d r s n m : Nat} {h : zH} {S : zRS} {lo E : Nat → Nat} (hr : 2 ≤ r) (hS : zRs S s n lo) (hP : zPre n lo) (hm : m ≤ 256) (h13 : S.1 13 = nI m) (hE : ∀ i, i < m → S.2.1 9 i = nI (E i)) (hEn : ∀ i, i < m → E i < 1 <<< n) : zCallP (d + 13) 215 [.ref r, .int (nI s)] (zRh h r S) (zRV (.int (nI (zUnl n lo E m))) (zRX h r S zRnR (fun _ => True))) := by
  have hn := hP.1
  have hpw := zpow_le hn
  unfold zUnl
  generalize hC : (fun i => zAl (fun j => !zSm2 n lo (E i) n lo (E j)) i) = C
  have hCx : ∀ i, C i = zAl (fun j => !zSm2 n lo (E i) n lo (E j)) i := fun i => by rw [← hC]
  refine zG_mP (t := tX10_unlikeEnds) (ls0 := [.ref r, .int (nI s), .null, .null, .null, .null]) rfl rfl (zdnR (zdnI zdn0)) rfl ?_
  refine zG_s rfl rfl ?_
  refine zN_st2 rfl (fun _ _ _ => rfl) rfl ?_
  refine zG_s rfl rfl ?_
  refine zN_st3 rfl (fun _ _ _ => rfl) rfl ?_
  have main4 : ∀ k, k ≤ m → ∀ (S1 : zRS) (x4 x5 : Value), zRF zRnR S S1 → zok1 [.ref r, .int (nI s), .int (nI (zct C k)), .int (nI k), x4, x5] 5 = true → zGoP (d + 12) tX10_unlikeEnds 4 [.ref r, .int (nI s), .int (nI (zct C k)), .int (nI k), x4, x5] [] (zRh h r S1) (zRV (.int (nI (zct C m))) (zRX h r S zRnR (fun _ => True))) := by
    refine zdown (m) ?_ (fun k hp4 ih4 => ?_)
    · skip
      intro S1 x4 x5 hF e5
      have h13b := (hF.1 13 (by unfold zRnR; omega)).trans h13
      refine zG_s rfl rfl ?_
      refine zG_s rfl rfl ?_
      refine zN_get rfl zRh_o rfl ?_
      rw [h13b]
      refine zN_ige rfl (by omega) (by omega) (fun c1 => ?_) (fun c2 => absurd c2 (by omega))
      refine zG_s rfl rfl ?_
      -- leaf 1
      exact zG_ret rfl rfl ⟨rfl, S1, rfl, hF, trivial⟩
    · skip
      intro S1 x4 x5 hF e5
      have h13b := (hF.1 13 (by unfold zRnR; omega)).trans h13
      have hcx := hCx k
      refine zG_s rfl rfl ?_
      refine zG_s rfl rfl ?_
      refine zN_get rfl zRh_o rfl ?_
      rw [h13b]
      refine zN_ige rfl (by omega) (by omega) (fun c3 => absurd c3 (by omega)) (fun c4 => ?_)
      refine zG_s rfl rfl ?_
      refine zN_st4 rfl (fun _ _ _ => rfl) rfl ?_
      refine zG_s rfl rfl ?_
      refine zN_st5 rfl (fun _ _ _ => rfl) rfl ?_
      have main18 : ∀ i, i ≤ k → ∀ S1 : zRS, zRF zRnR S S1 → zGoP (d + 12) tX10_unlikeEnds 18 [.ref r, .int (nI s), .int (nI (zct C k)), .int (nI k), .int (nI (b2n (zAl (fun j => !zSm2 n lo (E k) n lo (E j)) i))), .int (nI i)] [] (zRh h r S1) (zRV (.int (nI (zct C m))) (zRX h r S zRnR (fun _ => True))) := by
        refine zdown (k) ?_ (fun i hp18 ih18 => ?_)
        · skip
          intro S1 hF
          refine zG_s rfl rfl ?_
          refine zG_s rfl rfl ?_
          refine zN_ige rfl (by omega) (by omega) (fun c5 => ?_) (fun c6 => absurd c6 (by omega))
          refine zG_s rfl rfl ?_
          refine zG_s rfl rfl ?_
          refine zN_ifb rfl (fun c7 => ?_) (fun c8 => ?_)
          · skip
            refine zG_s rfl rfl ?_
            refine zN_add rfl ?_
            refine zN_st2 rfl (fun _ _ _ => rfl) rfl ?_
            refine zN_inc3 rfl rfl ?_
            refine zG_s rfl rfl ?_
            -- leaf 2
            rw [zct_no (by rw [hcx]; exact c7)] at ih4
            exact ih4 _ _ _ hF rfl
          · skip
            refine zG_s rfl rfl ?_
            refine zG_s rfl rfl ?_
            refine zN_add rfl ?_
            refine zN_st2 rfl (fun _ _ _ => rfl) rfl ?_
            refine zN_inc3 rfl rfl ?_
            refine zG_s rfl rfl ?_
            -- leaf 3
            rw [zct_yes (by rw [hcx]; exact c8)] at ih4
            exact ih4 _ _ _ hF rfl
        · skip
          intro S1 hF
          have hS := hS.fr hn hF zRnR.sp
          have hE1 : ∀ i, i < m → S1.2.1 9 i = nI (E i) := fun i hi => (hF.2.1 9 i (by unfold zRnR; omega)).trans (hE i hi)
          have hek := hEn k (by omega)
          have hei := hEn i (by omega)
          have hes : zAl (fun j => !zSm2 n lo (E k) n lo (E j)) (i + 1) = (zAl (fun j => !zSm2 n lo (E k) n lo (E j)) i && !zSm2 n lo (E k) n lo (E i)) := rfl
          rw [hes] at ih18
          clear hes
          have hso := zRc_some hP hP hek hei
          have hrl := zRcn_lt (lo := lo) (lo2 := lo) (E k) (E i)
          generalize zAl (fun j => !zSm2 n lo (E k) n lo (E j)) i = bb at *
          refine zG_s rfl rfl ?_
          refine zG_s rfl rfl ?_
          refine zN_ige rfl (by omega) (by omega) (fun c9 => absurd c9 (by omega)) (fun c10 => ?_)
          refine zG_s rfl rfl ?_
          refine zN_ifb rfl (fun c11 => ?_) (fun c12 => ?_)
          · skip
            refine zG_s rfl rfl ?_
            refine zN_st4 rfl (fun _ _ _ => rfl) rfl ?_
            refine zN_inc5 rfl rfl ?_
            refine zG_s rfl rfl ?_
            -- leaf 4
            rw [c11] at ih18
            exact ih18 _ hF
          · skip
            refine zG_s rfl rfl ?_
            refine zG_s rfl rfl ?_
            refine zG_s rfl rfl ?_
            refine zN_get rfl zRh_o rfl ?_
            refine zG_s rfl rfl ?_
            refine zR_ald (k := 9) (n := 256) rfl rfl (by omega) (hE1 k (by omega)) ?_
            refine zG_s rfl rfl ?_
            refine zG_s rfl rfl ?_
            refine zN_get rfl zRh_o rfl ?_
            refine zG_s rfl rfl ?_
            refine zR_ald (k := 9) (n := 256) rfl rfl (by omega) (hE1 i (by omega)) ?_
            refine zG_cQV rfl rfl zRh_o rfl rfl (cr_renumberings hr hS hP hS hP hek hei) (fun h1 hB => ?_)
            obtain ⟨S2, rfl, hF2, hfi⟩ := hB
            have hF := hF.tr hF2
            refine zN_ne0 rfl (by omega) (fun c13 => ?_) (fun c14 => ?_)
            · skip
              refine zG_s rfl rfl ?_
              refine zN_st4 rfl (fun _ _ _ => rfl) rfl ?_
              refine zN_inc5 rfl rfl ?_
              refine zG_s rfl rfl ?_
              -- leaf 5
              rw [c12, ← hso, decide_eq_true c13] at ih18
              exact ih18 _ hF
            · skip
              refine zG_s rfl rfl ?_
              refine zG_s rfl rfl ?_
              refine zN_st4 rfl (fun _ _ _ => rfl) rfl ?_
              refine zN_inc5 rfl rfl ?_
              refine zG_s rfl rfl ?_
              -- leaf 6
              rw [c12, ← hso, decide_eq_false (by omega)] at ih18
              exact ih18 _ hF
      exact main18 0 (by omega) _ hF
  exact main4 0 (by omega) _ _ _ zRF.rf rfl
theorem zRwy.scr : ∀ k j, zRwy k j → zScr k j := fun k j h => by unfold zRwy at h; unfold zScr; omega
theorem cr_ways {d r : Nat} {h : zH} {S : zRS} {s : zST} {a b c : Int32} (hr : 2 ≤ r) (hI : zRI S s) (hW : zWT s) : zCallP (d + 14) 216 [.ref r, .int a, .int b, .int c] (zRh h r S) (zROut h r (zo_ways s a b c)) := by
  refine zG_mP (t := tX10_ways) (ls0 := [.ref r, .int a, .int b, .int c]) rfl rfl (zdnR (zdnI (zdnI (zdnI zdn0)))) rfl ?_
  refine zG_s rfl rfl ?_
  refine zG_cS1 rfl rfl cr_isSpace ?_
  refine zN_ifb rfl (fun c1 => ?_) (fun c2 => ?_)
  · skip
    refine zG_s rfl rfl ?_
    -- leaf 1
    exact zG_ret rfl rfl (zRfin (by rw [zo_ways, zb_no c1]) hI)
  · skip
    obtain ⟨i, hi, rfl⟩ := zin_of c2 (by omega)
    have hS := hI.sp i hi
    have hP := hW.1 i hi
    have hn8 := hP.1
    have hpw := zpow_le hn8
    refine zG_s rfl rfl ?_
    refine zG_cS1 rfl rfl cr_isKind ?_
    refine zN_ifb rfl (fun c3 => ?_) (fun c4 => ?_)
    · skip
      refine zG_s rfl rfl ?_
      -- leaf 2
      exact zG_ret rfl rfl (zRfin (by rw [zo_ways, zb_i hi (by omega), zb_no c3]) hI)
    · skip
      obtain ⟨k, hk, rfl⟩ := zin_of c4 (by omega)
      refine zG_s rfl rfl ?_
      refine zG_s rfl rfl ?_
      refine zG_s rfl rfl ?_
      refine zG_cS1 rfl rfl cr_inc ?_
      refine zN_ifnb rfl (fun c5 => ?_) (fun c6 => ?_)
      · skip
        obtain ⟨w, hw, rfl⟩ := zin_of c5 (by omega)
        refine zG_s rfl rfl ?_
        refine zG_s rfl rfl ?_
        refine zG_s rfl rfl ?_
        refine zG_cQN rfl rfl zRh_o rfl rfl (cr_goesWays hr hS hP hk) (fun h1 hB => ?_)
        obtain ⟨S1, rfl, hF1, h12, h13, hen⟩ := hB
        have hI := hI.fr hW hF1 zRwy.scr
        have hS := hI.sp i hi
        have hec := zW_ec (s.1 i).1 (s.1 i).2 (zTr (s.1 i).1 (s.1 i).2) k (1 <<< (s.1 i).1)
        have hon := zW_one (k := k) (lo := (s.1 i).2) (hi := zTr (s.1 i).1 (s.1 i).2) hn8
        have hend := zW_end (k := k) (lo := (s.1 i).2) (hi := zTr (s.1 i).1 (s.1 i).2) hn8 (1 <<< (s.1 i).1) (Nat.le_refl _)
        refine zG_s rfl rfl ?_
        refine zN_ne0 rfl (by omega) (fun c7 => ?_) (fun c8 => ?_)
        · skip
          refine zG_s rfl rfl ?_
          refine zG_s rfl rfl ?_
          refine zN_ine rfl (by omega) (by omega) (fun c9 => ?_) (fun c10 => ?_)
          · skip
            refine zG_s rfl rfl ?_
            refine zG_s rfl rfl ?_
            refine zN_ine rfl (by omega) (by omega) (fun c11 => ?_) (fun c12 => ?_)
            · skip
              refine zG_s rfl rfl ?_
              refine zG_s rfl rfl ?_
              refine zG_cQV rfl rfl zRh_o rfl rfl (cr_unlikeEnds hr hS hP (by omega) h13 hen hend) (fun h1 hB => ?_)
              obtain ⟨S2, rfl, hF2, _⟩ := hB
              have hI := hI.fr hW hF2 zRnR.scr
              -- leaf 3
              exact zG_ret rfl rfl (zRfin (by rw [zo_ways, zb_i hi (by omega), zb_i hk (by omega), zb_i hw (by omega), show w = 3 by omega]; rfl) hI)
            · skip
              refine zG_s rfl rfl ?_
              refine zN_get rfl zRh_o rfl ?_
              refine zG_s rfl rfl ?_
              refine zN_get rfl zRh_o rfl ?_
              rw [h13]
              refine zG_s rfl rfl ?_
              refine zN_sub rfl (by omega) ?_
              refine zR_ald (k := 9) (n := 256) rfl rfl (by omega) (hen _ (by omega)) ?_
              refine zG_s rfl rfl ?_
              -- leaf 4
              exact zG_ret rfl rfl (zRfin (by rw [zo_ways, zb_i hi (by omega), zb_i hk (by omega), zb_i hw (by omega), show w = 2 by omega]; show (nI (if 0 < _ then _ else 0), s) = _; rw [if_pos hon]) hI)
          · skip
            refine zG_s rfl rfl ?_
            refine zN_get rfl zRh_o rfl ?_
            rw [h13]
            refine zG_s rfl rfl ?_
            -- leaf 5
            exact zG_ret rfl rfl (zRfin (by rw [zo_ways, zb_i hi (by omega), zb_i hk (by omega), zb_i hw (by omega), show w = 1 by omega]; rfl) hI)
        · skip
          refine zG_s rfl rfl ?_
          refine zN_get rfl zRh_o rfl ?_
          rw [h12]
          refine zG_s rfl rfl ?_
          -- leaf 6
          exact zG_ret rfl rfl (zRfin (by rw [zo_ways, zb_i hi (by omega), zb_i hk (by omega), zb_i hw (by omega), show w = 0 by omega]; rfl) hI)
      · skip
        refine zG_s rfl rfl ?_
        -- leaf 7
        exact zG_ret rfl rfl (zRfin (by rw [zo_ways, zb_i hi (by omega), zb_i hk (by omega), zb_no c6]) hI)
