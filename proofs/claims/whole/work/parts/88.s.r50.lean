theorem cr_made0 {d r : Nat} {h : zH} {S : zRS} {s : zST} {b c e : Int32} (hr : 2 ≤ r) (hI : zRI S s) (hW : zWT s) : zCallP (d + 5) 256 [.ref r, .int (nI 0), .int b, .int c, .int e] (zRh h r S) (zROut h r (zo_made s (nI 0) b c e)) := by
  refine zG_mP (t := tX10_made) (ls0 := [.ref r, .int (nI 0), .int b, .int c, .int e, .null, .null]) rfl rfl (zdnR (zdnI (zdnI (zdnI (zdnI zdn0))))) rfl ?_
  refine zG_s rfl rfl ?_
  refine zG_s rfl rfl ?_
  refine zG_s rfl rfl ?_
  refine zG_cS1 rfl rfl cr_inc ?_
  refine zN_ifb rfl (fun q => by rw [zin_n (by decide) (by decide)] at q; cases q) (fun c2 => ?_)
  refine zG_s rfl rfl ?_
  refine zG_cS1 rfl rfl cr_isSpace ?_
  refine zN_ifb rfl (fun c3 => ?_) (fun c4 => ?_)
  · skip
    refine zG_s rfl rfl ?_
    -- leaf 1
    exact zG_ret rfl rfl (zRfin (by rw [zo_made, zb_i (show 0 < 7 by decide) (by decide), zb_no c3]) hI)
  · skip
    obtain ⟨i, hi, rfl⟩ := zin_of c4 (by omega)
    refine zG_s rfl rfl ?_
    refine zG_cS1 rfl rfl cr_isSpace ?_
    refine zN_ifb rfl (fun c5 => ?_) (fun c6 => ?_)
    · skip
      refine zG_s rfl rfl ?_
      -- leaf 2
      exact zG_ret rfl rfl (zRfin (by rw [zo_made, zb_i (show 0 < 7 by decide) (by decide), zb_i hi (by omega), zb_no c5]) hI)
    · skip
      obtain ⟨j, hj, rfl⟩ := zin_of c6 (by omega)
      refine zG_s rfl rfl ?_
      refine zG_s rfl rfl ?_
      refine zG_s rfl rfl ?_
      refine zG_cS1 rfl rfl cr_in ?_
      refine zN_ifb rfl (fun c7 => ?_) (fun q => absurd q (by decide))
      have hS := hI.sp i hi
      have hP := hW.1 i hi
      have hn := hP.1
      have hrs : zo_made s (nI 0) (nI i) c (nI j) = zMade s 0 i i j := by rw [zo_made, zb_i (show 0 < 7 by decide) (by decide), zb_i hi (by omega), zb_i hj (by omega), if_neg (by decide)]
      have hmd : zMd 0 (s.1 i).1 (s.1 i).1 = (s.1 i).1 := rfl
      have hmk : zMk 0 (s.1 i).1 (s.1 i).2 (s.1 i).1 (s.1 i).2 = ((s.1 i).1, zTr (s.1 i).1 (s.1 i).2) := rfl
      unfold zMade at hrs
      rw [hmd, hmk] at hrs
      generalize (s.1 i).1 = n at *
      generalize (s.1 i).2 = lo at *
      refine zG_s rfl rfl ?_
      refine zG_s rfl rfl ?_
      refine zG_s rfl rfl ?_
      refine zG_s rfl rfl ?_
      refine zG_cV1 rfl rfl zRh_o rfl rfl (cr_mm0 hS) ?_
      refine zN_st5 rfl (fun _ _ _ => rfl) rfl ?_
      refine zG_s rfl rfl ?_
      refine zG_s rfl rfl ?_
      refine zN_ile (y := 8) rfl (by omega) (by omega) (fun c9 => ?_) (fun c10 => ?_)
      · skip
        refine zG_s rfl rfl ?_
        refine zG_s rfl rfl ?_
        refine zN_ine (x := 0) (y := 6) rfl (by omega) (by omega) (fun c11 => ?_) (fun q => absurd q (by decide))
        refine zG_s rfl rfl ?_
        refine zG_s rfl rfl ?_
        refine zG_s rfl rfl ?_
        have hN8 : n ≤ 8 := by omega
        generalize hLL : zTr n lo = LO at *
        generalize hNN : n = N at *
        refine zG_cQN rfl rfl zRh_o rfl rfl (cr_empties hr (by omega) hN8) (fun h1 hB => ?_)
        obtain ⟨S1, rfl, hF1, hS1⟩ := hB
        have hS := hS.fr hn hF1 (fun k2 j2 g1 g2 => by unfold zRsp at g1 g2; omega)
        have hlob : ∀ x, x < N → LO x < 256 := fun x hx => by rw [← hLL]; exact hP.h
        refine zG_s rfl rfl ?_
        refine zN_st6 rfl (fun _ _ _ => rfl) rfl ?_
        have main94 : ∀ x, x ≤ N → ∀ S2 : zRS, zRF (zRrw 1 6) S1 S2 → (∀ q, q < x → S2.2.1 1 (8 * 6 + q) = nI (LO q)) → zGoP (d + 4) tX10_made 94 [.ref r, .int (nI 0), .int (nI i), .int c, .int (nI j), .int (nI N), .int (nI x)] [] (zRh h r S2) (zROut h r (zo_made s (nI 0) (nI i) c (nI j))) := by
          refine zdown (N) ?_ (fun x hp94 ih94 => ?_)
          · skip
            intro S2 hF2 hA
            refine zG_s rfl rfl ?_
            refine zG_s rfl rfl ?_
            refine zN_ige rfl (by omega) (by omega) (fun c13 => ?_) (fun c14 => absurd c14 (by omega))
            refine zG_s rfl rfl ?_
            refine zG_s rfl rfl ?_
            refine zG_cQN rfl rfl zRh_o rfl rfl (cr_turns (lo := LO) hr (by omega) hN8 ((hF2.2.1 3 6 (zRrw.m (Or.inl rfl))).trans hS1.1) (fun x hx => hA x hx) hlob) (fun h3 hB => ?_)
            obtain ⟨S3, rfl, hF3, hS3⟩ := hB
            refine zG_s rfl rfl ?_
            refine zG_s rfl rfl ?_
            refine zG_s rfl rfl ?_
            refine zG_cQN rfl rfl zRh_o rfl rfl (cr_copies hr hS3 hN8 (show j < 10 by omega) (by omega)) (fun h4 hB => ?_)
            obtain ⟨S4, rfl, hF4, hS4⟩ := hB
            have hI2 := hI.u_sp (P := fun k2 j2 => zRsp 6 k2 j2 ∨ zRsp j k2 j2) hj hS4 hW ((((hF1.mono (fun k2 j2 g => Or.inl g)).tr (hF2.mono (fun k2 j2 g => Or.inl (zRrw.sp (Or.inl rfl) _ _ g)))).tr (hF3.mono (fun k2 j2 g => Or.inl (zRrw.sp (Or.inr rfl) _ _ g)))).tr (hF4.mono (fun k2 j2 g => Or.inr g))) (fun k2 j2 g => g.elim (fun g => Or.inl (by unfold zRsp at g; unfold zScr; omega)) Or.inr)
            refine zG_s rfl rfl ?_
            -- leaf 3
            exact zG_ret rfl rfl (zRfin (by rw [hrs, if_neg (by omega)]) hI2)
          · skip
            intro S2 hF2 hA
            have hS := hS.fr hn hF2 (fun k2 j2 g1 g2 => by unfold zRsp at g1; unfold zRrw at g2; omega)
            refine zG_s rfl rfl ?_
            refine zG_s rfl rfl ?_
            refine zN_ige rfl (by omega) (by omega) (fun c15 => absurd c15 (by omega)) (fun c16 => ?_)
            refine zG_s rfl rfl ?_
            refine zN_get rfl zRh_o rfl ?_
            refine zG_s rfl rfl ?_
            refine zG_s rfl rfl ?_
            refine zN_add rfl ?_
            refine zG_s rfl rfl ?_
            refine zG_s rfl rfl ?_
            refine zG_s rfl rfl ?_
            refine zG_s rfl rfl ?_
            refine zG_s rfl rfl ?_
            have hlow := cr_low0 (d := d + 2) (r := r) (h := h) (c := c) hS hn (show x < N by omega)
            rw [show zTr N lo x = LO x from by rw [← hLL]] at hlow
            refine zG_cV1 rfl rfl zRh_o rfl rfl hlow ?_
            refine zR_ast (k := 1) (j := 8 * 6 + x) (n := 80) rfl rfl (by omega) hr ?_
            refine zN_inc6 rfl rfl ?_
            refine zG_s rfl rfl ?_
            -- leaf 4
            refine ih94 _ (hF2.a ⟨rfl, by omega, by omega⟩) (fun q hq => ?_)
            by_cases g : q = x
            · rw [g, zRa_at]
            · rw [zRa_ne (Or.inr (by omega))]; exact hA q (by omega)
        exact main94 0 (Nat.zero_le _) _ zRF.rf (fun q hq => absurd hq (Nat.not_lt_zero q))
      · skip
        refine zG_s rfl rfl ?_
        -- leaf 5
        exact zG_ret rfl rfl (zRfin (by rw [hrs, if_pos (by omega)]) hI)
theorem cr_made1 {d r : Nat} {h : zH} {S : zRS} {s : zST} {b c e : Int32} (hr : 2 ≤ r) (hI : zRI S s) (hW : zWT s) : zCallP (d + 5) 256 [.ref r, .int (nI 1), .int b, .int c, .int e] (zRh h r S) (zROut h r (zo_made s (nI 1) b c e)) := by
  refine zG_mP (t := tX10_made) (ls0 := [.ref r, .int (nI 1), .int b, .int c, .int e, .null, .null]) rfl rfl (zdnR (zdnI (zdnI (zdnI (zdnI zdn0))))) rfl ?_
  refine zG_s rfl rfl ?_
  refine zG_s rfl rfl ?_
  refine zG_s rfl rfl ?_
  refine zG_cS1 rfl rfl cr_inc ?_
  refine zN_ifb rfl (fun q => by rw [zin_n (by decide) (by decide)] at q; cases q) (fun c2 => ?_)
  refine zG_s rfl rfl ?_
  refine zG_cS1 rfl rfl cr_isSpace ?_
  refine zN_ifb rfl (fun c3 => ?_) (fun c4 => ?_)
  · skip
    refine zG_s rfl rfl ?_
    -- leaf 1
    exact zG_ret rfl rfl (zRfin (by rw [zo_made, zb_i (show 1 < 7 by decide) (by decide), zb_no c3]) hI)
  · skip
    obtain ⟨i, hi, rfl⟩ := zin_of c4 (by omega)
    refine zG_s rfl rfl ?_
    refine zG_cS1 rfl rfl cr_isSpace ?_
    refine zN_ifb rfl (fun c5 => ?_) (fun c6 => ?_)
    · skip
      refine zG_s rfl rfl ?_
      -- leaf 2
      exact zG_ret rfl rfl (zRfin (by rw [zo_made, zb_i (show 1 < 7 by decide) (by decide), zb_i hi (by omega), zb_no c5]) hI)
    · skip
      obtain ⟨j, hj, rfl⟩ := zin_of c6 (by omega)
      refine zG_s rfl rfl ?_
      refine zG_s rfl rfl ?_
      refine zG_s rfl rfl ?_
      refine zG_cS1 rfl rfl cr_in ?_
      refine zN_ifb rfl (fun q => absurd q (by decide)) (fun c8 => ?_)
      refine zG_s rfl rfl ?_
      refine zG_cS1 rfl rfl cr_isSpace ?_
      refine zN_ifnb rfl (fun c9 => ?_) (fun c10 => ?_)
      · skip
        obtain ⟨k, hk, rfl⟩ := zin_of c9 (by omega)
        have hT := hI.sp k hk
        have hP2 := hW.1 k hk
        have hn2 := hP2.1
        have hS := hI.sp i hi
        have hP := hW.1 i hi
        have hn := hP.1
        have hrs : zo_made s (nI 1) (nI i) (nI k) (nI j) = zMade s 1 i k j := by rw [zo_made, zb_i (show 1 < 7 by decide) (by decide), zb_i hi (by omega), zb_i hj (by omega), if_pos (by decide), zb_i hk (by omega)]
        have hmd : zMd 1 (s.1 i).1 (s.1 k).1 = (s.1 i).1 + (s.1 k).1 := rfl
        have hmk : zMk 1 (s.1 i).1 (s.1 i).2 (s.1 k).1 (s.1 k).2 = ((s.1 i).1 + (s.1 k).1, zSumL (s.1 i).1 (s.1 i).2 (s.1 k).2 0) := rfl
        unfold zMade at hrs
        rw [hmd, hmk] at hrs
        generalize (s.1 i).1 = n at *
        generalize (s.1 i).2 = lo at *
        generalize (s.1 k).1 = n2 at *
        generalize (s.1 k).2 = lo2 at *
        refine zG_s rfl rfl ?_
        refine zG_s rfl rfl ?_
        refine zG_s rfl rfl ?_
        refine zG_s rfl rfl ?_
        refine zG_cV1 rfl rfl zRh_o rfl rfl (cr_mm1 hS hT) ?_
        refine zN_st5 rfl (fun _ _ _ => rfl) rfl ?_
        refine zG_s rfl rfl ?_
        refine zG_s rfl rfl ?_
        refine zN_ile (y := 8) rfl (by omega) (by omega) (fun c11 => ?_) (fun c12 => ?_)
        · skip
          refine zG_s rfl rfl ?_
          refine zG_s rfl rfl ?_
          refine zN_ine (x := 1) (y := 6) rfl (by omega) (by omega) (fun c13 => ?_) (fun q => absurd q (by decide))
          refine zG_s rfl rfl ?_
          refine zG_s rfl rfl ?_
          refine zG_s rfl rfl ?_
          have hN8 : n + n2 ≤ 8 := by omega
          generalize hLL : zSumL n lo lo2 0 = LO at *
          generalize hNN : n + n2 = N at *
          refine zG_cQN rfl rfl zRh_o rfl rfl (cr_empties hr (by omega) hN8) (fun h1 hB => ?_)
          obtain ⟨S1, rfl, hF1, hS1⟩ := hB
          have hS := hS.fr hn hF1 (fun k2 j2 g1 g2 => by unfold zRsp at g1 g2; omega)
          have hlob : ∀ x, x < N → LO x < 256 := fun x hx => by rw [← hLL]; exact (zPre.sum (jn := false) hP hP2 (by omega)).b (by omega)
          have hT := hT.fr hn2 hF1 (fun k2 j2 g1 g2 => by unfold zRsp at g1 g2; omega)
          refine zG_s rfl rfl ?_
          refine zN_st6 rfl (fun _ _ _ => rfl) rfl ?_
          have main94 : ∀ x, x ≤ N → ∀ S2 : zRS, zRF (zRrw 1 6) S1 S2 → (∀ q, q < x → S2.2.1 1 (8 * 6 + q) = nI (LO q)) → zGoP (d + 4) tX10_made 94 [.ref r, .int (nI 1), .int (nI i), .int (nI k), .int (nI j), .int (nI N), .int (nI x)] [] (zRh h r S2) (zROut h r (zo_made s (nI 1) (nI i) (nI k) (nI j))) := by
            refine zdown (N) ?_ (fun x hp94 ih94 => ?_)
            · skip
              intro S2 hF2 hA
              refine zG_s rfl rfl ?_
              refine zG_s rfl rfl ?_
              refine zN_ige rfl (by omega) (by omega) (fun c15 => ?_) (fun c16 => absurd c16 (by omega))
              refine zG_s rfl rfl ?_
              refine zG_s rfl rfl ?_
              refine zG_cQN rfl rfl zRh_o rfl rfl (cr_turns (lo := LO) hr (by omega) hN8 ((hF2.2.1 3 6 (zRrw.m (Or.inl rfl))).trans hS1.1) (fun x hx => hA x hx) hlob) (fun h3 hB => ?_)
              obtain ⟨S3, rfl, hF3, hS3⟩ := hB
              refine zG_s rfl rfl ?_
              refine zG_s rfl rfl ?_
              refine zG_s rfl rfl ?_
              refine zG_cQN rfl rfl zRh_o rfl rfl (cr_copies hr hS3 hN8 (show j < 10 by omega) (by omega)) (fun h4 hB => ?_)
              obtain ⟨S4, rfl, hF4, hS4⟩ := hB
              have hI2 := hI.u_sp (P := fun k2 j2 => zRsp 6 k2 j2 ∨ zRsp j k2 j2) hj hS4 hW ((((hF1.mono (fun k2 j2 g => Or.inl g)).tr (hF2.mono (fun k2 j2 g => Or.inl (zRrw.sp (Or.inl rfl) _ _ g)))).tr (hF3.mono (fun k2 j2 g => Or.inl (zRrw.sp (Or.inr rfl) _ _ g)))).tr (hF4.mono (fun k2 j2 g => Or.inr g))) (fun k2 j2 g => g.elim (fun g => Or.inl (by unfold zRsp at g; unfold zScr; omega)) Or.inr)
              refine zG_s rfl rfl ?_
              -- leaf 3
              exact zG_ret rfl rfl (zRfin (by rw [hrs, if_neg (by omega)]) hI2)
            · skip
              intro S2 hF2 hA
              have hS := hS.fr hn hF2 (fun k2 j2 g1 g2 => by unfold zRsp at g1; unfold zRrw at g2; omega)
              have hT := hT.fr hn2 hF2 (fun k2 j2 g1 g2 => by unfold zRsp at g1; unfold zRrw at g2; omega)
              refine zG_s rfl rfl ?_
              refine zG_s rfl rfl ?_
              refine zN_ige rfl (by omega) (by omega) (fun c17 => absurd c17 (by omega)) (fun c18 => ?_)
              refine zG_s rfl rfl ?_
              refine zN_get rfl zRh_o rfl ?_
              refine zG_s rfl rfl ?_
              refine zG_s rfl rfl ?_
              refine zN_add rfl ?_
              refine zG_s rfl rfl ?_
              refine zG_s rfl rfl ?_
              refine zG_s rfl rfl ?_
              refine zG_s rfl rfl ?_
              refine zG_s rfl rfl ?_
              have hlow := cr_low1 (d := d + 2) (r := r) (h := h) hS hn hT hn2 (show x < n + n2 by omega)
              rw [show zSumL n lo lo2 0 x = LO x from by rw [← hLL]] at hlow
              refine zG_cV1 rfl rfl zRh_o rfl rfl hlow ?_
              refine zR_ast (k := 1) (j := 8 * 6 + x) (n := 80) rfl rfl (by omega) hr ?_
              refine zN_inc6 rfl rfl ?_
              refine zG_s rfl rfl ?_
              -- leaf 4
              refine ih94 _ (hF2.a ⟨rfl, by omega, by omega⟩) (fun q hq => ?_)
              by_cases g : q = x
              · rw [g, zRa_at]
              · rw [zRa_ne (Or.inr (by omega))]; exact hA q (by omega)
          exact main94 0 (Nat.zero_le _) _ zRF.rf (fun q hq => absurd hq (Nat.not_lt_zero q))
        · skip
          refine zG_s rfl rfl ?_
          -- leaf 5
          exact zG_ret rfl rfl (zRfin (by rw [hrs, if_pos (by omega)]) hI)
      · skip
        refine zG_s rfl rfl ?_
        -- leaf 6
        exact zG_ret rfl rfl (zRfin (by rw [zo_made, zb_i (show 1 < 7 by decide) (by decide), zb_i hi (by omega), zb_i hj (by omega), if_pos (by decide), zb_no c10]) hI)
theorem cr_made2 {d r : Nat} {h : zH} {S : zRS} {s : zST} {b c e : Int32} (hr : 2 ≤ r) (hI : zRI S s) (hW : zWT s) : zCallP (d + 5) 256 [.ref r, .int (nI 2), .int b, .int c, .int e] (zRh h r S) (zROut h r (zo_made s (nI 2) b c e)) := by
  refine zG_mP (t := tX10_made) (ls0 := [.ref r, .int (nI 2), .int b, .int c, .int e, .null, .null]) rfl rfl (zdnR (zdnI (zdnI (zdnI (zdnI zdn0))))) rfl ?_
  refine zG_s rfl rfl ?_
  refine zG_s rfl rfl ?_
  refine zG_s rfl rfl ?_
  refine zG_cS1 rfl rfl cr_inc ?_
  refine zN_ifb rfl (fun q => by rw [zin_n (by decide) (by decide)] at q; cases q) (fun c2 => ?_)
  refine zG_s rfl rfl ?_
  refine zG_cS1 rfl rfl cr_isSpace ?_
  refine zN_ifb rfl (fun c3 => ?_) (fun c4 => ?_)
  · skip
    refine zG_s rfl rfl ?_
    -- leaf 1
    exact zG_ret rfl rfl (zRfin (by rw [zo_made, zb_i (show 2 < 7 by decide) (by decide), zb_no c3]) hI)
  · skip
    obtain ⟨i, hi, rfl⟩ := zin_of c4 (by omega)
    refine zG_s rfl rfl ?_
    refine zG_cS1 rfl rfl cr_isSpace ?_
    refine zN_ifb rfl (fun c5 => ?_) (fun c6 => ?_)
    · skip
      refine zG_s rfl rfl ?_
      -- leaf 2
      exact zG_ret rfl rfl (zRfin (by rw [zo_made, zb_i (show 2 < 7 by decide) (by decide), zb_i hi (by omega), zb_no c5]) hI)
    · skip
      obtain ⟨j, hj, rfl⟩ := zin_of c6 (by omega)
      refine zG_s rfl rfl ?_
      refine zG_s rfl rfl ?_
      refine zG_s rfl rfl ?_
      refine zG_cS1 rfl rfl cr_in ?_
      refine zN_ifb rfl (fun q => absurd q (by decide)) (fun c8 => ?_)
      refine zG_s rfl rfl ?_
      refine zG_cS1 rfl rfl cr_isSpace ?_
      refine zN_ifnb rfl (fun c9 => ?_) (fun c10 => ?_)
      · skip
        obtain ⟨k, hk, rfl⟩ := zin_of c9 (by omega)
        have hT := hI.sp k hk
        have hP2 := hW.1 k hk
        have hn2 := hP2.1
        have hS := hI.sp i hi
        have hP := hW.1 i hi
        have hn := hP.1
        have hrs : zo_made s (nI 2) (nI i) (nI k) (nI j) = zMade s 2 i k j := by rw [zo_made, zb_i (show 2 < 7 by decide) (by decide), zb_i hi (by omega), zb_i hj (by omega), if_pos (by decide), zb_i hk (by omega)]
        have hmd : zMd 2 (s.1 i).1 (s.1 k).1 = (s.1 i).1 + (s.1 k).1 := rfl
        have hmk : zMk 2 (s.1 i).1 (s.1 i).2 (s.1 k).1 (s.1 k).2 = ((s.1 i).1 + (s.1 k).1, zSumL (s.1 i).1 (s.1 i).2 (s.1 k).2 (1 <<< (s.1 i).1 - 1)) := rfl
        unfold zMade at hrs
        rw [hmd, hmk] at hrs
        generalize (s.1 i).1 = n at *
        generalize (s.1 i).2 = lo at *
        generalize (s.1 k).1 = n2 at *
        generalize (s.1 k).2 = lo2 at *
        refine zG_s rfl rfl ?_
        refine zG_s rfl rfl ?_
        refine zG_s rfl rfl ?_
        refine zG_s rfl rfl ?_
        refine zG_cV1 rfl rfl zRh_o rfl rfl (cr_mm2 hS hT) ?_
        refine zN_st5 rfl (fun _ _ _ => rfl) rfl ?_
        refine zG_s rfl rfl ?_
        refine zG_s rfl rfl ?_
        refine zN_ile (y := 8) rfl (by omega) (by omega) (fun c11 => ?_) (fun c12 => ?_)
        · skip
          refine zG_s rfl rfl ?_
          refine zG_s rfl rfl ?_
          refine zN_ine (x := 2) (y := 6) rfl (by omega) (by omega) (fun c13 => ?_) (fun q => absurd q (by decide))
          refine zG_s rfl rfl ?_
          refine zG_s rfl rfl ?_
          refine zG_s rfl rfl ?_
          have hN8 : n + n2 ≤ 8 := by omega
          generalize hLL : zSumL n lo lo2 (1 <<< n - 1) = LO at *
          generalize hNN : n + n2 = N at *
          refine zG_cQN rfl rfl zRh_o rfl rfl (cr_empties hr (by omega) hN8) (fun h1 hB => ?_)
          obtain ⟨S1, rfl, hF1, hS1⟩ := hB
          have hS := hS.fr hn hF1 (fun k2 j2 g1 g2 => by unfold zRsp at g1 g2; omega)
          have hlob : ∀ x, x < N → LO x < 256 := fun x hx => by rw [← hLL]; exact (zPre.sum (jn := true) hP hP2 (by omega)).b (by omega)
          have hT := hT.fr hn2 hF1 (fun k2 j2 g1 g2 => by unfold zRsp at g1 g2; omega)
          refine zG_s rfl rfl ?_
          refine zN_st6 rfl (fun _ _ _ => rfl) rfl ?_
          have main94 : ∀ x, x ≤ N → ∀ S2 : zRS, zRF (zRrw 1 6) S1 S2 → (∀ q, q < x → S2.2.1 1 (8 * 6 + q) = nI (LO q)) → zGoP (d + 4) tX10_made 94 [.ref r, .int (nI 2), .int (nI i), .int (nI k), .int (nI j), .int (nI N), .int (nI x)] [] (zRh h r S2) (zROut h r (zo_made s (nI 2) (nI i) (nI k) (nI j))) := by
            refine zdown (N) ?_ (fun x hp94 ih94 => ?_)
            · skip
              intro S2 hF2 hA
              refine zG_s rfl rfl ?_
              refine zG_s rfl rfl ?_
              refine zN_ige rfl (by omega) (by omega) (fun c15 => ?_) (fun c16 => absurd c16 (by omega))
              refine zG_s rfl rfl ?_
              refine zG_s rfl rfl ?_
              refine zG_cQN rfl rfl zRh_o rfl rfl (cr_turns (lo := LO) hr (by omega) hN8 ((hF2.2.1 3 6 (zRrw.m (Or.inl rfl))).trans hS1.1) (fun x hx => hA x hx) hlob) (fun h3 hB => ?_)
              obtain ⟨S3, rfl, hF3, hS3⟩ := hB
              refine zG_s rfl rfl ?_
              refine zG_s rfl rfl ?_
              refine zG_s rfl rfl ?_
              refine zG_cQN rfl rfl zRh_o rfl rfl (cr_copies hr hS3 hN8 (show j < 10 by omega) (by omega)) (fun h4 hB => ?_)
              obtain ⟨S4, rfl, hF4, hS4⟩ := hB
              have hI2 := hI.u_sp (P := fun k2 j2 => zRsp 6 k2 j2 ∨ zRsp j k2 j2) hj hS4 hW ((((hF1.mono (fun k2 j2 g => Or.inl g)).tr (hF2.mono (fun k2 j2 g => Or.inl (zRrw.sp (Or.inl rfl) _ _ g)))).tr (hF3.mono (fun k2 j2 g => Or.inl (zRrw.sp (Or.inr rfl) _ _ g)))).tr (hF4.mono (fun k2 j2 g => Or.inr g))) (fun k2 j2 g => g.elim (fun g => Or.inl (by unfold zRsp at g; unfold zScr; omega)) Or.inr)
              refine zG_s rfl rfl ?_
              -- leaf 3
              exact zG_ret rfl rfl (zRfin (by rw [hrs, if_neg (by omega)]) hI2)
            · skip
              intro S2 hF2 hA
              have hS := hS.fr hn hF2 (fun k2 j2 g1 g2 => by unfold zRsp at g1; unfold zRrw at g2; omega)
              have hT := hT.fr hn2 hF2 (fun k2 j2 g1 g2 => by unfold zRsp at g1; unfold zRrw at g2; omega)
              refine zG_s rfl rfl ?_
              refine zG_s rfl rfl ?_
              refine zN_ige rfl (by omega) (by omega) (fun c17 => absurd c17 (by omega)) (fun c18 => ?_)
              refine zG_s rfl rfl ?_
              refine zN_get rfl zRh_o rfl ?_
              refine zG_s rfl rfl ?_
              refine zG_s rfl rfl ?_
              refine zN_add rfl ?_
              refine zG_s rfl rfl ?_
              refine zG_s rfl rfl ?_
              refine zG_s rfl rfl ?_
              refine zG_s rfl rfl ?_
              refine zG_s rfl rfl ?_
              have hlow := cr_low2 (d := d + 2) (r := r) (h := h) hS hn hT hn2 (show x < n + n2 by omega)
              rw [show zSumL n lo lo2 (1 <<< n - 1) x = LO x from by rw [← hLL]] at hlow
              refine zG_cV1 rfl rfl zRh_o rfl rfl hlow ?_
              refine zR_ast (k := 1) (j := 8 * 6 + x) (n := 80) rfl rfl (by omega) hr ?_
              refine zN_inc6 rfl rfl ?_
              refine zG_s rfl rfl ?_
              -- leaf 4
              refine ih94 _ (hF2.a ⟨rfl, by omega, by omega⟩) (fun q hq => ?_)
              by_cases g : q = x
              · rw [g, zRa_at]
              · rw [zRa_ne (Or.inr (by omega))]; exact hA q (by omega)
          exact main94 0 (Nat.zero_le _) _ zRF.rf (fun q hq => absurd hq (Nat.not_lt_zero q))
        · skip
          refine zG_s rfl rfl ?_
          -- leaf 5
          exact zG_ret rfl rfl (zRfin (by rw [hrs, if_pos (by omega)]) hI)
      · skip
        refine zG_s rfl rfl ?_
        -- leaf 6
        exact zG_ret rfl rfl (zRfin (by rw [zo_made, zb_i (show 2 < 7 by decide) (by decide), zb_i hi (by omega), zb_i hj (by omega), if_pos (by decide), zb_no c10]) hI)
theorem cr_made3 {d r : Nat} {h : zH} {S : zRS} {s : zST} {b c e : Int32} (hr : 2 ≤ r) (hI : zRI S s) (hW : zWT s) : zCallP (d + 5) 256 [.ref r, .int (nI 3), .int b, .int c, .int e] (zRh h r S) (zROut h r (zo_made s (nI 3) b c e)) := by
  refine zG_mP (t := tX10_made) (ls0 := [.ref r, .int (nI 3), .int b, .int c, .int e, .null, .null]) rfl rfl (zdnR (zdnI (zdnI (zdnI (zdnI zdn0))))) rfl ?_
  refine zG_s rfl rfl ?_
  refine zG_s rfl rfl ?_
  refine zG_s rfl rfl ?_
  refine zG_cS1 rfl rfl cr_inc ?_
  refine zN_ifb rfl (fun q => by rw [zin_n (by decide) (by decide)] at q; cases q) (fun c2 => ?_)
  refine zG_s rfl rfl ?_
  refine zG_cS1 rfl rfl cr_isSpace ?_
  refine zN_ifb rfl (fun c3 => ?_) (fun c4 => ?_)
  · skip
    refine zG_s rfl rfl ?_
    -- leaf 1
    exact zG_ret rfl rfl (zRfin (by rw [zo_made, zb_i (show 3 < 7 by decide) (by decide), zb_no c3]) hI)
  · skip
    obtain ⟨i, hi, rfl⟩ := zin_of c4 (by omega)
    refine zG_s rfl rfl ?_
    refine zG_cS1 rfl rfl cr_isSpace ?_
    refine zN_ifb rfl (fun c5 => ?_) (fun c6 => ?_)
    · skip
      refine zG_s rfl rfl ?_
      -- leaf 2
      exact zG_ret rfl rfl (zRfin (by rw [zo_made, zb_i (show 3 < 7 by decide) (by decide), zb_i hi (by omega), zb_no c5]) hI)
    · skip
      obtain ⟨j, hj, rfl⟩ := zin_of c6 (by omega)
      refine zG_s rfl rfl ?_
      refine zG_s rfl rfl ?_
      refine zG_s rfl rfl ?_
      refine zG_cS1 rfl rfl cr_in ?_
      refine zN_ifb rfl (fun q => absurd q (by decide)) (fun c8 => ?_)
      refine zG_s rfl rfl ?_
      refine zG_cS1 rfl rfl cr_isSpace ?_
      refine zN_ifnb rfl (fun c9 => ?_) (fun c10 => ?_)
      · skip
        obtain ⟨k, hk, rfl⟩ := zin_of c9 (by omega)
        have hT := hI.sp k hk
        have hP2 := hW.1 k hk
        have hn2 := hP2.1
        have hS := hI.sp i hi
        have hP := hW.1 i hi
        have hn := hP.1
        have hrs : zo_made s (nI 3) (nI i) (nI k) (nI j) = zMade s 3 i k j := by rw [zo_made, zb_i (show 3 < 7 by decide) (by decide), zb_i hi (by omega), zb_i hj (by omega), if_pos (by decide), zb_i hk (by omega)]
        have hmd : zMd 3 (s.1 i).1 (s.1 k).1 = (s.1 i).1 * (s.1 k).1 := rfl
        have hmk : zMk 3 (s.1 i).1 (s.1 i).2 (s.1 k).1 (s.1 k).2 = ((s.1 i).1 * (s.1 k).1, zProL (s.1 i).1 (s.1 k).1 (s.1 i).2 (s.1 k).2) := rfl
        unfold zMade at hrs
        rw [hmd, hmk] at hrs
        generalize (s.1 i).1 = n at *
        generalize (s.1 i).2 = lo at *
        generalize (s.1 k).1 = n2 at *
        generalize (s.1 k).2 = lo2 at *
        have hmul : n * n2 ≤ 8 * 8 := Nat.mul_le_mul hn hn2
        refine zG_s rfl rfl ?_
        refine zG_s rfl rfl ?_
        refine zG_s rfl rfl ?_
        refine zG_s rfl rfl ?_
        refine zG_cV1 rfl rfl zRh_o rfl rfl (cr_mm3 hS hT) ?_
        refine zN_st5 rfl (fun _ _ _ => rfl) rfl ?_
        refine zG_s rfl rfl ?_
        refine zG_s rfl rfl ?_
        refine zN_ile (y := 8) rfl (by omega) (by omega) (fun c11 => ?_) (fun c12 => ?_)
        · skip
          refine zG_s rfl rfl ?_
          refine zG_s rfl rfl ?_
          refine zN_ine (x := 3) (y := 6) rfl (by omega) (by omega) (fun c13 => ?_) (fun q => absurd q (by decide))
          refine zG_s rfl rfl ?_
          refine zG_s rfl rfl ?_
          refine zG_s rfl rfl ?_
          have hN8 : n * n2 ≤ 8 := by omega
          generalize hLL : zProL n n2 lo lo2 = LO at *
          generalize hNN : n * n2 = N at *
          refine zG_cQN rfl rfl zRh_o rfl rfl (cr_empties hr (by omega) hN8) (fun h1 hB => ?_)
          obtain ⟨S1, rfl, hF1, hS1⟩ := hB
          have hS := hS.fr hn hF1 (fun k2 j2 g1 g2 => by unfold zRsp at g1 g2; omega)
          have hlob : ∀ x, x < N → LO x < 256 := fun x hx => by rw [← hLL]; exact (zPre.prod hP hP2 (by omega)).b (by omega)
          have hT := hT.fr hn2 hF1 (fun k2 j2 g1 g2 => by unfold zRsp at g1 g2; omega)
          refine zG_s rfl rfl ?_
          refine zN_st6 rfl (fun _ _ _ => rfl) rfl ?_
          have main94 : ∀ x, x ≤ N → ∀ S2 : zRS, zRF (zRrw 1 6) S1 S2 → (∀ q, q < x → S2.2.1 1 (8 * 6 + q) = nI (LO q)) → zGoP (d + 4) tX10_made 94 [.ref r, .int (nI 3), .int (nI i), .int (nI k), .int (nI j), .int (nI N), .int (nI x)] [] (zRh h r S2) (zROut h r (zo_made s (nI 3) (nI i) (nI k) (nI j))) := by
            refine zdown (N) ?_ (fun x hp94 ih94 => ?_)
            · skip
              intro S2 hF2 hA
              refine zG_s rfl rfl ?_
              refine zG_s rfl rfl ?_
              refine zN_ige rfl (by omega) (by omega) (fun c15 => ?_) (fun c16 => absurd c16 (by omega))
              refine zG_s rfl rfl ?_
              refine zG_s rfl rfl ?_
              refine zG_cQN rfl rfl zRh_o rfl rfl (cr_turns (lo := LO) hr (by omega) hN8 ((hF2.2.1 3 6 (zRrw.m (Or.inl rfl))).trans hS1.1) (fun x hx => hA x hx) hlob) (fun h3 hB => ?_)
              obtain ⟨S3, rfl, hF3, hS3⟩ := hB
              refine zG_s rfl rfl ?_
              refine zG_s rfl rfl ?_
              refine zG_s rfl rfl ?_
              refine zG_cQN rfl rfl zRh_o rfl rfl (cr_copies hr hS3 hN8 (show j < 10 by omega) (by omega)) (fun h4 hB => ?_)
              obtain ⟨S4, rfl, hF4, hS4⟩ := hB
              have hI2 := hI.u_sp (P := fun k2 j2 => zRsp 6 k2 j2 ∨ zRsp j k2 j2) hj hS4 hW ((((hF1.mono (fun k2 j2 g => Or.inl g)).tr (hF2.mono (fun k2 j2 g => Or.inl (zRrw.sp (Or.inl rfl) _ _ g)))).tr (hF3.mono (fun k2 j2 g => Or.inl (zRrw.sp (Or.inr rfl) _ _ g)))).tr (hF4.mono (fun k2 j2 g => Or.inr g))) (fun k2 j2 g => g.elim (fun g => Or.inl (by unfold zRsp at g; unfold zScr; omega)) Or.inr)
              refine zG_s rfl rfl ?_
              -- leaf 3
              exact zG_ret rfl rfl (zRfin (by rw [hrs, if_neg (by omega)]) hI2)
            · skip
              intro S2 hF2 hA
              have hS := hS.fr hn hF2 (fun k2 j2 g1 g2 => by unfold zRsp at g1; unfold zRrw at g2; omega)
              have hT := hT.fr hn2 hF2 (fun k2 j2 g1 g2 => by unfold zRsp at g1; unfold zRrw at g2; omega)
              refine zG_s rfl rfl ?_
              refine zG_s rfl rfl ?_
              refine zN_ige rfl (by omega) (by omega) (fun c17 => absurd c17 (by omega)) (fun c18 => ?_)
              refine zG_s rfl rfl ?_
              refine zN_get rfl zRh_o rfl ?_
              refine zG_s rfl rfl ?_
              refine zG_s rfl rfl ?_
              refine zN_add rfl ?_
              refine zG_s rfl rfl ?_
              refine zG_s rfl rfl ?_
              refine zG_s rfl rfl ?_
              refine zG_s rfl rfl ?_
              refine zG_s rfl rfl ?_
              have hlow := cr_low3 (d := d + 2) (r := r) (h := h) hS hn hT hn2 hP hP2 (show x < n * n2 by omega) (by omega)
              rw [show zProL n n2 lo lo2 x = LO x from by rw [← hLL]] at hlow
              refine zG_cV1 rfl rfl zRh_o rfl rfl hlow ?_
              refine zR_ast (k := 1) (j := 8 * 6 + x) (n := 80) rfl rfl (by omega) hr ?_
              refine zN_inc6 rfl rfl ?_
              refine zG_s rfl rfl ?_
              -- leaf 4
              refine ih94 _ (hF2.a ⟨rfl, by omega, by omega⟩) (fun q hq => ?_)
              by_cases g : q = x
              · rw [g, zRa_at]
              · rw [zRa_ne (Or.inr (by omega))]; exact hA q (by omega)
          exact main94 0 (Nat.zero_le _) _ zRF.rf (fun q hq => absurd hq (Nat.not_lt_zero q))
        · skip
          refine zG_s rfl rfl ?_
          -- leaf 5
          exact zG_ret rfl rfl (zRfin (by rw [hrs, if_pos (by omega)]) hI)
      · skip
        refine zG_s rfl rfl ?_
        -- leaf 6
        exact zG_ret rfl rfl (zRfin (by rw [zo_made, zb_i (show 3 < 7 by decide) (by decide), zb_i hi (by omega), zb_i hj (by omega), if_pos (by decide), zb_no c10]) hI)
theorem cr_made4 {d r : Nat} {h : zH} {S : zRS} {s : zST} {b c e : Int32} (hr : 2 ≤ r) (hI : zRI S s) (hW : zWT s) : zCallP (d + 5) 256 [.ref r, .int (nI 4), .int b, .int c, .int e] (zRh h r S) (zROut h r (zo_made s (nI 4) b c e)) := by
  refine zG_mP (t := tX10_made) (ls0 := [.ref r, .int (nI 4), .int b, .int c, .int e, .null, .null]) rfl rfl (zdnR (zdnI (zdnI (zdnI (zdnI zdn0))))) rfl ?_
  refine zG_s rfl rfl ?_
  refine zG_s rfl rfl ?_
  refine zG_s rfl rfl ?_
  refine zG_cS1 rfl rfl cr_inc ?_
  refine zN_ifb rfl (fun q => by rw [zin_n (by decide) (by decide)] at q; cases q) (fun c2 => ?_)
  refine zG_s rfl rfl ?_
  refine zG_cS1 rfl rfl cr_isSpace ?_
  refine zN_ifb rfl (fun c3 => ?_) (fun c4 => ?_)
  · skip
    refine zG_s rfl rfl ?_
    -- leaf 1
    exact zG_ret rfl rfl (zRfin (by rw [zo_made, zb_i (show 4 < 7 by decide) (by decide), zb_no c3]) hI)
  · skip
    obtain ⟨i, hi, rfl⟩ := zin_of c4 (by omega)
    refine zG_s rfl rfl ?_
    refine zG_cS1 rfl rfl cr_isSpace ?_
    refine zN_ifb rfl (fun c5 => ?_) (fun c6 => ?_)
    · skip
      refine zG_s rfl rfl ?_
      -- leaf 2
      exact zG_ret rfl rfl (zRfin (by rw [zo_made, zb_i (show 4 < 7 by decide) (by decide), zb_i hi (by omega), zb_no c5]) hI)
    · skip
      obtain ⟨j, hj, rfl⟩ := zin_of c6 (by omega)
      refine zG_s rfl rfl ?_
      refine zG_s rfl rfl ?_
      refine zG_s rfl rfl ?_
      refine zG_cS1 rfl rfl cr_in ?_
      refine zN_ifb rfl (fun c7 => ?_) (fun q => absurd q (by decide))
      have hS := hI.sp i hi
      have hP := hW.1 i hi
      have hn := hP.1
      have hrs : zo_made s (nI 4) (nI i) c (nI j) = zMade s 4 i i j := by rw [zo_made, zb_i (show 4 < 7 by decide) (by decide), zb_i hi (by omega), zb_i hj (by omega), if_neg (by decide)]
      have hmd : zMd 4 (s.1 i).1 (s.1 i).1 = (s.1 i).1 + 1 := rfl
      have hmk : zMk 4 (s.1 i).1 (s.1 i).2 (s.1 i).1 (s.1 i).2 = ((s.1 i).1 + 1, zTopL (s.1 i).1 (s.1 i).2) := rfl
      unfold zMade at hrs
      rw [hmd, hmk] at hrs
      generalize (s.1 i).1 = n at *
      generalize (s.1 i).2 = lo at *
      refine zG_s rfl rfl ?_
      refine zG_s rfl rfl ?_
      refine zG_s rfl rfl ?_
      refine zG_s rfl rfl ?_
      refine zG_cV1 rfl rfl zRh_o rfl rfl (cr_mm4 hS) ?_
      refine zN_st5 rfl (fun _ _ _ => rfl) rfl ?_
      refine zG_s rfl rfl ?_
      refine zG_s rfl rfl ?_
      refine zN_ile (y := 8) rfl (by omega) (by omega) (fun c9 => ?_) (fun c10 => ?_)
      · skip
        refine zG_s rfl rfl ?_
        refine zG_s rfl rfl ?_
        refine zN_ine (x := 4) (y := 6) rfl (by omega) (by omega) (fun c11 => ?_) (fun q => absurd q (by decide))
        refine zG_s rfl rfl ?_
        refine zG_s rfl rfl ?_
        refine zG_s rfl rfl ?_
        have hN8 : n + 1 ≤ 8 := by omega
        generalize hLL : zTopL n lo = LO at *
        generalize hNN : n + 1 = N at *
        refine zG_cQN rfl rfl zRh_o rfl rfl (cr_empties hr (by omega) hN8) (fun h1 hB => ?_)
        obtain ⟨S1, rfl, hF1, hS1⟩ := hB
        have hS := hS.fr hn hF1 (fun k2 j2 g1 g2 => by unfold zRsp at g1 g2; omega)
        have hlob : ∀ x, x < N → LO x < 256 := fun x hx => by rw [← hLL]; exact (hP.top (k := 1) (by omega)).b (by omega)
        refine zG_s rfl rfl ?_
        refine zN_st6 rfl (fun _ _ _ => rfl) rfl ?_
        have main94 : ∀ x, x ≤ N → ∀ S2 : zRS, zRF (zRrw 1 6) S1 S2 → (∀ q, q < x → S2.2.1 1 (8 * 6 + q) = nI (LO q)) → zGoP (d + 4) tX10_made 94 [.ref r, .int (nI 4), .int (nI i), .int c, .int (nI j), .int (nI N), .int (nI x)] [] (zRh h r S2) (zROut h r (zo_made s (nI 4) (nI i) c (nI j))) := by
          refine zdown (N) ?_ (fun x hp94 ih94 => ?_)
          · skip
            intro S2 hF2 hA
            refine zG_s rfl rfl ?_
            refine zG_s rfl rfl ?_
            refine zN_ige rfl (by omega) (by omega) (fun c13 => ?_) (fun c14 => absurd c14 (by omega))
            refine zG_s rfl rfl ?_
            refine zG_s rfl rfl ?_
            refine zG_cQN rfl rfl zRh_o rfl rfl (cr_turns (lo := LO) hr (by omega) hN8 ((hF2.2.1 3 6 (zRrw.m (Or.inl rfl))).trans hS1.1) (fun x hx => hA x hx) hlob) (fun h3 hB => ?_)
            obtain ⟨S3, rfl, hF3, hS3⟩ := hB
            refine zG_s rfl rfl ?_
            refine zG_s rfl rfl ?_
            refine zG_s rfl rfl ?_
            refine zG_cQN rfl rfl zRh_o rfl rfl (cr_copies hr hS3 hN8 (show j < 10 by omega) (by omega)) (fun h4 hB => ?_)
            obtain ⟨S4, rfl, hF4, hS4⟩ := hB
            have hI2 := hI.u_sp (P := fun k2 j2 => zRsp 6 k2 j2 ∨ zRsp j k2 j2) hj hS4 hW ((((hF1.mono (fun k2 j2 g => Or.inl g)).tr (hF2.mono (fun k2 j2 g => Or.inl (zRrw.sp (Or.inl rfl) _ _ g)))).tr (hF3.mono (fun k2 j2 g => Or.inl (zRrw.sp (Or.inr rfl) _ _ g)))).tr (hF4.mono (fun k2 j2 g => Or.inr g))) (fun k2 j2 g => g.elim (fun g => Or.inl (by unfold zRsp at g; unfold zScr; omega)) Or.inr)
            refine zG_s rfl rfl ?_
            -- leaf 3
            exact zG_ret rfl rfl (zRfin (by rw [hrs, if_neg (by omega)]) hI2)
          · skip
            intro S2 hF2 hA
            have hS := hS.fr hn hF2 (fun k2 j2 g1 g2 => by unfold zRsp at g1; unfold zRrw at g2; omega)
            refine zG_s rfl rfl ?_
            refine zG_s rfl rfl ?_
            refine zN_ige rfl (by omega) (by omega) (fun c15 => absurd c15 (by omega)) (fun c16 => ?_)
            refine zG_s rfl rfl ?_
            refine zN_get rfl zRh_o rfl ?_
            refine zG_s rfl rfl ?_
            refine zG_s rfl rfl ?_
            refine zN_add rfl ?_
            refine zG_s rfl rfl ?_
            refine zG_s rfl rfl ?_
            refine zG_s rfl rfl ?_
            refine zG_s rfl rfl ?_
            refine zG_s rfl rfl ?_
            have hlow := cr_low4 (d := d + 2) (r := r) (h := h) (c := c) hS hn (show x < 8 by omega)
            rw [show zTopL n lo x = LO x from by rw [← hLL]] at hlow
            refine zG_cV1 rfl rfl zRh_o rfl rfl hlow ?_
            refine zR_ast (k := 1) (j := 8 * 6 + x) (n := 80) rfl rfl (by omega) hr ?_
            refine zN_inc6 rfl rfl ?_
            refine zG_s rfl rfl ?_
            -- leaf 4
            refine ih94 _ (hF2.a ⟨rfl, by omega, by omega⟩) (fun q hq => ?_)
            by_cases g : q = x
            · rw [g, zRa_at]
            · rw [zRa_ne (Or.inr (by omega))]; exact hA q (by omega)
        exact main94 0 (Nat.zero_le _) _ zRF.rf (fun q hq => absurd hq (Nat.not_lt_zero q))
      · skip
        refine zG_s rfl rfl ?_
        -- leaf 5
        exact zG_ret rfl rfl (zRfin (by rw [hrs, if_pos (by omega)]) hI)
theorem cr_made5 {d r : Nat} {h : zH} {S : zRS} {s : zST} {b c e : Int32} (hr : 2 ≤ r) (hI : zRI S s) (hW : zWT s) : zCallP (d + 5) 256 [.ref r, .int (nI 5), .int b, .int c, .int e] (zRh h r S) (zROut h r (zo_made s (nI 5) b c e)) := by
  refine zG_mP (t := tX10_made) (ls0 := [.ref r, .int (nI 5), .int b, .int c, .int e, .null, .null]) rfl rfl (zdnR (zdnI (zdnI (zdnI (zdnI zdn0))))) rfl ?_
  refine zG_s rfl rfl ?_
  refine zG_s rfl rfl ?_
  refine zG_s rfl rfl ?_
  refine zG_cS1 rfl rfl cr_inc ?_
  refine zN_ifb rfl (fun q => by rw [zin_n (by decide) (by decide)] at q; cases q) (fun c2 => ?_)
  refine zG_s rfl rfl ?_
  refine zG_cS1 rfl rfl cr_isSpace ?_
  refine zN_ifb rfl (fun c3 => ?_) (fun c4 => ?_)
  · skip
    refine zG_s rfl rfl ?_
    -- leaf 1
    exact zG_ret rfl rfl (zRfin (by rw [zo_made, zb_i (show 5 < 7 by decide) (by decide), zb_no c3]) hI)
  · skip
    obtain ⟨i, hi, rfl⟩ := zin_of c4 (by omega)
    refine zG_s rfl rfl ?_
    refine zG_cS1 rfl rfl cr_isSpace ?_
    refine zN_ifb rfl (fun c5 => ?_) (fun c6 => ?_)
    · skip
      refine zG_s rfl rfl ?_
      -- leaf 2
      exact zG_ret rfl rfl (zRfin (by rw [zo_made, zb_i (show 5 < 7 by decide) (by decide), zb_i hi (by omega), zb_no c5]) hI)
    · skip
      obtain ⟨j, hj, rfl⟩ := zin_of c6 (by omega)
      refine zG_s rfl rfl ?_
      refine zG_s rfl rfl ?_
      refine zG_s rfl rfl ?_
      refine zG_cS1 rfl rfl cr_in ?_
      refine zN_ifb rfl (fun c7 => ?_) (fun q => absurd q (by decide))
      have hS := hI.sp i hi
      have hP := hW.1 i hi
      have hn := hP.1
      have hrs : zo_made s (nI 5) (nI i) c (nI j) = zMade s 5 i i j := by rw [zo_made, zb_i (show 5 < 7 by decide) (by decide), zb_i hi (by omega), zb_i hj (by omega), if_neg (by decide)]
      have hmd : zMd 5 (s.1 i).1 (s.1 i).1 = (s.1 i).1 + 2 := rfl
      have hmk : zMk 5 (s.1 i).1 (s.1 i).2 (s.1 i).1 (s.1 i).2 = ((s.1 i).1 + 2, zTopL (s.1 i).1 (s.1 i).2) := rfl
      unfold zMade at hrs
      rw [hmd, hmk] at hrs
      generalize (s.1 i).1 = n at *
      generalize (s.1 i).2 = lo at *
      refine zG_s rfl rfl ?_
      refine zG_s rfl rfl ?_
      refine zG_s rfl rfl ?_
      refine zG_s rfl rfl ?_
      refine zG_cV1 rfl rfl zRh_o rfl rfl (cr_mm5 hS) ?_
      refine zN_st5 rfl (fun _ _ _ => rfl) rfl ?_
      refine zG_s rfl rfl ?_
      refine zG_s rfl rfl ?_
      refine zN_ile (y := 8) rfl (by omega) (by omega) (fun c9 => ?_) (fun c10 => ?_)
      · skip
        refine zG_s rfl rfl ?_
        refine zG_s rfl rfl ?_
        refine zN_ine (x := 5) (y := 6) rfl (by omega) (by omega) (fun c11 => ?_) (fun q => absurd q (by decide))
        refine zG_s rfl rfl ?_
        refine zG_s rfl rfl ?_
        refine zG_s rfl rfl ?_
        have hN8 : n + 2 ≤ 8 := by omega
        generalize hLL : zTopL n lo = LO at *
        generalize hNN : n + 2 = N at *
        refine zG_cQN rfl rfl zRh_o rfl rfl (cr_empties hr (by omega) hN8) (fun h1 hB => ?_)
        obtain ⟨S1, rfl, hF1, hS1⟩ := hB
        have hS := hS.fr hn hF1 (fun k2 j2 g1 g2 => by unfold zRsp at g1 g2; omega)
        have hlob : ∀ x, x < N → LO x < 256 := fun x hx => by rw [← hLL]; exact (hP.top (k := 2) (by omega)).b (by omega)
        refine zG_s rfl rfl ?_
        refine zN_st6 rfl (fun _ _ _ => rfl) rfl ?_
        have main94 : ∀ x, x ≤ N → ∀ S2 : zRS, zRF (zRrw 1 6) S1 S2 → (∀ q, q < x → S2.2.1 1 (8 * 6 + q) = nI (LO q)) → zGoP (d + 4) tX10_made 94 [.ref r, .int (nI 5), .int (nI i), .int c, .int (nI j), .int (nI N), .int (nI x)] [] (zRh h r S2) (zROut h r (zo_made s (nI 5) (nI i) c (nI j))) := by
          refine zdown (N) ?_ (fun x hp94 ih94 => ?_)
          · skip
            intro S2 hF2 hA
            refine zG_s rfl rfl ?_
            refine zG_s rfl rfl ?_
            refine zN_ige rfl (by omega) (by omega) (fun c13 => ?_) (fun c14 => absurd c14 (by omega))
            refine zG_s rfl rfl ?_
            refine zG_s rfl rfl ?_
            refine zG_cQN rfl rfl zRh_o rfl rfl (cr_turns (lo := LO) hr (by omega) hN8 ((hF2.2.1 3 6 (zRrw.m (Or.inl rfl))).trans hS1.1) (fun x hx => hA x hx) hlob) (fun h3 hB => ?_)
            obtain ⟨S3, rfl, hF3, hS3⟩ := hB
            refine zG_s rfl rfl ?_
            refine zG_s rfl rfl ?_
            refine zG_s rfl rfl ?_
            refine zG_cQN rfl rfl zRh_o rfl rfl (cr_copies hr hS3 hN8 (show j < 10 by omega) (by omega)) (fun h4 hB => ?_)
            obtain ⟨S4, rfl, hF4, hS4⟩ := hB
            have hI2 := hI.u_sp (P := fun k2 j2 => zRsp 6 k2 j2 ∨ zRsp j k2 j2) hj hS4 hW ((((hF1.mono (fun k2 j2 g => Or.inl g)).tr (hF2.mono (fun k2 j2 g => Or.inl (zRrw.sp (Or.inl rfl) _ _ g)))).tr (hF3.mono (fun k2 j2 g => Or.inl (zRrw.sp (Or.inr rfl) _ _ g)))).tr (hF4.mono (fun k2 j2 g => Or.inr g))) (fun k2 j2 g => g.elim (fun g => Or.inl (by unfold zRsp at g; unfold zScr; omega)) Or.inr)
            refine zG_s rfl rfl ?_
            -- leaf 3
            exact zG_ret rfl rfl (zRfin (by rw [hrs, if_neg (by omega)]) hI2)
          · skip
            intro S2 hF2 hA
            have hS := hS.fr hn hF2 (fun k2 j2 g1 g2 => by unfold zRsp at g1; unfold zRrw at g2; omega)
            refine zG_s rfl rfl ?_
            refine zG_s rfl rfl ?_
            refine zN_ige rfl (by omega) (by omega) (fun c15 => absurd c15 (by omega)) (fun c16 => ?_)
            refine zG_s rfl rfl ?_
            refine zN_get rfl zRh_o rfl ?_
            refine zG_s rfl rfl ?_
            refine zG_s rfl rfl ?_
            refine zN_add rfl ?_
            refine zG_s rfl rfl ?_
            refine zG_s rfl rfl ?_
            refine zG_s rfl rfl ?_
            refine zG_s rfl rfl ?_
            refine zG_s rfl rfl ?_
            have hlow := cr_low5 (d := d + 2) (r := r) (h := h) (c := c) hS hn (show x < 8 by omega)
            rw [show zTopL n lo x = LO x from by rw [← hLL]] at hlow
            refine zG_cV1 rfl rfl zRh_o rfl rfl hlow ?_
            refine zR_ast (k := 1) (j := 8 * 6 + x) (n := 80) rfl rfl (by omega) hr ?_
            refine zN_inc6 rfl rfl ?_
            refine zG_s rfl rfl ?_
            -- leaf 4
            refine ih94 _ (hF2.a ⟨rfl, by omega, by omega⟩) (fun q hq => ?_)
            by_cases g : q = x
            · rw [g, zRa_at]
            · rw [zRa_ne (Or.inr (by omega))]; exact hA q (by omega)
        exact main94 0 (Nat.zero_le _) _ zRF.rf (fun q hq => absurd hq (Nat.not_lt_zero q))
      · skip
        refine zG_s rfl rfl ?_
        -- leaf 5
        exact zG_ret rfl rfl (zRfin (by rw [hrs, if_pos (by omega)]) hI)
theorem cr_made6 {d r : Nat} {h : zH} {S : zRS} {s : zST} {b c e : Int32} (hr : 2 ≤ r) (hI : zRI S s) (hW : zWT s) : zCallP (d + 5) 256 [.ref r, .int (nI 6), .int b, .int c, .int e] (zRh h r S) (zROut h r (zo_made s (nI 6) b c e)) := by
  refine zG_mP (t := tX10_made) (ls0 := [.ref r, .int (nI 6), .int b, .int c, .int e, .null, .null]) rfl rfl (zdnR (zdnI (zdnI (zdnI (zdnI zdn0))))) rfl ?_
  refine zG_s rfl rfl ?_
  refine zG_s rfl rfl ?_
  refine zG_s rfl rfl ?_
  refine zG_cS1 rfl rfl cr_inc ?_
  refine zN_ifb rfl (fun q => by rw [zin_n (by decide) (by decide)] at q; cases q) (fun c2 => ?_)
  refine zG_s rfl rfl ?_
  refine zG_cS1 rfl rfl cr_isSpace ?_
  refine zN_ifb rfl (fun c3 => ?_) (fun c4 => ?_)
  · skip
    refine zG_s rfl rfl ?_
    -- leaf 1
    exact zG_ret rfl rfl (zRfin (by rw [zo_made, zb_i (show 6 < 7 by decide) (by decide), zb_no c3]) hI)
  · skip
    obtain ⟨i, hi, rfl⟩ := zin_of c4 (by omega)
    refine zG_s rfl rfl ?_
    refine zG_cS1 rfl rfl cr_isSpace ?_
    refine zN_ifb rfl (fun c5 => ?_) (fun c6 => ?_)
    · skip
      refine zG_s rfl rfl ?_
      -- leaf 2
      exact zG_ret rfl rfl (zRfin (by rw [zo_made, zb_i (show 6 < 7 by decide) (by decide), zb_i hi (by omega), zb_no c5]) hI)
    · skip
      obtain ⟨j, hj, rfl⟩ := zin_of c6 (by omega)
      refine zG_s rfl rfl ?_
      refine zG_s rfl rfl ?_
      refine zG_s rfl rfl ?_
      refine zG_cS1 rfl rfl cr_in ?_
      refine zN_ifb rfl (fun c7 => ?_) (fun q => absurd q (by decide))
      have hS := hI.sp i hi
      have hP := hW.1 i hi
      have hn := hP.1
      have hrs : zo_made s (nI 6) (nI i) c (nI j) = zMade s 6 i i j := by rw [zo_made, zb_i (show 6 < 7 by decide) (by decide), zb_i hi (by omega), zb_i hj (by omega), if_neg (by decide)]
      have hmd : zMd 6 (s.1 i).1 (s.1 i).1 = (s.1 i).1 := rfl
      have hmk : zMk 6 (s.1 i).1 (s.1 i).2 (s.1 i).1 (s.1 i).2 = (zPos (zFst (s.1 i).1 (s.1 i).2 (zTr (s.1 i).1 (s.1 i).2)) (s.1 i).1, zPl (s.1 i).2 (zFst (s.1 i).1 (s.1 i).2 (zTr (s.1 i).1 (s.1 i).2))) := rfl
      unfold zMade at hrs
      rw [hmd, hmk] at hrs
      generalize (s.1 i).1 = n at *
      generalize (s.1 i).2 = lo at *
      have hf := zFst_lt (n := n) (lo := lo) (hi := zTr n lo)
      have hf8 := zbits_lt8 (fun x => decide (lo x &&& zTr n lo x &&& (1 <<< x - 1) = 0)) hn
      have hcl := zcnt_le (zFst n lo (zTr n lo))
      have hpw := zpow_le hn
      refine zG_s rfl rfl ?_
      refine zG_s rfl rfl ?_
      refine zG_s rfl rfl ?_
      refine zG_s rfl rfl ?_
      refine zG_cV1 rfl rfl zRh_o rfl rfl (cr_mm6 hS hP) ?_
      refine zN_st5 rfl (fun _ _ _ => rfl) rfl ?_
      refine zG_s rfl rfl ?_
      refine zG_s rfl rfl ?_
      refine zN_ile (y := 8) rfl (by omega) (by omega) (fun c9 => ?_) (fun q => absurd q (by omega))
      refine zG_s rfl rfl ?_
      refine zG_s rfl rfl ?_
      refine zN_ine (x := 6) (y := 6) rfl (by omega) (by omega) (fun q => absurd rfl q) (fun c12 => ?_)
      refine zG_s rfl rfl ?_
      refine zG_s rfl rfl ?_
      refine zG_s rfl rfl ?_
      refine zG_s rfl rfl ?_
      refine zG_cV1 rfl rfl zRh_o rfl rfl (cr_firsts hS hP) ?_
      refine zG_s rfl rfl ?_
      refine zG_cQN rfl rfl zRh_o rfl rfl (cr_becomes hr hS hP hi hf hj) (fun h1 hB => ?_)
      obtain ⟨S1, rfl, hF1, hS1⟩ := hB
      have hI2 := hI.u_sp hj hS1 hW hF1 zRb_scr
      refine zG_s rfl rfl ?_
      -- leaf 3
      rw [zP8_n hn hf]
      exact zG_ret rfl rfl (zRfin (by rw [hrs, if_neg (by omega)]) hI2)
theorem cr_madeX {d r : Nat} {h : zH} {S : zRS} {s : zST} {a b c e : Int32} (hr : 2 ≤ r) (hI : zRI S s) (hW : zWT s) (ha : zin a 7 = false) : zCallP (d + 5) 256 [.ref r, .int a, .int b, .int c, .int e] (zRh h r S) (zROut h r (zo_made s a b c e)) := by
  refine zG_mP (t := tX10_made) (ls0 := [.ref r, .int a, .int b, .int c, .int e, .null, .null]) rfl rfl (zdnR (zdnI (zdnI (zdnI (zdnI zdn0))))) rfl ?_
  refine zG_s rfl rfl ?_
  refine zG_s rfl rfl ?_
  refine zG_s rfl rfl ?_
  refine zG_cS1 rfl rfl cr_inc ?_
  refine zN_ifb rfl (fun c1 => ?_) (fun q => by rw [ha] at q; cases q)
  refine zG_s rfl rfl ?_
  -- leaf 1
  exact zG_ret rfl rfl (zRfin (by rw [zo_made, zb_no ha]) hI)
theorem cr_made {d r : Nat} {h : zH} {S : zRS} {s : zST} {a b c e : Int32} (hr : 2 ≤ r) (hI : zRI S s) (hW : zWT s) : zCallP (d + 5) 256 [.ref r, .int a, .int b, .int c, .int e] (zRh h r S) (zROut h r (zo_made s a b c e)) := by
  rcases zcs7 a with rfl | rfl | rfl | rfl | rfl | rfl | rfl | ha
  · exact cr_made0 hr hI hW
  · exact cr_made1 hr hI hW
  · exact cr_made2 hr hI hW
  · exact cr_made3 hr hI hW
  · exact cr_made4 hr hI hW
  · exact cr_made5 hr hI hW
  · exact cr_made6 hr hI hW
  · exact cr_madeX hr hI hW ha
