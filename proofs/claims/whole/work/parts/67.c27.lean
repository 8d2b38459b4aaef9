theorem ct_rankX {d : Nat} {h : zH} {o n k : Nat} {lo hi : Nat → Nat} (ho2 : 2 ≤ o) (hC : zCS h o (zCc n lo hi)) (hk : k < 9) (hn : n ≤ 7) : zCallP (d + 3) 51 [.ref o, .int (nI k)] h (zRV (.int (nI (zRkC (zCc n lo hi) k))) (fun h1 => zFr (zcS o) h h1 ∧ zCS h1 o (zCc n lo hi))) := by
  rcases Nat.eq_zero_or_pos k with e | e
  · subst e
    exact ct_rank0.rv ⟨zFr.rf, hC⟩
  · rw [zRkC_p e]
    exact ct_rank ho2 hC e hk (fun t _ => zCc_le _ _ _ t) (zCc_clo e) (zCc_num hn e (by omega)) (zCc_num hn (by omega) (by omega))
theorem ct_settleSets {d : Nat} {h : zH} {s : zST} {j : Nat} {C : Nat → Nat} (hI : zCI h s) (hj : j < 6) (hC : zCS h 56 C) (hb : ∀ t, t < 256 → C t ≤ 8) : zCallP (d + 4) 156 [.ref 2, .int (nI j)] h (zOut h (zStl s C j)) := by
  obtain ⟨ct, pl, bs, ch, hC0, hct⟩ := id hC
  have hF : zFr zcR h h := zFr.rf
  have ht := zct_le (fun t => decide (1 ≤ t) && decide (0 < C t)) 256
  change zTot C ≤ 256 at ht
  have hk8 := zFk_le C 8
  refine zG_mP (t := tX9_settleSets) (ls0 := [.ref 2, .int (nI j)]) rfl rfl (zdnR (zdnI zdn0)) rfl ?_
  refine zG_s rfl rfl ?_
  refine zN_get rfl hI.ob rfl ?_
  refine zG_cV1 rfl rfl hC0.1 rfl rfl (ct_total hC hb) ?_
  refine zG_s rfl rfl ?_
  refine zN_ile (y := 8) rfl (by omega) (by omega) (fun c1 => ?_) (fun c2 => ?_)
  · skip
    refine zG_s rfl rfl ?_
    refine zN_get rfl hI.ob rfl ?_
    refine zG_s rfl rfl ?_
    refine zN_get rfl hI.ob rfl ?_
    obtain ⟨m9, l9, h9, hX⟩ := hI.wk
    refine zG_cQN rfl rfl hC0.1 rfl rfl (ct_fill (by omega) (by omega) hC hX hb (by unfold zcN; omega)) (fun h1 hB => ?_)
    have hI := hI.u_sw hB.2.1.ca hB.2.2 hB.1
    have hF := hF.tr (hB.1.mono (fun q hq => hq.elim (zcR_c q) (zcR_s5 q)))
    refine zG_s rfl rfl ?_
    refine zG_s rfl rfl ?_
    refine zG_cQV rfl rfl hI.ob rfl rfl (ct_settle hI hj hB.2.2 hk8) (fun h3 hB3 => ?_)
    have hF := hF.tr hB3.1
    have hI := hB3.2
    -- leaf 1
    exact zG_ret rfl rfl (zfin (by rw [zStl, if_neg (by omega)]) hF hI)
  · skip
    refine zG_s rfl rfl ?_
    -- leaf 2
    exact zG_ret rfl rfl (zfin (by rw [zStl, if_pos c2]) hF hI)
theorem co_chains {d : Nat} {h : zH} {s : zST} {a b : Int32} (hI : zCI h s) (hW : zWT s) : zCallP (d + 3) 120 [.ref 2, .int a, .int b] h (zOut h (zo_chains s a b)) := by
  have hF : zFr zcR h h := zFr.rf
  refine zG_mP (t := tX9_chains) (ls0 := [.ref 2, .int a, .int b]) rfl rfl (zdnR (zdnI (zdnI zdn0))) rfl ?_
  refine zG_s rfl rfl ?_
  refine zG_cS1 rfl rfl ct_isSpace ?_
  refine zN_ifb rfl (fun c1 => ?_) (fun c2 => ?_)
  · skip
    refine zG_s rfl rfl ?_
    -- leaf 1
    exact zG_ret rfl rfl (zfin (by rw [zo_chains, zb_no c1]) hF hI)
  · skip
    obtain ⟨i, hi, rfl⟩ := zin_of c2 (by omega)
    have hP := hW.1 i hi
    refine zG_s rfl rfl ?_
    refine zG_s rfl rfl ?_
    refine zN_if2 rfl (fun c3 => ?_) (fun c4 => ?_)
    · skip
      have c5 := zraw1_lt (n := 9) c3
      refine zG_s rfl rfl ?_
      -- leaf 2
      exact zG_ret rfl rfl (zfin (by rw [zo_chains, zb_i hi (by omega), zb1_no c5]) hF hI)
    · skip
      refine zG_s rfl rfl ?_
      refine zG_s rfl rfl ?_
      refine zN_if2 rfl (fun c6 => ?_) (fun c7 => ?_)
      · skip
        have c8 := zraw1_le (n := 8) (by decide) c4 c6
        obtain ⟨k, hk, hk0, rfl⟩ := c8
        refine zG_s rfl rfl ?_
        refine zN_get rfl hI.ob rfl ?_
        refine zG_s rfl rfl ?_
        refine zN_get rfl hI.ob rfl ?_
        refine zG_s rfl rfl ?_
        refine zN_qa (tt := 0) rfl hI.as (by omega) (by omega) ?_
        obtain ⟨ct0, pl0, bs0, ch0, hC0⟩ := hI.se
        refine zG_cQN rfl rfl hC0.1 rfl rfl (ct_becomeChains (by omega) hI.se (hI.sp i hi) hP.ok (by unfold zcN; omega)) (fun h1 hB => ?_)
        have hI := hI.u_se hB.2.ca hB.1
        have hF := hF.tr (hB.1.mono zcR_c)
        have hC := hB.2
        obtain ⟨ct1, pl1, bs1, ch1, hC1, hct1⟩ := id hC
        refine zG_s rfl rfl ?_
        refine zN_get rfl hI.ob rfl ?_
        refine zG_s rfl rfl ?_
        refine zG_cV1 rfl rfl hC1.1 rfl rfl (ct_count hC (by omega) (fun t _ => zCc_le _ _ _ t)) ?_
        -- leaf 3
        exact zG_ret rfl rfl (zfin (by rw [zo_chains, zb_i hi (by omega), zb1_i hk hk0 (by decide)]; first | done | rfl) hF hI)
      · skip
        have c9 := zraw1_nle (n := 8) (by decide) c7
        refine zG_s rfl rfl ?_
        -- leaf 4
        exact zG_ret rfl rfl (zfin (by rw [zo_chains, zb_i hi (by omega), zb1_no c9]) hF hI)
theorem co_euler {d : Nat} {h : zH} {s : zST} {a : Int32} (hI : zCI h s) (hW : zWT s) : zCallP (d + 3) 121 [.ref 2, .int a] h (zOut h (zo_euler s a)) := by
  have hF : zFr zcR h h := zFr.rf
  refine zG_mP (t := tX9_euler) (ls0 := [.ref 2, .int a, .null, .null]) rfl rfl (zdnR (zdnI zdn0)) rfl ?_
  refine zG_s rfl rfl ?_
  refine zG_cS1 rfl rfl ct_isSpace ?_
  refine zN_ifnb rfl (fun c1 => ?_) (fun c2 => ?_)
  · skip
    obtain ⟨i, hi, rfl⟩ := zin_of c1 (by omega)
    have hP := hW.1 i hi
    refine zG_s rfl rfl ?_
    refine zN_get rfl hI.ob rfl ?_
    refine zG_s rfl rfl ?_
    refine zN_get rfl hI.ob rfl ?_
    refine zG_s rfl rfl ?_
    refine zN_qa (tt := 0) rfl hI.as (by omega) (by omega) ?_
    obtain ⟨ct0, pl0, bs0, ch0, hC0⟩ := hI.se
    refine zG_cQN rfl rfl hC0.1 rfl rfl (ct_becomeChains (by omega) hI.se (hI.sp i hi) hP.ok (by unfold zcN; omega)) (fun h1 hB => ?_)
    have hI := hI.u_se hB.2.ca hB.1
    have hF := hF.tr (hB.1.mono zcR_c)
    have hC := hB.2
    obtain ⟨ct1, pl1, bs1, ch1, hC1, hct1⟩ := id hC
    refine zG_s rfl rfl ?_
    refine zN_st2 rfl (fun _ _ _ => rfl) rfl ?_
    refine zG_s rfl rfl ?_
    refine zN_st3 rfl (fun _ _ _ => rfl) rfl ?_
    have main28 : ∀ k, k ≤ 9 → 1 ≤ k → zGoP (d + 2) tX9_euler 28 [.ref 2, .int (nI i), .int (zEulI (zCh9 s i) (k - 1)), .int (nI k)] [] h1 (zOut h (zo_euler s (nI i))) := by
      refine zdown (9) ?_ (fun k hp28 ih28 => ?_)
      · skip
        intro hk1
        refine zG_s rfl rfl ?_
        refine zG_s rfl rfl ?_
        refine zN_igt (y := 8) rfl (by omega) (by omega) (fun c3 => ?_) (fun c4 => absurd c4 (by omega))
        refine zG_s rfl rfl ?_
        -- leaf 1
        exact zG_ret rfl rfl (zfin (by rw [zo_euler, zb_i hi (by omega)]; first | done | rfl) hF hI)
      · skip
        intro hk1
        refine zG_s rfl rfl ?_
        refine zG_s rfl rfl ?_
        refine zN_igt (y := 8) rfl (by omega) (by omega) (fun c5 => absurd c5 (by omega)) (fun c6 => ?_)
        have jn62 : ∀ y : Int32, y = (if k % 2 = 1 then nI (zNum (zCh9 s i) k) else -(nI (zNum (zCh9 s i) k))) → zGoP (d + 2) tX9_euler 62 [.ref 2, .int (nI i), .int (zEulI (zCh9 s i) (k - 1)), .int (nI k)] [.int y, .int (zEulI (zCh9 s i) (k - 1))] h1 (zOut h (zo_euler s (nI i))) := by
          intro y ey
          refine zG_s rfl rfl ?_
          refine zN_st2 rfl (fun _ _ _ => rfl) rfl ?_
          refine zN_inc3 rfl rfl ?_
          refine zG_s rfl rfl ?_
          -- leaf 2
          have e : zEulI (zCh9 s i) (k + 1 - 1) = zEulI (zCh9 s i) (k - 1) + y := by
            obtain ⟨j, rfl⟩ : ∃ j, k = j + 1 := ⟨k - 1, by omega⟩
            rw [Nat.add_sub_cancel, Nat.add_sub_cancel, zEulI, ey]
          rw [e] at ih28
          exact ih28 (by omega)
        refine zG_s rfl rfl ?_
        refine zG_s rfl rfl ?_
        refine zG_s rfl rfl ?_
        refine zN_and (y := 1) rfl ?_
        rw [Nat.and_one_is_mod]
        refine zG_s rfl rfl ?_
        refine zN_ine (y := 1) rfl (by omega) (by omega) (fun c7 => ?_) (fun c8 => ?_)
        · skip
          refine zG_s rfl rfl ?_
          refine zN_get rfl hI.ob rfl ?_
          refine zG_s rfl rfl ?_
          refine zG_cV1 rfl rfl hC1.1 rfl rfl (ct_count hC (by omega) (fun t _ => zCc_le _ _ _ t)) ?_
          refine zG_s rfl rfl ?_
          -- leaf 3
          exact jn62 _ (by rw [if_neg c7]; rfl)
        · skip
          refine zG_s rfl rfl ?_
          refine zN_get rfl hI.ob rfl ?_
          refine zG_s rfl rfl ?_
          refine zG_cV1 rfl rfl hC1.1 rfl rfl (ct_count hC (by omega) (fun t _ => zCc_le _ _ _ t)) ?_
          refine zG_s rfl rfl ?_
          -- leaf 4
          exact jn62 _ (by rw [if_pos c8]; rfl)
    exact main28 1 (by omega) (by omega)
  · skip
    refine zG_s rfl rfl ?_
    -- leaf 5
    exact zG_ret rfl rfl (zfin (by rw [zo_euler, zb_no c2]) hF hI)
theorem co_holes {d : Nat} {h : zH} {s : zST} {a b : Int32} (hI : zCI h s) (hW : zWT s) : zCallP (d + 4) 122 [.ref 2, .int a, .int b] h (zOut h (zo_holes s a b)) := by
  have hF : zFr zcR h h := zFr.rf
  refine zG_mP (t := tX9_holes) (ls0 := [.ref 2, .int a, .int b]) rfl rfl (zdnR (zdnI (zdnI zdn0))) rfl ?_
  refine zG_s rfl rfl ?_
  refine zG_cS1 rfl rfl ct_isSpace ?_
  refine zN_ifb rfl (fun c1 => ?_) (fun c2 => ?_)
  · skip
    refine zG_s rfl rfl ?_
    -- leaf 1
    exact zG_ret rfl rfl (zfin (by rw [zo_holes, zb_no c1]) hF hI)
  · skip
    obtain ⟨i, hi, rfl⟩ := zin_of c2 (by omega)
    have hP := hW.1 i hi
    have hn := hP.1
    refine zG_s rfl rfl ?_
    refine zN_if rfl (fun c3 => ?_) (fun c4 => ?_)
    · skip
      have c5 := zraw_lt0 (n := 8) c3
      refine zG_s rfl rfl ?_
      -- leaf 2
      exact zG_ret rfl rfl (zfin (by rw [zo_holes, zb_i hi (by omega), zb_no c5]) hF hI)
    · skip
      refine zG_s rfl rfl ?_
      refine zG_s rfl rfl ?_
      refine zN_if2 rfl (fun c6 => ?_) (fun c7 => ?_)
      · skip
        have c8 := zraw_gt (n := 7) (by decide) c6
        refine zG_s rfl rfl ?_
        -- leaf 3
        exact zG_ret rfl rfl (zfin (by rw [zo_holes, zb_i hi (by omega), zb_no c8]) hF hI)
      · skip
        have c9 := zraw_in2 (n := 7) (by decide) c4 c7
        obtain ⟨k, hk, rfl⟩ := zin_of c9 (by decide)
        refine zG_s rfl rfl ?_
        refine zN_get rfl hI.ob rfl ?_
        refine zG_s rfl rfl ?_
        refine zN_qa (tt := 0) rfl hI.as (by omega) (by omega) ?_
        refine zN_get rfl (hI.sp _ (by omega)).1 rfl ?_
        refine zG_s rfl rfl ?_
        refine zN_ile (y := 7) rfl (by omega) (by omega) (fun c10 => ?_) (fun c11 => ?_)
        · skip
          refine zG_s rfl rfl ?_
          refine zN_get rfl hI.ob rfl ?_
          refine zG_s rfl rfl ?_
          refine zN_get rfl hI.ob rfl ?_
          refine zG_s rfl rfl ?_
          refine zN_qa (tt := 0) rfl hI.as (by omega) (by omega) ?_
          obtain ⟨ct0, pl0, bs0, ch0, hC0⟩ := hI.se
          refine zG_cQN rfl rfl hC0.1 rfl rfl (ct_becomeChains (by omega) hI.se (hI.sp i hi) hP.ok (by unfold zcN; omega)) (fun h1 hB => ?_)
          have hI := hI.u_se hB.2.ca hB.1
          have hF := hF.tr (hB.1.mono zcR_c)
          have hC := hB.2
          obtain ⟨ct1, pl1, bs1, ch1, hC1, hct1⟩ := id hC
          refine zG_s rfl rfl ?_
          refine zN_get rfl hI.ob rfl ?_
          refine zG_s rfl rfl ?_
          refine zG_s rfl rfl ?_
          refine zN_add rfl ?_
          refine zG_cV1 rfl rfl hC1.1 rfl rfl (ct_count hC (by omega) (fun t _ => zCc_le _ _ _ t)) ?_
          refine zG_s rfl rfl ?_
          refine zN_get rfl hI.ob rfl ?_
          refine zG_s rfl rfl ?_
          refine zG_cQV rfl rfl hC1.1 rfl rfl (ct_rankX (by omega) hC (by omega) (by omega)) (fun h2 hB => ?_)
          have hI := hI.u_se hB.2.ca hB.1
          have hF := hF.tr (hB.1.mono zcR_c)
          have hC := hB.2
          obtain ⟨ct1, pl1, bs1, ch1, hC1, hct1⟩ := id hC
          refine zG_s rfl rfl ?_
          refine zG_s rfl rfl ?_
          refine zN_get rfl hI.ob rfl ?_
          refine zG_s rfl rfl ?_
          refine zG_s rfl rfl ?_
          refine zN_add rfl ?_
          refine zG_cQV rfl rfl hC1.1 rfl rfl (ct_rankX (by omega) hC (by omega) (by omega)) (fun h3 hB => ?_)
          have hI := hI.u_se hB.2.ca hB.1
          have hF := hF.tr (hB.1.mono zcR_c)
          refine zG_s rfl rfl ?_
          -- leaf 4
          exact zG_ret rfl rfl (zfin (by rw [zo_holes, zb_i hi (by omega), zb_i hk (by omega), if_neg (by omega)]; rfl) hF hI)
        · skip
          refine zG_s rfl rfl ?_
          -- leaf 5
          exact zG_ret rfl rfl (zfin (by rw [zo_holes, zb_i hi (by omega), zb_i hk (by omega), if_pos c11]) hF hI)
theorem co_divide {d : Nat} {h : zH} {s : zST} {a b : Int32} (hI : zCI h s) (hW : zWT s) : zCallP (d + 5) 123 [.ref 2, .int a, .int b] h (zOut h (zo_divide s a b)) := by
  have hF : zFr zcR h h := zFr.rf
  refine zG_mP (t := tX9_divide) (ls0 := [.ref 2, .int a, .int b]) rfl rfl (zdnR (zdnI (zdnI zdn0))) rfl ?_
  refine zG_s rfl rfl ?_
  refine zG_cS1 rfl rfl ct_isSpace ?_
  refine zN_ifb rfl (fun c1 => ?_) (fun c2 => ?_)
  · skip
    refine zG_s rfl rfl ?_
    -- leaf 1
    exact zG_ret rfl rfl (zfin (by rw [zo_divide, zb_no c1]) hF hI)
  · skip
    obtain ⟨i, hi, rfl⟩ := zin_of c2 (by omega)
    have hP := hW.1 i hi
    refine zG_s rfl rfl ?_
    refine zG_cS1 rfl rfl ct_isSpace ?_
    refine zN_ifnb rfl (fun c3 => ?_) (fun c4 => ?_)
    · skip
      obtain ⟨j, hj, rfl⟩ := zin_of c3 (by omega)
      refine zG_s rfl rfl ?_
      refine zN_get rfl hI.ob rfl ?_
      refine zG_s rfl rfl ?_
      refine zN_get rfl hI.ob rfl ?_
      refine zG_s rfl rfl ?_
      refine zN_qa (tt := 0) rfl hI.as (by omega) (by omega) ?_
      obtain ⟨ct0, pl0, bs0, ch0, hC0⟩ := hI.se
      refine zG_cQN rfl rfl hC0.1 rfl rfl (ct_becomeChains (by omega) hI.se (hI.sp i hi) hP.ok (by unfold zcN; omega)) (fun h1 hB => ?_)
      have hI := hI.u_se hB.2.ca hB.1
      have hF := hF.tr (hB.1.mono zcR_c)
      have hC := hB.2
      obtain ⟨ct1, pl1, bs1, ch1, hC1, hct1⟩ := id hC
      refine zG_s rfl rfl ?_
      refine zG_s rfl rfl ?_
      refine zG_cQV rfl rfl hI.ob rfl rfl (ct_settleSets hI hj hC (fun t _ => zCc_le _ _ _ t)) (fun h2 hB => ?_)
      have hF := hF.tr hB.1
      have hI := hB.2
      -- leaf 2
      exact zG_ret rfl rfl (zfin (by rw [zo_divide, zb_i hi (by omega), zb_i hj (by omega)]; rfl) hF hI)
    · skip
      refine zG_s rfl rfl ?_
      -- leaf 3
      exact zG_ret rfl rfl (zfin (by rw [zo_divide, zb_i hi (by omega), zb_no c4]) hF hI)
theorem ct_make0 {d : Nat} {h : zH} {s : zST} {qa qb n n2 : Nat} {lo lo2 : Nat → Nat} (hI : zCI h s) (hA : zSq h qa n lo) (hB0 : zSq h qb n2 lo2) (h1P : zPre n lo) (h2P : zPre n2 lo2) (ha : zApart 5 qa) (hb : zApart 5 qb) (hm : zMd 0 n n2 ≤ 8) : zCallP (d + 4) 159 [.ref 2, .int (nI 0), .ref qa, .ref qb] h (zRN (fun h1 => zFr (zsS 5) h h1 ∧ zSq h1 5 (zMk 0 n lo n2 lo2).1 (zMk 0 n lo n2 lo2).2)) := by
  have hn := h1P.1
  obtain ⟨m9, l9, h9, hX⟩ := hI.wk
  refine zG_mP (t := tX9_make) (ls0 := [.ref 2, .int (nI 0), .ref qa, .ref qb]) rfl rfl (zdnR (zdnI (zdnR (zdnR zdn0)))) rfl ?_
  refine zG_s rfl rfl ?_
  refine zG_s rfl rfl ?_
  refine zG_s rfl rfl ?_
  refine zN_get rfl hI.ob rfl ?_
  refine zG_s rfl rfl ?_
  refine zG_cQN rfl rfl hX.1 rfl rfl (cp_turned (by omega) hX hA hn ha) (fun h1 hB => ?_)
  have hY : zSq h1 5 n (zTr n lo) := hB.2.vals (fun x hx => ⟨rfl, (zTr_tr h1P hx).symm⟩)
  refine zG_s rfl rfl ?_
  -- leaf 1
  exact zG_ret rfl rfl ⟨rfl, hB.1, hY⟩
theorem ct_make1 {d : Nat} {h : zH} {s : zST} {qa qb n n2 : Nat} {lo lo2 : Nat → Nat} (hI : zCI h s) (hA : zSq h qa n lo) (hB0 : zSq h qb n2 lo2) (h1P : zPre n lo) (h2P : zPre n2 lo2) (ha : zApart 5 qa) (hb : zApart 5 qb) (hm : zMd 1 n n2 ≤ 8) : zCallP (d + 4) 159 [.ref 2, .int (nI 1), .ref qa, .ref qb] h (zRN (fun h1 => zFr (zsS 5) h h1 ∧ zSq h1 5 (zMk 1 n lo n2 lo2).1 (zMk 1 n lo n2 lo2).2)) := by
  have hn := h1P.1
  obtain ⟨m9, l9, h9, hX⟩ := hI.wk
  refine zG_mP (t := tX9_make) (ls0 := [.ref 2, .int (nI 1), .ref qa, .ref qb]) rfl rfl (zdnR (zdnI (zdnR (zdnR zdn0)))) rfl ?_
  refine zG_s rfl rfl ?_
  refine zG_s rfl rfl ?_
  refine zG_s rfl rfl ?_
  refine zN_get rfl hI.ob rfl ?_
  refine zG_s rfl rfl ?_
  refine zG_s rfl rfl ?_
  refine zG_s rfl rfl ?_
  refine zG_s rfl rfl ?_
  refine zN_ine (x := 1) (y := 2) rfl (by omega) (by omega) (fun c1 => ?_) (fun q => absurd q (by decide))
  refine zG_s rfl rfl ?_
  refine zG_cQN rfl rfl hX.1 rfl rfl (cp_sum (jn := false) (by omega) hX hA hB0 hm ha hb (fun q hq => (h1P.sum (jn := false) h2P hm).b hq)) (fun h1 hB => ?_)
  have hY := hB.2
  refine zG_s rfl rfl ?_
  -- leaf 1
  exact zG_ret rfl rfl ⟨rfl, hB.1, hY⟩
theorem ct_make2 {d : Nat} {h : zH} {s : zST} {qa qb n n2 : Nat} {lo lo2 : Nat → Nat} (hI : zCI h s) (hA : zSq h qa n lo) (hB0 : zSq h qb n2 lo2) (h1P : zPre n lo) (h2P : zPre n2 lo2) (ha : zApart 5 qa) (hb : zApart 5 qb) (hm : zMd 2 n n2 ≤ 8) : zCallP (d + 4) 159 [.ref 2, .int (nI 2), .ref qa, .ref qb] h (zRN (fun h1 => zFr (zsS 5) h h1 ∧ zSq h1 5 (zMk 2 n lo n2 lo2).1 (zMk 2 n lo n2 lo2).2)) := by
  have hn := h1P.1
  obtain ⟨m9, l9, h9, hX⟩ := hI.wk
  refine zG_mP (t := tX9_make) (ls0 := [.ref 2, .int (nI 2), .ref qa, .ref qb]) rfl rfl (zdnR (zdnI (zdnR (zdnR zdn0)))) rfl ?_
  refine zG_s rfl rfl ?_
  refine zG_s rfl rfl ?_
  refine zG_s rfl rfl ?_
  refine zN_get rfl hI.ob rfl ?_
  refine zG_s rfl rfl ?_
  refine zG_s rfl rfl ?_
  refine zG_s rfl rfl ?_
  refine zG_s rfl rfl ?_
  refine zN_ine (x := 2) (y := 2) rfl (by omega) (by omega) (fun q => absurd rfl q) (fun c2 => ?_)
  refine zG_s rfl rfl ?_
  refine zG_s rfl rfl ?_
  refine zG_cQN rfl rfl hX.1 rfl rfl (cp_sum (jn := true) (by omega) hX hA hB0 hm ha hb (fun q hq => (h1P.sum (jn := true) h2P hm).b hq)) (fun h1 hB => ?_)
  have hY := hB.2
  refine zG_s rfl rfl ?_
  -- leaf 1
  exact zG_ret rfl rfl ⟨rfl, hB.1, hY⟩
theorem ct_make3 {d : Nat} {h : zH} {s : zST} {qa qb n n2 : Nat} {lo lo2 : Nat → Nat} (hI : zCI h s) (hA : zSq h qa n lo) (hB0 : zSq h qb n2 lo2) (h1P : zPre n lo) (h2P : zPre n2 lo2) (ha : zApart 5 qa) (hb : zApart 5 qb) (hm : zMd 3 n n2 ≤ 8) : zCallP (d + 4) 159 [.ref 2, .int (nI 3), .ref qa, .ref qb] h (zRN (fun h1 => zFr (zsS 5) h h1 ∧ zSq h1 5 (zMk 3 n lo n2 lo2).1 (zMk 3 n lo n2 lo2).2)) := by
  have hn := h1P.1
  obtain ⟨m9, l9, h9, hX⟩ := hI.wk
  refine zG_mP (t := tX9_make) (ls0 := [.ref 2, .int (nI 3), .ref qa, .ref qb]) rfl rfl (zdnR (zdnI (zdnR (zdnR zdn0)))) rfl ?_
  refine zG_s rfl rfl ?_
  refine zG_s rfl rfl ?_
  refine zG_s rfl rfl ?_
  refine zN_get rfl hI.ob rfl ?_
  refine zG_s rfl rfl ?_
  refine zG_s rfl rfl ?_
  refine zG_cQN rfl rfl hX.1 rfl rfl (cp_product (by omega) hn h2P.1 hX hA hB0 hm (fun x hx => h1P.b hx) ha hb (fun q hq => (h1P.prod h2P hm).b hq)) (fun h1 hB => ?_)
  have hY := hB.2
  refine zG_s rfl rfl ?_
  -- leaf 1
  exact zG_ret rfl rfl ⟨rfl, hB.1, hY⟩
theorem ct_make4 {d : Nat} {h : zH} {s : zST} {qa qb n n2 : Nat} {lo lo2 : Nat → Nat} (hI : zCI h s) (hA : zSq h qa n lo) (hB0 : zSq h qb n2 lo2) (h1P : zPre n lo) (h2P : zPre n2 lo2) (ha : zApart 5 qa) (hb : zApart 5 qb) (hm : zMd 4 n n2 ≤ 8) : zCallP (d + 4) 159 [.ref 2, .int (nI 4), .ref qa, .ref qb] h (zRN (fun h1 => zFr (zsS 5) h h1 ∧ zSq h1 5 (zMk 4 n lo n2 lo2).1 (zMk 4 n lo n2 lo2).2)) := by
  have hn := h1P.1
  obtain ⟨m9, l9, h9, hX⟩ := hI.wk
  refine zG_mP (t := tX9_make) (ls0 := [.ref 2, .int (nI 4), .ref qa, .ref qb]) rfl rfl (zdnR (zdnI (zdnR (zdnR zdn0)))) rfl ?_
  refine zG_s rfl rfl ?_
  refine zG_s rfl rfl ?_
  refine zG_s rfl rfl ?_
  refine zN_get rfl hI.ob rfl ?_
  refine zG_s rfl rfl ?_
  refine zG_s rfl rfl ?_
  refine zG_s rfl rfl ?_
  refine zN_sub (x := 4) (y := 3) rfl (by omega) ?_
  refine zG_cQN rfl rfl hX.1 rfl rfl (cp_topped (k := 1) (by omega) hX hA hm ha (fun q hq => (h1P.top hm).b hq)) (fun h1 hB => ?_)
  have hY := hB.2
  refine zG_s rfl rfl ?_
  -- leaf 1
  exact zG_ret rfl rfl ⟨rfl, hB.1, hY⟩
theorem ct_make5 {d : Nat} {h : zH} {s : zST} {qa qb n n2 : Nat} {lo lo2 : Nat → Nat} (hI : zCI h s) (hA : zSq h qa n lo) (hB0 : zSq h qb n2 lo2) (h1P : zPre n lo) (h2P : zPre n2 lo2) (ha : zApart 5 qa) (hb : zApart 5 qb) (hm : zMd 5 n n2 ≤ 8) : zCallP (d + 4) 159 [.ref 2, .int (nI 5), .ref qa, .ref qb] h (zRN (fun h1 => zFr (zsS 5) h h1 ∧ zSq h1 5 (zMk 5 n lo n2 lo2).1 (zMk 5 n lo n2 lo2).2)) := by
  have hn := h1P.1
  obtain ⟨m9, l9, h9, hX⟩ := hI.wk
  refine zG_mP (t := tX9_make) (ls0 := [.ref 2, .int (nI 5), .ref qa, .ref qb]) rfl rfl (zdnR (zdnI (zdnR (zdnR zdn0)))) rfl ?_
  refine zG_s rfl rfl ?_
  refine zG_s rfl rfl ?_
  refine zG_s rfl rfl ?_
  refine zN_get rfl hI.ob rfl ?_
  refine zG_s rfl rfl ?_
  refine zG_s rfl rfl ?_
  refine zG_s rfl rfl ?_
  refine zN_sub (x := 5) (y := 3) rfl (by omega) ?_
  refine zG_cQN rfl rfl hX.1 rfl rfl (cp_topped (k := 2) (by omega) hX hA hm ha (fun q hq => (h1P.top hm).b hq)) (fun h1 hB => ?_)
  have hY := hB.2
  refine zG_s rfl rfl ?_
  -- leaf 1
  exact zG_ret rfl rfl ⟨rfl, hB.1, hY⟩
theorem ct_make6 {d : Nat} {h : zH} {s : zST} {qa qb n n2 : Nat} {lo lo2 : Nat → Nat} (hI : zCI h s) (hA : zSq h qa n lo) (hB0 : zSq h qb n2 lo2) (h1P : zPre n lo) (h2P : zPre n2 lo2) (ha : zApart 5 qa) (hb : zApart 5 qb) (hm : zMd 6 n n2 ≤ 8) : zCallP (d + 4) 159 [.ref 2, .int (nI 6), .ref qa, .ref qb] h (zRN (fun h1 => zFr (zsS 5) h h1 ∧ zSq h1 5 (zMk 6 n lo n2 lo2).1 (zMk 6 n lo n2 lo2).2)) := by
  have hn := h1P.1
  obtain ⟨m9, l9, h9, hX⟩ := hI.wk
  refine zG_mP (t := tX9_make) (ls0 := [.ref 2, .int (nI 6), .ref qa, .ref qb]) rfl rfl (zdnR (zdnI (zdnR (zdnR zdn0)))) rfl ?_
  refine zG_s rfl rfl ?_
  refine zG_s rfl rfl ?_
  refine zG_s rfl rfl ?_
  refine zN_get rfl hI.ob rfl ?_
  refine zG_s rfl rfl ?_
  refine zG_s rfl rfl ?_
  refine zG_cV1 rfl rfl hA.1 rfl rfl (ct_firsts ⟨hA, h1P.ok⟩) ?_
  refine zG_cQN rfl rfl hX.1 rfl rfl (cs_part (by omega) hX hA h1P ha zFst_lt) (fun h1 hB => ?_)
  have hY := hB.2
  -- leaf 1
  exact zG_ret rfl rfl ⟨rfl, hB.1, hY⟩
theorem ct_make {d : Nat} {h : zH} {s : zST} {qa qb n n2 w : Nat} {lo lo2 : Nat → Nat} (hw : w < 7) (hI : zCI h s) (hA : zSq h qa n lo) (hB0 : zSq h qb n2 lo2) (h1P : zPre n lo) (h2P : zPre n2 lo2) (ha : zApart 5 qa) (hb : zApart 5 qb) (hm : zMd w n n2 ≤ 8) : zCallP (d + 4) 159 [.ref 2, .int (nI w), .ref qa, .ref qb] h (zRN (fun h1 => zFr (zsS 5) h h1 ∧ zSq h1 5 (zMk w n lo n2 lo2).1 (zMk w n lo n2 lo2).2)) := by
  match w, hw with
  | 0, _ => exact ct_make0 hI hA hB0 h1P h2P ha hb hm
  | 1, _ => exact ct_make1 hI hA hB0 h1P h2P ha hb hm
  | 2, _ => exact ct_make2 hI hA hB0 h1P h2P ha hb hm
  | 3, _ => exact ct_make3 hI hA hB0 h1P h2P ha hb hm
  | 4, _ => exact ct_make4 hI hA hB0 h1P h2P ha hb hm
  | 5, _ => exact ct_make5 hI hA hB0 h1P h2P ha hb hm
  | 6, _ => exact ct_make6 hI hA hB0 h1P h2P ha hb hm
theorem ct_madeSize0 {d : Nat} {h : zH} {m m2 : Nat} : zCall (d + 1) 158 [.int (nI 0), .int (nI m), .int (nI m2)] h (some (.int (nI (zMd 0 m m2))), h) := by
  refine zG_m (t := tX9_madeSize) (ls0 := [.int (nI 0), .int (nI m), .int (nI m2)]) rfl rfl (zdnI (zdnI (zdnI zdn0))) rfl ?_
  refine zG_s rfl rfl ?_
  refine zG_s rfl rfl ?_
  refine zG_s rfl rfl ?_
  -- leaf 1
  exact zG_ret rfl rfl rfl
theorem ct_madeSize1 {d : Nat} {h : zH} {m m2 : Nat} : zCall (d + 1) 158 [.int (nI 1), .int (nI m), .int (nI m2)] h (some (.int (nI (zMd 1 m m2))), h) := by
  refine zG_m (t := tX9_madeSize) (ls0 := [.int (nI 1), .int (nI m), .int (nI m2)]) rfl rfl (zdnI (zdnI (zdnI zdn0))) rfl ?_
  refine zG_s rfl rfl ?_
  refine zG_s rfl rfl ?_
  refine zG_s rfl rfl ?_
  refine zG_s rfl rfl ?_
  refine zN_add rfl ?_
  -- leaf 1
  exact zG_ret rfl rfl rfl
theorem ct_madeSize2 {d : Nat} {h : zH} {m m2 : Nat} : zCall (d + 1) 158 [.int (nI 2), .int (nI m), .int (nI m2)] h (some (.int (nI (zMd 2 m m2))), h) := by
  refine zG_m (t := tX9_madeSize) (ls0 := [.int (nI 2), .int (nI m), .int (nI m2)]) rfl rfl (zdnI (zdnI (zdnI zdn0))) rfl ?_
  refine zG_s rfl rfl ?_
  refine zG_s rfl rfl ?_
  refine zG_s rfl rfl ?_
  refine zG_s rfl rfl ?_
  refine zN_add rfl ?_
  -- leaf 1
  exact zG_ret rfl rfl rfl
theorem ct_madeSize3 {d : Nat} {h : zH} {m m2 : Nat} : zCall (d + 1) 158 [.int (nI 3), .int (nI m), .int (nI m2)] h (some (.int (nI (zMd 3 m m2))), h) := by
  refine zG_m (t := tX9_madeSize) (ls0 := [.int (nI 3), .int (nI m), .int (nI m2)]) rfl rfl (zdnI (zdnI (zdnI zdn0))) rfl ?_
  refine zG_s rfl rfl ?_
  refine zG_s rfl rfl ?_
  refine zG_s rfl rfl ?_
  refine zG_s rfl rfl ?_
  refine zN_mul rfl ?_
  -- leaf 1
  exact zG_ret rfl rfl rfl
theorem ct_madeSize4 {d : Nat} {h : zH} {m m2 : Nat} : zCall (d + 1) 158 [.int (nI 4), .int (nI m), .int (nI m2)] h (some (.int (nI (zMd 4 m m2))), h) := by
  refine zG_m (t := tX9_madeSize) (ls0 := [.int (nI 4), .int (nI m), .int (nI m2)]) rfl rfl (zdnI (zdnI (zdnI zdn0))) rfl ?_
  refine zG_s rfl rfl ?_
  refine zG_s rfl rfl ?_
  refine zG_s rfl rfl ?_
  refine zG_s rfl rfl ?_
  refine zN_add rfl ?_
  -- leaf 1
  exact zG_ret rfl rfl rfl
theorem ct_madeSize5 {d : Nat} {h : zH} {m m2 : Nat} : zCall (d + 1) 158 [.int (nI 5), .int (nI m), .int (nI m2)] h (some (.int (nI (zMd 5 m m2))), h) := by
  refine zG_m (t := tX9_madeSize) (ls0 := [.int (nI 5), .int (nI m), .int (nI m2)]) rfl rfl (zdnI (zdnI (zdnI zdn0))) rfl ?_
  refine zG_s rfl rfl ?_
  refine zG_s rfl rfl ?_
  refine zG_s rfl rfl ?_
  refine zG_s rfl rfl ?_
  refine zN_add rfl ?_
  -- leaf 1
  exact zG_ret rfl rfl rfl
theorem ct_madeSize6 {d : Nat} {h : zH} {m m2 : Nat} : zCall (d + 1) 158 [.int (nI 6), .int (nI m), .int (nI m2)] h (some (.int (nI (zMd 6 m m2))), h) := by
  refine zG_m (t := tX9_madeSize) (ls0 := [.int (nI 6), .int (nI m), .int (nI m2)]) rfl rfl (zdnI (zdnI (zdnI zdn0))) rfl ?_
  refine zG_s rfl rfl ?_
  refine zG_s rfl rfl ?_
  refine zG_s rfl rfl ?_
  -- leaf 1
  exact zG_ret rfl rfl rfl
theorem ct_madeSize {d : Nat} {h : zH} {m m2 w : Nat} (hw : w < 7) : zCall (d + 1) 158 [.int (nI w), .int (nI m), .int (nI m2)] h (some (.int (nI (zMd w m m2))), h) := by
  match w, hw with
  | 0, _ => exact ct_madeSize0
  | 1, _ => exact ct_madeSize1
  | 2, _ => exact ct_madeSize2
  | 3, _ => exact ct_madeSize3
  | 4, _ => exact ct_madeSize4
  | 5, _ => exact ct_madeSize5
  | 6, _ => exact ct_madeSize6
theorem co_madeA {d : Nat} {h : zH} {s : zST} {w : Nat} {b c e : Int32} (hI : zCI h s) (hW : zWT s) (hw : w < 7) (hne : ¬ (1 ≤ w ∧ w ≤ 3)) : zCallP (d + 5) 125 [.ref 2, .int (nI w), .int b, .int c, .int e] h (zOut h (zo_made s (nI w) b c e)) := by
  have hF : zFr zcR h h := zFr.rf
  refine zG_mP (t := tX9_made) (ls0 := [.ref 2, .int (nI w), .int b, .int c, .int e, .null, .null, .null]) rfl rfl (zdnR (zdnI (zdnI (zdnI (zdnI zdn0))))) rfl ?_
  refine zG_s rfl rfl ?_
  refine zN_lt0 rfl (by omega) ?_
  refine zG_s rfl rfl ?_
  refine zG_s rfl rfl ?_
  refine zN_igt (y := 6) rfl (by omega) (by omega) (fun q => absurd q (by omega)) (fun c4 => ?_)
  refine zG_s rfl rfl ?_
  refine zG_cS1 rfl rfl ct_isSpace ?_
  refine zN_ifb rfl (fun c5 => ?_) (fun c6 => ?_)
  · skip
    refine zG_s rfl rfl ?_
    -- leaf 1
    exact zG_ret rfl rfl (zfin (by rw [zo_made, zb_i hw (by omega), zb_no c5]) hF hI)
  · skip
    obtain ⟨i, hi, rfl⟩ := zin_of c6 (by omega)
    refine zG_s rfl rfl ?_
    refine zG_cS1 rfl rfl ct_isSpace ?_
    refine zN_ifnb rfl (fun c7 => ?_) (fun c8 => ?_)
    · skip
      obtain ⟨j, hj, rfl⟩ := zin_of c7 (by omega)
      have jn42 : True → zGoP (d + 4) tX9_made 42 [.ref 2, .int (nI w), .int (nI i), .int c, .int (nI j), .null, .null, .null] [.int (nI 0)] h (zOut h (zo_made s (nI w) (nI i) c (nI j))) := by
        intro _
        refine zN_st5 rfl (fun _ _ _ => rfl) rfl ?_
        refine zG_s rfl rfl ?_
        refine zN_eq0 (x := 0) rfl (by omega) (fun c9 => ?_) (fun q => absurd q (by decide))
        refine zG_s rfl rfl ?_
        refine zN_get rfl hI.ob rfl ?_
        refine zG_s rfl rfl ?_
        refine zN_qa (tt := 0) rfl hI.as (by omega) (by omega) ?_
        refine zN_sta6 rfl (fun _ _ _ => rfl) rfl ?_
        refine zG_s rfl rfl ?_
        refine zN_eq0 (x := 0) rfl (by omega) (fun c11 => ?_) (fun q => absurd q (by decide))
        refine zG_s rfl rfl ?_
        have hP := hW.1 i hi
        have hP2 := hW.1 i hi
        have hmd : zMd w (s.1 i).1 (s.1 i).1 < 2 ^ 31 := by
          have h1 := hP.1
          have h2 := hP2.1
          have h3 := Nat.mul_le_mul h1 h2
          unfold zMd
          repeat' split
          all_goals omega
        refine zN_sta7 rfl (fun _ _ _ => rfl) rfl ?_
        refine zG_s rfl rfl ?_
        refine zG_s rfl rfl ?_
        refine zN_get rfl (hI.sp _ (by omega)).1 rfl ?_
        refine zG_s rfl rfl ?_
        refine zN_get rfl (hI.sp _ (by omega)).1 rfl ?_
        refine zG_cS1 rfl rfl (ct_madeSize hw) ?_
        refine zG_s rfl rfl ?_
        refine zN_ile (y := 8) rfl (by omega) (by omega) (fun c13 => ?_) (fun c14 => ?_)
        · skip
          refine zG_s rfl rfl ?_
          refine zG_s rfl rfl ?_
          refine zG_s rfl rfl ?_
          refine zG_s rfl rfl ?_
          refine zG_cQN rfl rfl hI.ob rfl rfl (ct_make hw hI (hI.sp i hi) (hI.sp i hi) hP hP2 (by unfold zApart; omega) (by unfold zApart; omega) (by omega)) (fun h2 hB => ?_)
          have hF := hF.tr (hB.1.mono zcR_s5)
          have hI := hI.u_wk hB.2 hB.1
          refine zG_s rfl rfl ?_
          refine zG_s rfl rfl ?_
          refine zG_cQV rfl rfl hI.ob rfl rfl (ct_settle hI hj hB.2 (hP.mk hP2 (by omega)).1) (fun h3 hB3 => ?_)
          have hF := hF.tr hB3.1
          have hI := hB3.2
          -- leaf 2
          exact zG_ret rfl rfl (zfin (by rw [zo_made, zb_i hw (by omega), zb_i hi (by omega), zb_i hj (by omega), if_neg hne, zMade, if_neg (by omega)]) hF hI)
        · skip
          refine zG_s rfl rfl ?_
          -- leaf 3
          exact zG_ret rfl rfl (zfin (by rw [zo_made, zb_i hw (by omega), zb_i hi (by omega), zb_i hj (by omega), if_neg hne, zMade, if_pos (by omega)]) hF hI)
      refine zG_s rfl rfl ?_
      refine zG_s rfl rfl ?_
      refine zN_ilt (y := 1) rfl (by omega) (by omega) (fun c15 => ?_) (fun c16 => ?_)
      · skip
        refine zG_s rfl rfl ?_
        -- leaf 4
        exact jn42 trivial
      · skip
        refine zG_s rfl rfl ?_
        refine zG_s rfl rfl ?_
        refine zN_igt (y := 3) rfl (by omega) (by omega) (fun c17 => ?_) (fun q => absurd q (by omega))
        refine zG_s rfl rfl ?_
        -- leaf 5
        exact jn42 trivial
    · skip
      refine zG_s rfl rfl ?_
      -- leaf 6
      exact zG_ret rfl rfl (zfin (by rw [zo_made, zb_i hw (by omega), zb_i hi (by omega), zb_no c8]) hF hI)
theorem co_madeB {d : Nat} {h : zH} {s : zST} {w : Nat} {b c e : Int32} (hI : zCI h s) (hW : zWT s) (hw : w < 7) (hne : 1 ≤ w ∧ w ≤ 3) : zCallP (d + 5) 125 [.ref 2, .int (nI w), .int b, .int c, .int e] h (zOut h (zo_made s (nI w) b c e)) := by
  have hF : zFr zcR h h := zFr.rf
  refine zG_mP (t := tX9_made) (ls0 := [.ref 2, .int (nI w), .int b, .int c, .int e, .null, .null, .null]) rfl rfl (zdnR (zdnI (zdnI (zdnI (zdnI zdn0))))) rfl ?_
  refine zG_s rfl rfl ?_
  refine zN_lt0 rfl (by omega) ?_
  refine zG_s rfl rfl ?_
  refine zG_s rfl rfl ?_
  refine zN_igt (y := 6) rfl (by omega) (by omega) (fun q => absurd q (by omega)) (fun c4 => ?_)
  refine zG_s rfl rfl ?_
  refine zG_cS1 rfl rfl ct_isSpace ?_
  refine zN_ifb rfl (fun c5 => ?_) (fun c6 => ?_)
  · skip
    refine zG_s rfl rfl ?_
    -- leaf 1
    exact zG_ret rfl rfl (zfin (by rw [zo_made, zb_i hw (by omega), zb_no c5]) hF hI)
  · skip
    obtain ⟨i, hi, rfl⟩ := zin_of c6 (by omega)
    refine zG_s rfl rfl ?_
    refine zG_cS1 rfl rfl ct_isSpace ?_
    refine zN_ifnb rfl (fun c7 => ?_) (fun c8 => ?_)
    · skip
      obtain ⟨j, hj, rfl⟩ := zin_of c7 (by omega)
      have jn42 : True → zGoP (d + 4) tX9_made 42 [.ref 2, .int (nI w), .int (nI i), .int c, .int (nI j), .null, .null, .null] [.int (nI 1)] h (zOut h (zo_made s (nI w) (nI i) c (nI j))) := by
        intro _
        refine zN_st5 rfl (fun _ _ _ => rfl) rfl ?_
        refine zG_s rfl rfl ?_
        refine zN_eq0 (x := 1) rfl (by omega) (fun q => absurd q (by decide)) (fun c10 => ?_)
        refine zG_s rfl rfl ?_
        refine zG_cS1 rfl rfl ct_isSpace ?_
        refine zN_ifnb rfl (fun c11 => ?_) (fun c12 => ?_)
        · skip
          obtain ⟨k, hk, rfl⟩ := zin_of c11 (by omega)
          refine zG_s rfl rfl ?_
          refine zN_get rfl hI.ob rfl ?_
          refine zG_s rfl rfl ?_
          refine zN_qa (tt := 0) rfl hI.as (by omega) (by omega) ?_
          refine zN_sta6 rfl (fun _ _ _ => rfl) rfl ?_
          refine zG_s rfl rfl ?_
          refine zN_eq0 (x := 1) rfl (by omega) (fun q => absurd q (by decide)) (fun c14 => ?_)
          refine zG_s rfl rfl ?_
          refine zN_get rfl hI.ob rfl ?_
          refine zG_s rfl rfl ?_
          refine zN_qa (tt := 0) rfl hI.as (by omega) (by omega) ?_
          refine zG_s rfl rfl ?_
          have hP := hW.1 i hi
          have hP2 := hW.1 k hk
          have hmd : zMd w (s.1 i).1 (s.1 k).1 < 2 ^ 31 := by
            have h1 := hP.1
            have h2 := hP2.1
            have h3 := Nat.mul_le_mul h1 h2
            unfold zMd
            repeat' split
            all_goals omega
          refine zN_sta7 rfl (fun _ _ _ => rfl) rfl ?_
          refine zG_s rfl rfl ?_
          refine zG_s rfl rfl ?_
          refine zN_get rfl (hI.sp _ (by omega)).1 rfl ?_
          refine zG_s rfl rfl ?_
          refine zN_get rfl (hI.sp _ (by omega)).1 rfl ?_
          refine zG_cS1 rfl rfl (ct_madeSize hw) ?_
          refine zG_s rfl rfl ?_
          refine zN_ile (y := 8) rfl (by omega) (by omega) (fun c15 => ?_) (fun c16 => ?_)
          · skip
            refine zG_s rfl rfl ?_
            refine zG_s rfl rfl ?_
            refine zG_s rfl rfl ?_
            refine zG_s rfl rfl ?_
            refine zG_cQN rfl rfl hI.ob rfl rfl (ct_make hw hI (hI.sp i hi) (hI.sp k hk) hP hP2 (by unfold zApart; omega) (by unfold zApart; omega) (by omega)) (fun h2 hB => ?_)
            have hF := hF.tr (hB.1.mono zcR_s5)
            have hI := hI.u_wk hB.2 hB.1
            refine zG_s rfl rfl ?_
            refine zG_s rfl rfl ?_
            refine zG_cQV rfl rfl hI.ob rfl rfl (ct_settle hI hj hB.2 (hP.mk hP2 (by omega)).1) (fun h3 hB3 => ?_)
            have hF := hF.tr hB3.1
            have hI := hB3.2
            -- leaf 2
            exact zG_ret rfl rfl (zfin (by rw [zo_made, zb_i hw (by omega), zb_i hi (by omega), zb_i hj (by omega), if_pos hne, zb_i hk (by omega), zMade, if_neg (by omega)]) hF hI)
          · skip
            refine zG_s rfl rfl ?_
            -- leaf 3
            exact zG_ret rfl rfl (zfin (by rw [zo_made, zb_i hw (by omega), zb_i hi (by omega), zb_i hj (by omega), if_pos hne, zb_i hk (by omega), zMade, if_pos (by omega)]) hF hI)
        · skip
          refine zG_s rfl rfl ?_
          -- leaf 4
          exact zG_ret rfl rfl (zfin (by rw [zo_made, zb_i hw (by omega), zb_i hi (by omega), zb_i hj (by omega), if_pos hne, zb_no c12]) hF hI)
      refine zG_s rfl rfl ?_
      refine zG_s rfl rfl ?_
      refine zN_ilt (y := 1) rfl (by omega) (by omega) (fun q => absurd q (by omega)) (fun c18 => ?_)
      refine zG_s rfl rfl ?_
      refine zG_s rfl rfl ?_
      refine zN_igt (y := 3) rfl (by omega) (by omega) (fun q => absurd q (by omega)) (fun c20 => ?_)
      refine zG_s rfl rfl ?_
      refine zG_s rfl rfl ?_
      -- leaf 5
      exact jn42 trivial
    · skip
      refine zG_s rfl rfl ?_
      -- leaf 6
      exact zG_ret rfl rfl (zfin (by rw [zo_made, zb_i hw (by omega), zb_i hi (by omega), zb_no c8]) hF hI)
theorem co_madeC {d : Nat} {h : zH} {s : zST} {a b c e : Int32} (hI : zCI h s) (hW : zWT s) (hq : zin a 7 = false) : zCallP (d + 5) 125 [.ref 2, .int a, .int b, .int c, .int e] h (zOut h (zo_made s a b c e)) := by
  have hF : zFr zcR h h := zFr.rf
  refine zG_mP (t := tX9_made) (ls0 := [.ref 2, .int a, .int b, .int c, .int e, .null, .null, .null]) rfl rfl (zdnR (zdnI (zdnI (zdnI (zdnI zdn0))))) rfl ?_
  refine zG_s rfl rfl ?_
  refine zN_if rfl (fun c1 => ?_) (fun c2 => ?_)
  · skip
    refine zG_s rfl rfl ?_
    -- leaf 1
    exact zG_ret rfl rfl (zfin (by rw [zo_made, zb_no hq]) hF hI)
  · skip
    refine zG_s rfl rfl ?_
    refine zG_s rfl rfl ?_
    refine zN_if2 rfl (fun c3 => ?_) (fun g => by rw [zraw_in2 (n := 6) (by decide) c2 g] at hq; cases hq)
    refine zG_s rfl rfl ?_
    -- leaf 2
    exact zG_ret rfl rfl (zfin (by rw [zo_made, zb_no hq]) hF hI)
theorem co_made {d : Nat} {h : zH} {s : zST} {a b c e : Int32} (hI : zCI h s) (hW : zWT s) : zCallP (d + 5) 125 [.ref 2, .int a, .int b, .int c, .int e] h (zOut h (zo_made s a b c e)) := by
  cases q : zin a 7 with
  | true =>
    obtain ⟨w, hw, rfl⟩ := zin_of q (by decide)
    by_cases g : 1 ≤ w ∧ w ≤ 3
    · exact co_madeB hI hW hw g
    · exact co_madeA hI hW hw g
  | false => exact co_madeC hI hW q
theorem co_part {d : Nat} {h : zH} {s : zST} {a b c : Int32} (hI : zCI h s) (hW : zWT s) : zCallP (d + 4) 126 [.ref 2, .int a, .int b, .int c] h (zOut h (zo_part s a b c)) := by
  have hF : zFr zcR h h := zFr.rf
  refine zG_mP (t := tX9_part) (ls0 := [.ref 2, .int a, .int b, .int c]) rfl rfl (zdnR (zdnI (zdnI (zdnI zdn0)))) rfl ?_
  refine zG_s rfl rfl ?_
  refine zG_cS1 rfl rfl ct_isSpace ?_
  refine zN_ifb rfl (fun c1 => ?_) (fun c2 => ?_)
  · skip
    refine zG_s rfl rfl ?_
    -- leaf 1
    exact zG_ret rfl rfl (zfin (by rw [zo_part, zb_no c1]) hF hI)
  · skip
    obtain ⟨i, hi, rfl⟩ := zin_of c2 (by omega)
    have hP := hW.1 i hi
    have hn := hP.1
    have hn2 := zpow_le hn
    refine zG_s rfl rfl ?_
    refine zN_get rfl hI.ob rfl ?_
    refine zG_s rfl rfl ?_
    refine zN_qa (tt := 0) rfl hI.as (by omega) (by omega) ?_
    refine zG_s rfl rfl ?_
    refine zG_cV1 rfl rfl (hI.sp i hi).1 rfl rfl (ct_hasSet (hI.sp i hi).1 hn) ?_
    refine zN_ifb rfl (fun c3 => ?_) (fun c4 => ?_)
    · skip
      refine zG_s rfl rfl ?_
      -- leaf 2
      exact zG_ret rfl rfl (zfin (by rw [zo_part, zb_i hi (by omega), zb_no c3]) hF hI)
    · skip
      obtain ⟨p, hp, rfl⟩ := zin_of c4 (by omega)
      refine zG_s rfl rfl ?_
      refine zG_cS1 rfl rfl ct_isSpace ?_
      refine zN_ifnb rfl (fun c5 => ?_) (fun c6 => ?_)
      · skip
        obtain ⟨j, hj, rfl⟩ := zin_of c5 (by omega)
        refine zG_s rfl rfl ?_
        refine zN_get rfl hI.ob rfl ?_
        refine zG_s rfl rfl ?_
        refine zN_get rfl hI.ob rfl ?_
        refine zG_s rfl rfl ?_
        refine zN_qa (tt := 0) rfl hI.as (by omega) (by omega) ?_
        refine zG_s rfl rfl ?_
        obtain ⟨m9, l9, h9, hX⟩ := hI.wk
        refine zG_cQN rfl rfl hX.1 rfl rfl (cs_part (by omega) hX (hI.sp i hi) hP (by unfold zApart; omega) hp) (fun h2 hB => ?_)
        have hF := hF.tr (hB.1.mono zcR_s5)
        have hI := hI.u_wk hB.2 hB.1
        refine zG_s rfl rfl ?_
        refine zG_s rfl rfl ?_
        refine zG_cQV rfl rfl hI.ob rfl rfl (ct_settle hI hj hB.2 (Nat.le_trans (zct_le _ _) hn)) (fun h3 hB3 => ?_)
        have hF := hF.tr hB3.1
        have hI := hB3.2
        -- leaf 3
        exact zG_ret rfl rfl (zfin (by rw [zo_part, zb_i hi (by omega), zb_i hp (by omega), zb_i hj (by omega)]; first | done | rfl) hF hI)
      · skip
        refine zG_s rfl rfl ?_
        -- leaf 4
        exact zG_ret rfl rfl (zfin (by rw [zo_part, zb_i hi (by omega), zb_i hp (by omega), zb_no c6]) hF hI)
