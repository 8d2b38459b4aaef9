theorem ct_unlikeEnds {d : Nat} {h : zH} {s : zST} {i m n9 : Nat} {E : Nat → Nat} {fl fh fb fa ft sh rw en im : Nat → Int32} (hI : zCI h s) (hW : zWT s) (hi : i < 6) (hG : zG0 h 8 n9 (nI m) fl fh fb fa ft sh rw en im) (hm : m ≤ 256) (hE : ∀ k, k < m → en k = nI (E k) ∧ E k < 256) : zCallP (d + 13) 157 [.ref 2, .ref (68 + 6 * i)] h (zRV (.int (nI (zUnl (s.1 i).1 (s.1 i).2 E m))) (fun h1 => zFr (zmS 18) h h1 ∧ zMx h1 18)) := by
  have hP := hW.1 i hi
  have hS := hI.sp i hi
  unfold zUnl
  generalize hcq : (fun k => zAl (fun j => !zSm2 (s.1 i).1 (s.1 i).2 (E k) (s.1 i).1 (s.1 i).2 (E j)) k) = cq
  have hcx : ∀ k, cq k = zAl (fun j => !zSm2 (s.1 i).1 (s.1 i).2 (E k) (s.1 i).1 (s.1 i).2 (E j)) k := fun k => by rw [← hcq]
  generalize hQ : (zRV (.int (nI (zct cq m))) (fun h1 => zFr (zmS 18) h h1 ∧ zMx h1 18)) = Q
  refine zG_mP (t := tX9_unlikeEnds) (ls0 := [.ref 2, .ref (68 + 6 * i), .null, .null, .null, .null]) rfl rfl (zdnR (zdnR zdn0)) rfl ?_
  refine zG_s rfl rfl ?_
  refine zN_st2 rfl (fun _ _ _ => rfl) rfl ?_
  refine zG_s rfl rfl ?_
  refine zN_st3 rfl (fun _ _ _ => rfl) rfl ?_
  have main4 : ∀ k, k ≤ m → ∀ (h1 : zH) (x4 x5 : Value), zok1 [.ref 2, .ref (68 + 6 * i), .int (nI (zct cq k)), .int (nI k), x4, x5] 5 = true → zFr (zmS 18) h h1 → zMx h1 18 → zGoP (d + 12) tX9_unlikeEnds 4 [.ref 2, .ref (68 + 6 * i), .int (nI (zct cq k)), .int (nI k), x4, x5] [] h1 Q := by
    refine zdown (m) ?_ (fun k hp4 ih4 => ?_)
    · skip
      intro h1 x4 x5 e5 hF hM
      have hI1 := hI.u_ma hM hF
      have hG1 := hG.fr hF (fun k hk => by unfold zmS; omega)
      refine zG_s rfl rfl ?_
      refine zG_s rfl rfl ?_
      refine zN_get rfl hI1.ob rfl ?_
      refine zN_get rfl hG1.o rfl ?_
      refine zN_ige rfl (by omega) (by omega) (fun c1 => ?_) (fun c2 => absurd c2 (by omega))
      refine zG_s rfl rfl ?_
      -- leaf 1
      rw [← hQ]
      exact zG_ret rfl rfl ⟨rfl, hF, hM⟩
    · skip
      intro h1 x4 x5 e5 hF hM
      have hI1 := hI.u_ma hM hF
      have hG1 := hG.fr hF (fun k hk => by unfold zmS; omega)
      refine zG_s rfl rfl ?_
      refine zG_s rfl rfl ?_
      refine zN_get rfl hI1.ob rfl ?_
      refine zN_get rfl hG1.o rfl ?_
      refine zN_ige rfl (by omega) (by omega) (fun c3 => absurd c3 (by omega)) (fun c4 => ?_)
      have jn76 : ∀ (h2 : zH) (w : Bool) (x5 : Value), zok1 [.ref 2, .ref (68 + 6 * i), .int (nI (zct cq k)), .int (nI k), .int (nI (b2n w)), x5] 5 = true → zFr (zmS 18) h h2 → zMx h2 18 → w = cq k → zGoP (d + 12) tX9_unlikeEnds 76 [.ref 2, .ref (68 + 6 * i), .int (nI (zct cq k)), .int (nI k), .int (nI (b2n w)), x5] [] h2 Q := by
        intro h2 w x5 e5 hF hM ew
        refine zG_s rfl rfl ?_
        refine zG_s rfl rfl ?_
        first | refine zN_ifb rfl (fun c5 => ?_) (fun c6 => ?_) | refine zN_eq0 rfl (by omega) (fun c5 => ?_) (fun c6 => ?_)
        · skip
          refine zG_s rfl rfl ?_
          refine zN_add rfl ?_
          refine zN_st2 rfl (fun _ _ _ => rfl) rfl ?_
          refine zN_inc3 rfl rfl ?_
          refine zG_s rfl rfl ?_
          -- leaf 2
          rw [zct_no (by rw [← ew, c5])] at ih4
          exact ih4 _ _ _ rfl hF hM
        · skip
          refine zG_s rfl rfl ?_
          refine zG_s rfl rfl ?_
          refine zN_add rfl ?_
          refine zN_st2 rfl (fun _ _ _ => rfl) rfl ?_
          refine zN_inc3 rfl rfl ?_
          refine zG_s rfl rfl ?_
          -- leaf 3
          rw [zct_yes (by rw [← ew, c6])] at ih4
          exact ih4 _ _ _ rfl hF hM
      refine zG_s rfl rfl ?_
      refine zN_st4 rfl (fun _ _ _ => rfl) rfl ?_
      refine zG_s rfl rfl ?_
      refine zN_st5 rfl (fun _ _ _ => rfl) rfl ?_
      have main21 : ∀ j, j ≤ k → ∀ h1 : zH, zFr (zmS 18) h h1 → zMx h1 18 → zGoP (d + 12) tX9_unlikeEnds 21 [.ref 2, .ref (68 + 6 * i), .int (nI (zct cq k)), .int (nI k), .int (nI (b2n (zAl (fun j => !zSm2 (s.1 i).1 (s.1 i).2 (E k) (s.1 i).1 (s.1 i).2 (E j)) j))), .int (nI j)] [] h1 Q := by
        refine zdown (k) ?_ (fun j hp21 ih21 => ?_)
        · skip
          intro h1 hF hM
          refine zG_s rfl rfl ?_
          refine zG_s rfl rfl ?_
          refine zN_ige rfl (by omega) (by omega) (fun c7 => ?_) (fun c8 => absurd c8 (by omega))
          -- leaf 4
          exact jn76 _ _ _ rfl hF hM (hcx k).symm
        · skip
          intro h1 hF hM
          have hI1 := hI.u_ma hM hF
          have hG1 := hG.fr hF (fun k hk => by unfold zmS; omega)
          have hb9 := zAl_stop (p := fun j => !zSm2 (s.1 i).1 (s.1 i).2 (E k) (s.1 i).1 (s.1 i).2 (E j)) (x := j) (n := k)
          refine zG_s rfl rfl ?_
          refine zG_s rfl rfl ?_
          refine zN_ige rfl (by omega) (by omega) (fun c9 => absurd c9 (by omega)) (fun c10 => ?_)
          refine zG_s rfl rfl ?_
          first | refine zN_ifb rfl (fun c11 => ?_) (fun c12 => ?_) | refine zN_eq0 rfl (by omega) (fun c11 => ?_) (fun c12 => ?_)
          · skip
            -- leaf 5
            exact jn76 _ _ _ rfl hF hM (by rw [hcx, hb9 c11 (by omega), c11])
          · skip
            refine zG_s rfl rfl ?_
            refine zN_get rfl hI1.ob rfl ?_
            refine zG_s rfl rfl ?_
            refine zG_s rfl rfl ?_
            refine zN_get rfl hI1.ob rfl ?_
            refine zN_get rfl hG1.o rfl ?_
            refine zG_s rfl rfl ?_
            refine zN_ald rfl hG1.en (by omega) (by omega) (hE k hp4).1 ?_
            refine zG_s rfl rfl ?_
            refine zG_s rfl rfl ?_
            refine zN_get rfl hI1.ob rfl ?_
            refine zN_get rfl hG1.o rfl ?_
            refine zG_s rfl rfl ?_
            refine zN_ald rfl hG1.en (by omega) (by omega) (hE j (by omega)).1 ?_
            obtain ⟨nA, nB, ex, fe, fl9, fh9, tl9, th9, im9, hM9⟩ := hI1.ma
            refine zG_cQV rfl rfl hM9.1 rfl rfl (ct_areSame (by omega) hI1.ma (hI1.sp i hi) (hI1.sp i hi) hP.ok hP.ok (by unfold zmN; omega) (by unfold zmN; omega) (hE k hp4).2 (hE j (by omega)).2) (fun h2 hB => ?_)
            have hF := hF.tr hB.1
            have hM : zMx h2 18 := by
              obtain ⟨-, a1, a2, a3, a4, a5, a6, a7, a8, a9, hB, -⟩ := hB
              exact ⟨a1, a2, a3, a4, a5, a6, a7, a8, a9, hB⟩
            have jn68 : ∀ w : Bool, w = zAl (fun j => !zSm2 (s.1 i).1 (s.1 i).2 (E k) (s.1 i).1 (s.1 i).2 (E j)) (j + 1) → zGoP (d + 12) tX9_unlikeEnds 68 [.ref 2, .ref (68 + 6 * i), .int (nI (zct cq k)), .int (nI k), .int (nI (b2n (zAl (fun j => !zSm2 (s.1 i).1 (s.1 i).2 (E k) (s.1 i).1 (s.1 i).2 (E j)) j))), .int (nI j)] [.int (nI (b2n w))] h2 Q := by
              intro w ew
              refine zN_st4 rfl (fun _ _ _ => rfl) rfl ?_
              refine zN_inc5 rfl rfl ?_
              refine zG_s rfl rfl ?_
              -- leaf 6
              rw [← ew] at ih21
              exact ih21 _ hF hM
            first | refine zN_ifnb rfl (fun c13 => ?_) (fun c14 => ?_) | refine zN_ne0 rfl (by omega) (fun c13 => ?_) (fun c14 => ?_)
            · skip
              refine zG_s rfl rfl ?_
              -- leaf 7
              exact jn68 false (by rw [zAl, c12, Bool.true_and]; show false = !zSm2 (s.1 i).1 (s.1 i).2 (E k) (s.1 i).1 (s.1 i).2 (E j); rw [show zSm2 (s.1 i).1 (s.1 i).2 (E k) (s.1 i).1 (s.1 i).2 (E j) = true from c13]; rfl)
            · skip
              refine zG_s rfl rfl ?_
              refine zG_s rfl rfl ?_
              -- leaf 8
              exact jn68 true (by rw [zAl, c12, Bool.true_and]; show true = !zSm2 (s.1 i).1 (s.1 i).2 (E k) (s.1 i).1 (s.1 i).2 (E j); rw [show zSm2 (s.1 i).1 (s.1 i).2 (E k) (s.1 i).1 (s.1 i).2 (E j) = false from c14]; rfl)
      exact main21 0 (by omega) h1 hF hM
  exact main4 0 (by omega) h _ _ rfl zFr.rf hI.ma
theorem zW_en {n k : Nat} {lo hi : Nat → Nat} (hn : n ≤ 8) : ∀ j, j ≤ 1 <<< n → ∀ i, (zW n lo hi k j).2.1 i < 256
  | 0, _, i => by show 0 < 256; decide
  | j + 1, hj, i => by
    have ih := zW_en (k := k) (lo := lo) (hi := hi) hn j (by omega) i
    have h2 := zpow_le hn
    rw [zW]
    split
    · show zupd _ _ _ i < 256
      unfold zupd
      split
      · omega
      · exact ih
    · exact ih
theorem co_ways {d : Nat} {h : zH} {s : zST} {a b c : Int32} (hI : zCI h s) (hW : zWT s) : zCallP (d + 14) 108 [.ref 2, .int a, .int b, .int c] h (zOut h (zo_ways s a b c)) := by
  have hF : zFr zcR h h := zFr.rf
  refine zG_mP (t := tX9_ways) (ls0 := [.ref 2, .int a, .int b, .int c, .null]) rfl rfl (zdnR (zdnI (zdnI (zdnI zdn0)))) rfl ?_
  refine zG_s rfl rfl ?_
  refine zG_cS1 rfl rfl ct_isSpace ?_
  refine zN_ifb rfl (fun c1 => ?_) (fun c2 => ?_)
  · skip
    refine zG_s rfl rfl ?_
    -- leaf 1
    exact zG_ret rfl rfl (zfin (by rw [zo_ways, zb_no c1]) hF hI)
  · skip
    obtain ⟨i, hi, rfl⟩ := zin_of c2 (by omega)
    have hP := hW.1 i hi
    have hn := hP.1
    have hS := hI.sp i hi
    have hn2 := zpow_le hn
    refine zG_s rfl rfl ?_
    refine zG_cS1 rfl rfl ct_isKind ?_
    refine zN_ifb rfl (fun c3 => ?_) (fun c4 => ?_)
    · skip
      refine zG_s rfl rfl ?_
      -- leaf 2
      exact zG_ret rfl rfl (zfin (by rw [zo_ways, zb_i hi (by omega), zb_no c3]) hF hI)
    · skip
      obtain ⟨k, hk, rfl⟩ := zin_of c4 (by omega)
      refine zG_s rfl rfl ?_
      refine zN_if rfl (fun c5 => ?_) (fun c6 => ?_)
      · skip
        have c7 := zraw_lt0 (n := 4) c5
        refine zG_s rfl rfl ?_
        -- leaf 3
        exact zG_ret rfl rfl (zfin (by rw [zo_ways, zb_i hi (by omega), zb_i hk (by omega), zb_no c7]) hF hI)
      · skip
        refine zG_s rfl rfl ?_
        refine zG_s rfl rfl ?_
        refine zN_if2 rfl (fun c8 => ?_) (fun c9 => ?_)
        · skip
          have c10 := zraw_le (n := 3) (by decide) c6 c8
          obtain ⟨w, hw, rfl⟩ := zin_of c10 (by decide)
          refine zG_s rfl rfl ?_
          refine zN_get rfl hI.ob rfl ?_
          refine zG_s rfl rfl ?_
          refine zN_get rfl hI.ob rfl ?_
          refine zG_s rfl rfl ?_
          refine zN_qa (tt := 0) rfl hI.as (by omega) (by omega) ?_
          obtain ⟨n9, ec, gl, gh, gb, ga, gt, gs, gr, ge, gm, hG⟩ := hI.go
          refine zG_cQN rfl rfl hG.o rfl rfl (ct_enter (by omega) hG hS hP.ok (by unfold zgN; omega)) (fun h1 hA => ?_)
          have hI0 := hI
          have hI := hI0.u_go hA.x hA.1
          have hF := hA.1.mono zcR_g
          refine zG_s rfl rfl ?_
          refine zN_get rfl hI.ob rfl ?_
          refine zG_s rfl rfl ?_
          obtain ⟨gl, gh, gb, ga, gt, gs, hG⟩ := hA.g
          refine zG_cQV rfl rfl hG.o rfl rfl (ct_walk (by omega) hA hP.ok hP.rf hk) (fun h2 hA2 => ?_)
          obtain ⟨rw1, en1, hA2, hen⟩ := hA2
          have hI := hI0.u_go hA2.x hA2.1
          have hF := hA2.1.mono zcR_g
          obtain ⟨gl2, gh2, gb2, ga2, gt2, gs2, hG2⟩ := hA2.g
          have hec := zW_ec (s.1 i).1 (s.1 i).2 (zTr (s.1 i).1 (s.1 i).2) k (1 <<< (s.1 i).1)
          have hez := zW_en (k := k) (lo := (s.1 i).2) (hi := zTr (s.1 i).1 (s.1 i).2) hn (1 <<< (s.1 i).1) (Nat.le_refl _)
          generalize hZ : zW (s.1 i).1 (s.1 i).2 (zTr (s.1 i).1 (s.1 i).2) k (1 <<< (s.1 i).1) = Z at *
          refine zN_st4 rfl (fun _ _ _ => rfl) rfl ?_
          refine zG_s rfl rfl ?_
          rcases (by omega : w = 0 ∨ w = 1 ∨ w = 2 ∨ w = 3) with rfl | rfl | rfl | rfl
          · skip
            refine zG_s rfl rfl ?_
            refine zG_s rfl rfl ?_
            -- leaf 4
            exact zG_ret rfl rfl (zfin (by rw [zo_ways, zb_i hi (by omega), zb_i hk (by omega), zb_i hw (by omega)]; simp only [zWays, hZ]) hF hI)
          · skip
            refine zG_s rfl rfl ?_
            refine zG_s rfl rfl ?_
            refine zN_get rfl hI.ob rfl ?_
            refine zN_get rfl hG2.o rfl ?_
            -- leaf 5
            exact zG_ret rfl rfl (zfin (by rw [zo_ways, zb_i hi (by omega), zb_i hk (by omega), zb_i hw (by omega)]; simp only [zWays, hZ]) hF hI)
          · skip
            refine zG_s rfl rfl ?_
            refine zG_s rfl rfl ?_
            refine zN_get rfl hI.ob rfl ?_
            refine zG_cV1 rfl rfl hG2.o rfl rfl (ct_leastEnd (lo := fun _ => 0) (hi := fun _ => 0) hG2 (by omega) hen) ?_
            -- leaf 6
            exact zG_ret rfl rfl (zfin (by rw [zo_ways, zb_i hi (by omega), zb_i hk (by omega), zb_i hw (by omega)]; simp only [zWays, hZ]) hF hI)
          · skip
            refine zG_s rfl rfl ?_
            refine zG_s rfl rfl ?_
            refine zG_s rfl rfl ?_
            refine zN_get rfl hI.ob rfl ?_
            refine zG_s rfl rfl ?_
            refine zN_qa (tt := 0) rfl hI.as (by omega) (by omega) ?_
            refine zG_cQV rfl rfl hI.ob rfl rfl (ct_unlikeEnds hI hW hi hG2 (by omega) (fun k hk => ⟨hen k hk, hez k⟩)) (fun h3 hB => ?_)
            have hI := hI.u_ma hB.2 hB.1
            have hF := hF.tr (hB.1.mono zcR_m)
            -- leaf 7
            exact zG_ret rfl rfl (zfin (by rw [zo_ways, zb_i hi (by omega), zb_i hk (by omega), zb_i hw (by omega)]; simp only [zWays, hZ]) hF hI)
        · skip
          have c11 := zraw_nle (n := 3) (by decide) c9
          refine zG_s rfl rfl ?_
          -- leaf 8
          exact zG_ret rfl rfl (zfin (by rw [zo_ways, zb_i hi (by omega), zb_i hk (by omega), zb_no c11]) hF hI)
theorem co_homotopic {d : Nat} {h : zH} {s : zST} {a b : Int32} (hI : zCI h s) (hW : zWT s) : zCallP (d + 14) 110 [.ref 2, .int a, .int b] h (zOut h (zo_homotopic s a b)) := by
  have hF : zFr zcR h h := zFr.rf
  refine zG_mP (t := tX9_homotopic) (ls0 := [.ref 2, .int a, .int b, .null, .null]) rfl rfl (zdnR (zdnI (zdnI zdn0))) rfl ?_
  refine zG_s rfl rfl ?_
  refine zG_cS1 rfl rfl ct_isSpace ?_
  refine zN_ifb rfl (fun c1 => ?_) (fun c2 => ?_)
  · skip
    refine zG_s rfl rfl ?_
    -- leaf 1
    exact zG_ret rfl rfl (zfin (by rw [zo_homotopic, zb_no c1]) hF hI)
  · skip
    obtain ⟨i, hi, rfl⟩ := zin_of c2 (by omega)
    refine zG_s rfl rfl ?_
    refine zG_cS1 rfl rfl ct_isSpace ?_
    refine zN_ifnb rfl (fun c3 => ?_) (fun c4 => ?_)
    · skip
      obtain ⟨j, hj, rfl⟩ := zin_of c3 (by omega)
      have hP := hW.1 i hi
      have hP2 := hW.1 j hj
      have hl1 := zLeft_lt (n := (s.1 i).1) (lo := (s.1 i).2) (hi := zTr (s.1 i).1 (s.1 i).2) (k := 3) (o := 0) hP.1
      have hl2 := zLeft_lt (n := (s.1 j).1) (lo := (s.1 j).2) (hi := zTr (s.1 j).1 (s.1 j).2) (k := 3) (o := 0) hP2.1
      have hn1 := zpow_le hP.1
      have hn2 := zpow_le hP2.1
      refine zG_s rfl rfl ?_
      refine zN_get rfl hI.ob rfl ?_
      refine zG_s rfl rfl ?_
      refine zN_get rfl hI.ob rfl ?_
      refine zG_s rfl rfl ?_
      refine zN_qa (tt := 0) rfl hI.as (by omega) (by omega) ?_
      refine zG_s rfl rfl ?_
      refine zG_s rfl rfl ?_
      obtain ⟨n9, ec, gl, gh, gb, ga, gt, gs, gr, ge, gm, hG⟩ := hI.go
      refine zG_cQV rfl rfl hG.o rfl rfl (ct_leftBy (k := 3) (od := 0) (by omega) hG (hI.sp i hi) hP.ok hP.rf (by unfold zgN; omega) (by omega) (by omega)) (fun h1 hA => ?_)
      have hI := hI.u_go hA.x hA.1
      have hF := hA.1.mono zcR_g
      refine zN_st3 rfl (fun _ _ _ => rfl) rfl ?_
      refine zG_s rfl rfl ?_
      refine zN_get rfl hI.ob rfl ?_
      refine zG_s rfl rfl ?_
      refine zN_get rfl hI.ob rfl ?_
      refine zG_s rfl rfl ?_
      refine zN_qa (tt := 0) rfl hI.as (by omega) (by omega) ?_
      refine zG_s rfl rfl ?_
      refine zG_s rfl rfl ?_
      obtain ⟨n9, ec, gl, gh, gb, ga, gt, gs, gr, ge, gm, hG⟩ := hI.go
      refine zG_cQV rfl rfl hG.o rfl rfl (ct_leftBy (k := 3) (od := 0) (by omega) hG (hI.sp j hj) hP2.ok hP2.rf (by unfold zgN; omega) (by omega) (by omega)) (fun h2 hA => ?_)
      have hI := hI.u_go hA.x hA.1
      have hF := hF.tr (hA.1.mono zcR_g)
      refine zN_st4 rfl (fun _ _ _ => rfl) rfl ?_
      refine zG_s rfl rfl ?_
      refine zN_get rfl hI.ob rfl ?_
      refine zG_s rfl rfl ?_
      refine zN_get rfl hI.ob rfl ?_
      refine zG_s rfl rfl ?_
      refine zN_qa (tt := 0) rfl hI.as (by omega) (by omega) ?_
      refine zG_s rfl rfl ?_
      refine zG_s rfl rfl ?_
      refine zN_get rfl hI.ob rfl ?_
      refine zG_s rfl rfl ?_
      refine zN_qa (tt := 0) rfl hI.as (by omega) (by omega) ?_
      refine zG_s rfl rfl ?_
      obtain ⟨nA, nB, ex, fe, fl9, fh9, tl9, th9, im9, hM9⟩ := hI.ma
      refine zG_cQV rfl rfl hM9.1 rfl rfl (ct_areSame (by omega) hI.ma (hI.sp i hi) (hI.sp j hj) hP.ok hP2.ok (by unfold zmN; omega) (by unfold zmN; omega) (by omega) (by omega)) (fun h3 hB => ?_)
      have hF := hF.tr (hB.1.mono zcR_m)
      have hI := hI.u_ma (by
        obtain ⟨-, a1, a2, a3, a4, a5, a6, a7, a8, a9, hB, -⟩ := hB
        exact ⟨a1, a2, a3, a4, a5, a6, a7, a8, a9, hB⟩) hB.1
      first | refine zN_ifb rfl (fun c5 => ?_) (fun c6 => ?_) | refine zN_eq0 rfl (by omega) (fun c5 => ?_) (fun c6 => ?_)
      · skip
        refine zG_s rfl rfl ?_
        -- leaf 2
        have e9 : zSm2 (s.1 i).1 (s.1 i).2 (zLf s i 3 0) (s.1 j).1 (s.1 j).2 (zLf s j 3 0) = false := c5
        exact zG_ret rfl rfl (zfin (by rw [zo_homotopic, zb_i hi (by omega), zb_i hj (by omega), e9]; rfl) hF hI)
      · skip
        refine zG_s rfl rfl ?_
        refine zG_s rfl rfl ?_
        -- leaf 3
        have e9 : zSm2 (s.1 i).1 (s.1 i).2 (zLf s i 3 0) (s.1 j).1 (s.1 j).2 (zLf s j 3 0) = true := c6
        exact zG_ret rfl rfl (zfin (by rw [zo_homotopic, zb_i hi (by omega), zb_i hj (by omega), e9]; rfl) hF hI)
    · skip
      refine zG_s rfl rfl ?_
      -- leaf 4
      exact zG_ret rfl rfl (zfin (by rw [zo_homotopic, zb_i hi (by omega), zb_no c4]) hF hI)
