theorem ct_mayGo0 {d : Nat} {h0 h : zH} {g n x s : Nat} {ec : Int32} {lo hi : Nat → Nat} {rw en im : Nat → Int32} (hg : 2 ≤ g) (hA : zGA h0 g n lo hi ec rw en im h) (hO : zOk n lo hi) (hR : zRfl n lo hi) (hx : x < n) (hs : s < 1 <<< n) : zCallP (d + 5) 29 [.ref g, .int (nI 0), .int (nI x), .int (nI s)] h (zRV (.int (nI (b2n (zMay n lo hi 0 x s)))) (zGA h0 g n lo hi ec rw en im)) := by
  have hn := hO.1
  have b0 := zpow_le hn
  obtain ⟨hF, fl, fh, fb, fa, ft, sh, hG, hV, hM⟩ := hA
  have hA : zGA h0 g n lo hi ec rw en im h := ⟨hF, fl, fh, fb, fa, ft, sh, hG, hV, hM⟩
  have b1 := zand_lt' (zBw lo hi x) (show s < 256 by omega)
  have b2 := zand_lt' (zAb lo hi x) (show s < 256 by omega)
  have b3 := zand_lt' (zBw lo hi x) hs
  have b4 := zand_lt' (zAb lo hi x) hs
  refine zG_mP (t := tX3_mayGo) (ls0 := [.ref g, .int (nI 0), .int (nI x), .int (nI s)]) rfl rfl (zdnR (zdnI (zdnI (zdnI zdn0)))) rfl ?_
  refine zG_s rfl rfl ?_
  refine zG_s rfl rfl ?_
  refine zG_s rfl rfl ?_
  refine zG_s rfl rfl ?_
  refine zG_s rfl rfl ?_
  refine zG_cV1 rfl rfl hG.o rfl rfl (ct_goesByLike hG hV hO (by omega) (by omega)) ?_
  -- leaf 1
  exact zG_retb rfl (fun k => by cases k <;> rfl) ⟨rfl, hA⟩
theorem ct_mayGo1 {d : Nat} {h0 h : zH} {g n x s : Nat} {ec : Int32} {lo hi : Nat → Nat} {rw en im : Nat → Int32} (hg : 2 ≤ g) (hA : zGA h0 g n lo hi ec rw en im h) (hO : zOk n lo hi) (hR : zRfl n lo hi) (hx : x < n) (hs : s < 1 <<< n) : zCallP (d + 5) 29 [.ref g, .int (nI 1), .int (nI x), .int (nI s)] h (zRV (.int (nI (b2n (zMay n lo hi 1 x s)))) (zGA h0 g n lo hi ec rw en im)) := by
  have hn := hO.1
  have b0 := zpow_le hn
  obtain ⟨hF, fl, fh, fb, fa, ft, sh, hG, hV, hM⟩ := hA
  have hA : zGA h0 g n lo hi ec rw en im h := ⟨hF, fl, fh, fb, fa, ft, sh, hG, hV, hM⟩
  have b1 := zand_lt' (zBw lo hi x) (show s < 256 by omega)
  have b2 := zand_lt' (zAb lo hi x) (show s < 256 by omega)
  have b3 := zand_lt' (zBw lo hi x) hs
  have b4 := zand_lt' (zAb lo hi x) hs
  refine zG_mP (t := tX3_mayGo) (ls0 := [.ref g, .int (nI 1), .int (nI x), .int (nI s)]) rfl rfl (zdnR (zdnI (zdnI (zdnI zdn0)))) rfl ?_
  refine zG_s rfl rfl ?_
  refine zG_s rfl rfl ?_
  refine zG_s rfl rfl ?_
  refine zG_s rfl rfl ?_
  refine zG_s rfl rfl ?_
  refine zG_cV1 rfl rfl hG.o rfl rfl (ct_goesByDown hG hV hO (by omega) (by omega)) ?_
  -- leaf 1
  exact zG_retb rfl (fun k => by cases k <;> rfl) ⟨rfl, hA⟩
theorem ct_mayGo2 {d : Nat} {h0 h : zH} {g n x s : Nat} {ec : Int32} {lo hi : Nat → Nat} {rw en im : Nat → Int32} (hg : 2 ≤ g) (hA : zGA h0 g n lo hi ec rw en im h) (hO : zOk n lo hi) (hR : zRfl n lo hi) (hx : x < n) (hs : s < 1 <<< n) : zCallP (d + 5) 29 [.ref g, .int (nI 2), .int (nI x), .int (nI s)] h (zRV (.int (nI (b2n (zMay n lo hi 2 x s)))) (zGA h0 g n lo hi ec rw en im)) := by
  have hn := hO.1
  have b0 := zpow_le hn
  obtain ⟨hF, fl, fh, fb, fa, ft, sh, hG, hV, hM⟩ := hA
  have hA : zGA h0 g n lo hi ec rw en im h := ⟨hF, fl, fh, fb, fa, ft, sh, hG, hV, hM⟩
  have b1 := zand_lt' (zBw lo hi x) (show s < 256 by omega)
  have b2 := zand_lt' (zAb lo hi x) (show s < 256 by omega)
  have b3 := zand_lt' (zBw lo hi x) hs
  have b4 := zand_lt' (zAb lo hi x) hs
  refine zG_mP (t := tX3_mayGo) (ls0 := [.ref g, .int (nI 2), .int (nI x), .int (nI s)]) rfl rfl (zdnR (zdnI (zdnI (zdnI zdn0)))) rfl ?_
  refine zG_s rfl rfl ?_
  refine zG_s rfl rfl ?_
  refine zG_s rfl rfl ?_
  refine zG_s rfl rfl ?_
  refine zG_s rfl rfl ?_
  refine zG_cV1 rfl rfl hG.o rfl rfl (ct_goesByUp hG hV hO (by omega) (by omega)) ?_
  -- leaf 1
  exact zG_retb rfl (fun k => by cases k <;> rfl) ⟨rfl, hA⟩
theorem ct_mayGo3 {d : Nat} {h0 h : zH} {g n x s : Nat} {ec : Int32} {lo hi : Nat → Nat} {rw en im : Nat → Int32} (hg : 2 ≤ g) (hA : zGA h0 g n lo hi ec rw en im h) (hO : zOk n lo hi) (hR : zRfl n lo hi) (hx : x < n) (hs : s < 1 <<< n) : zCallP (d + 5) 29 [.ref g, .int (nI 3), .int (nI x), .int (nI s)] h (zRV (.int (nI (b2n (zMay n lo hi 3 x s)))) (zGA h0 g n lo hi ec rw en im)) := by
  have hn := hO.1
  have b0 := zpow_le hn
  obtain ⟨hF, fl, fh, fb, fa, ft, sh, hG, hV, hM⟩ := hA
  have hA : zGA h0 g n lo hi ec rw en im h := ⟨hF, fl, fh, fb, fa, ft, sh, hG, hV, hM⟩
  have b1 := zand_lt' (zBw lo hi x) (show s < 256 by omega)
  have b2 := zand_lt' (zAb lo hi x) (show s < 256 by omega)
  have b3 := zand_lt' (zBw lo hi x) hs
  have b4 := zand_lt' (zAb lo hi x) hs
  refine zG_mP (t := tX3_mayGo) (ls0 := [.ref g, .int (nI 3), .int (nI x), .int (nI s)]) rfl rfl (zdnR (zdnI (zdnI (zdnI zdn0)))) rfl ?_
  refine zG_s rfl rfl ?_
  refine zG_s rfl rfl ?_
  refine zG_s rfl rfl ?_
  refine zG_s rfl rfl ?_
  refine zG_s rfl rfl ?_
  refine zG_cV1 rfl rfl hG.o rfl rfl (ct_goesByDown hG hV hO (by omega) (by omega)) ?_
  first | refine zN_ifnb rfl (fun c1 => ?_) (fun c2 => ?_) | refine zN_ne0 rfl (by omega) (fun c1 => ?_) (fun c2 => ?_)
  · skip
    refine zG_s rfl rfl ?_
    refine zG_s rfl rfl ?_
    -- leaf 1
    exact zG_ret rfl rfl ⟨by simp [zMay, zBt, c1, b2n], hA⟩
  · skip
    refine zG_s rfl rfl ?_
    refine zG_s rfl rfl ?_
    refine zG_s rfl rfl ?_
    refine zG_cV1 rfl rfl hG.o rfl rfl (ct_goesByUp hG hV hO (by omega) (by omega)) ?_
    first | refine zN_ifb rfl (fun c3 => ?_) (fun c4 => ?_) | refine zN_eq0 rfl (by omega) (fun c3 => ?_) (fun c4 => ?_)
    · skip
      refine zG_s rfl rfl ?_
      -- leaf 2
      exact zG_ret rfl rfl ⟨by simp [zMay, zBt, c2, c3, b2n], hA⟩
    · skip
      refine zG_s rfl rfl ?_
      refine zG_s rfl rfl ?_
      -- leaf 3
      exact zG_ret rfl rfl ⟨by simp [zMay, zBt, c2, c4, b2n], hA⟩
theorem ct_mayGo4 {d : Nat} {h0 h : zH} {g n x s : Nat} {ec : Int32} {lo hi : Nat → Nat} {rw en im : Nat → Int32} (hg : 2 ≤ g) (hA : zGA h0 g n lo hi ec rw en im h) (hO : zOk n lo hi) (hR : zRfl n lo hi) (hx : x < n) (hs : s < 1 <<< n) : zCallP (d + 5) 29 [.ref g, .int (nI 4), .int (nI x), .int (nI s)] h (zRV (.int (nI (b2n (zMay n lo hi 4 x s)))) (zGA h0 g n lo hi ec rw en im)) := by
  have hn := hO.1
  have b0 := zpow_le hn
  obtain ⟨hF, fl, fh, fb, fa, ft, sh, hG, hV, hM⟩ := hA
  have hA : zGA h0 g n lo hi ec rw en im h := ⟨hF, fl, fh, fb, fa, ft, sh, hG, hV, hM⟩
  have b1 := zand_lt' (zBw lo hi x) (show s < 256 by omega)
  have b2 := zand_lt' (zAb lo hi x) (show s < 256 by omega)
  have b3 := zand_lt' (zBw lo hi x) hs
  have b4 := zand_lt' (zAb lo hi x) hs
  refine zG_mP (t := tX3_mayGo) (ls0 := [.ref g, .int (nI 4), .int (nI x), .int (nI s)]) rfl rfl (zdnR (zdnI (zdnI (zdnI zdn0)))) rfl ?_
  refine zG_s rfl rfl ?_
  refine zG_s rfl rfl ?_
  refine zG_s rfl rfl ?_
  refine zG_s rfl rfl ?_
  refine zG_s rfl rfl ?_
  refine zG_cV1 rfl rfl hG.o rfl rfl (ct_goesByDown hG hV hO (by omega) (by omega)) ?_
  first | refine zN_ifnb rfl (fun c1 => ?_) (fun c2 => ?_) | refine zN_ne0 rfl (by omega) (fun c1 => ?_) (fun c2 => ?_)
  · skip
    refine zG_s rfl rfl ?_
    refine zG_s rfl rfl ?_
    -- leaf 1
    exact zG_ret rfl rfl ⟨by simp [zMay, zBt, c1, b2n], hA⟩
  · skip
    refine zG_s rfl rfl ?_
    refine zG_s rfl rfl ?_
    refine zG_s rfl rfl ?_
    refine zG_cV1 rfl rfl hG.o rfl rfl (ct_goesByUp hG hV hO (by omega) (by omega)) ?_
    first | refine zN_ifnb rfl (fun c3 => ?_) (fun c4 => ?_) | refine zN_ne0 rfl (by omega) (fun c3 => ?_) (fun c4 => ?_)
    · skip
      refine zG_s rfl rfl ?_
      refine zG_s rfl rfl ?_
      -- leaf 2
      exact zG_ret rfl rfl ⟨by simp [zMay, zBt, c3, b2n], hA⟩
    · skip
      refine zG_s rfl rfl ?_
      refine zG_s rfl rfl ?_
      refine zN_get rfl hG.o rfl ?_
      refine zG_s rfl rfl ?_
      refine zN_ald rfl hG.fb (by omega) (by omega) (hV x hx).2.2.1 ?_
      refine zG_s rfl rfl ?_
      refine zN_and rfl ?_
      refine zG_cQV rfl rfl hG.o rfl rfl ((ct_shrinks hg hG hV hO hR hM b3).mono (zGq.ga hF hV)) (fun h2 hA2 => ?_)
      obtain ⟨hF2, fl2, fh2, fb2, fa2, ft2, sh2, hG2, hV2, hM2⟩ := hA2
      have hA2 : zGA h0 g n lo hi ec rw en im h2 := ⟨hF2, fl2, fh2, fb2, fa2, ft2, sh2, hG2, hV2, hM2⟩
      first | refine zN_ifnb rfl (fun c5 => ?_) (fun c6 => ?_) | refine zN_ne0 rfl (by omega) (fun c5 => ?_) (fun c6 => ?_)
      · skip
        refine zG_s rfl rfl ?_
        refine zG_s rfl rfl ?_
        -- leaf 3
        exact zG_ret rfl rfl ⟨by simp [zMay, zBt, c5, b2n], hA2⟩
      · skip
        refine zG_s rfl rfl ?_
        refine zG_s rfl rfl ?_
        refine zN_get rfl hG2.o rfl ?_
        refine zG_s rfl rfl ?_
        refine zN_ald rfl hG2.fa (by omega) (by omega) (hV2 x hx).2.2.2.1 ?_
        refine zG_s rfl rfl ?_
        refine zN_and rfl ?_
        refine zG_cQV rfl rfl hG2.o rfl rfl ((ct_shrinks hg hG2 hV2 hO hR hM2 b4).mono (zGq.ga hF2 hV2)) (fun h3 hA3 => ?_)
        first | refine zN_ifb rfl (fun c7 => ?_) (fun c8 => ?_) | refine zN_eq0 rfl (by omega) (fun c7 => ?_) (fun c8 => ?_)
        · skip
          refine zG_s rfl rfl ?_
          -- leaf 4
          exact zG_ret rfl rfl ⟨by simp [zMay, zBt, c2, c4, c6, c7, b2n], hA3⟩
        · skip
          refine zG_s rfl rfl ?_
          refine zG_s rfl rfl ?_
          -- leaf 5
          exact zG_ret rfl rfl ⟨by simp [zMay, zBt, c8, b2n], hA3⟩
theorem ct_mayGo5 {d : Nat} {h0 h : zH} {g n x s : Nat} {ec : Int32} {lo hi : Nat → Nat} {rw en im : Nat → Int32} (hg : 2 ≤ g) (hA : zGA h0 g n lo hi ec rw en im h) (hO : zOk n lo hi) (hR : zRfl n lo hi) (hx : x < n) (hs : s < 1 <<< n) : zCallP (d + 5) 29 [.ref g, .int (nI 5), .int (nI x), .int (nI s)] h (zRV (.int (nI (b2n (zMay n lo hi 5 x s)))) (zGA h0 g n lo hi ec rw en im)) := by
  have hn := hO.1
  have b0 := zpow_le hn
  obtain ⟨hF, fl, fh, fb, fa, ft, sh, hG, hV, hM⟩ := hA
  have hA : zGA h0 g n lo hi ec rw en im h := ⟨hF, fl, fh, fb, fa, ft, sh, hG, hV, hM⟩
  have b1 := zand_lt' (zBw lo hi x) (show s < 256 by omega)
  have b2 := zand_lt' (zAb lo hi x) (show s < 256 by omega)
  have b3 := zand_lt' (zBw lo hi x) hs
  have b4 := zand_lt' (zAb lo hi x) hs
  refine zG_mP (t := tX3_mayGo) (ls0 := [.ref g, .int (nI 5), .int (nI x), .int (nI s)]) rfl rfl (zdnR (zdnI (zdnI (zdnI zdn0)))) rfl ?_
  refine zG_s rfl rfl ?_
  refine zG_s rfl rfl ?_
  refine zG_s rfl rfl ?_
  refine zN_get rfl hG.o rfl ?_
  refine zG_s rfl rfl ?_
  refine zN_ald rfl hG.fb (by omega) (by omega) (hV x hx).2.2.1 ?_
  refine zG_s rfl rfl ?_
  refine zN_and rfl ?_
  first | refine zN_ifb rfl (fun c1 => ?_) (fun c2 => ?_) | refine zN_eq0 rfl (by omega) (fun c1 => ?_) (fun c2 => ?_)
  · skip
    refine zG_s rfl rfl ?_
    -- leaf 1
    exact zG_ret rfl rfl ⟨by simp [zMay, c1, b2n], hA⟩
  · skip
    refine zG_s rfl rfl ?_
    refine zG_s rfl rfl ?_
    refine zG_s rfl rfl ?_
    refine zG_cV1 rfl rfl hG.o rfl rfl (ct_goesByUp hG hV hO (by omega) (by omega)) ?_
    first | refine zN_ifb rfl (fun c3 => ?_) (fun c4 => ?_) | refine zN_eq0 rfl (by omega) (fun c3 => ?_) (fun c4 => ?_)
    · skip
      refine zG_s rfl rfl ?_
      -- leaf 2
      exact zG_ret rfl rfl ⟨by simp [zMay, c3, b2n], hA⟩
    · skip
      refine zG_s rfl rfl ?_
      refine zG_s rfl rfl ?_
      -- leaf 3
      exact zG_ret rfl rfl ⟨by simp [zMay, show ¬ (zBw lo hi x &&& s = 0) by omega, c4, b2n], hA⟩
theorem ct_mayGo {d : Nat} {h0 h : zH} {g n x s : Nat} {ec : Int32} {lo hi : Nat → Nat} {rw en im : Nat → Int32} (hg : 2 ≤ g) (hA : zGA h0 g n lo hi ec rw en im h) (hO : zOk n lo hi) (hR : zRfl n lo hi) {k : Nat} (hk : k < 6) (hx : x < n) (hs : s < 1 <<< n) : zCallP (d + 5) 29 [.ref g, .int (nI k), .int (nI x), .int (nI s)] h (zRV (.int (nI (b2n (zMay n lo hi k x s)))) (zGA h0 g n lo hi ec rw en im)) := by
  rcases (show k = 0 ∨ k = 1 ∨ k = 2 ∨ k = 3 ∨ k = 4 ∨ k = 5 by omega) with rfl | rfl | rfl | rfl | rfl | rfl
  · exact ct_mayGo0 hg hA hO hR hx hs
  · exact ct_mayGo1 hg hA hO hR hx hs
  · exact ct_mayGo2 hg hA hO hR hx hs
  · exact ct_mayGo3 hg hA hO hR hx hs
  · exact ct_mayGo4 hg hA hO hR hx hs
  · exact ct_mayGo5 hg hA hO hR hx hs
theorem ct_goers {d : Nat} {h0 h : zH} {g n x s : Nat} {ec : Int32} {lo hi : Nat → Nat} {rw en im : Nat → Int32} (hg : 2 ≤ g) (hA : zGA h0 g n lo hi ec rw en im h) (hO : zOk n lo hi) (hR : zRfl n lo hi) {k : Nat} (hk : k < 6) (hs : s < 1 <<< n) : zCallP (d + 6) 31 [.ref g, .int (nI k), .int (nI s)] h (zRV (.int (nI (zGoers n lo hi k s))) (zGA h0 g n lo hi ec rw en im)) := by
  have hn := hO.1
  have b0 := zpow_le hn
  unfold zGoers
  generalize hC : (fun x => s.testBit x && zMay n lo hi k x s) = C
  have hCx : ∀ x, C x = (s.testBit x && zMay n lo hi k x s) := fun x => by rw [← hC]
  refine zG_mP (t := tX3_goers) (ls0 := [.ref g, .int (nI k), .int (nI s), .null, .null]) rfl rfl (zdnR (zdnI (zdnI zdn0))) rfl ?_
  refine zG_s rfl rfl ?_
  refine zN_st3 rfl (fun _ _ _ => rfl) rfl ?_
  refine zG_s rfl rfl ?_
  refine zN_st4 rfl (fun _ _ _ => rfl) rfl ?_
  have main5 : ∀ x, x ≤ n → ∀ (h1 : zH), zGA h0 g n lo hi ec rw en im h1 → zGoP (d + 5) tX3_goers 5 [.ref g, .int (nI k), .int (nI s), .int (nI (zbits C x)), .int (nI x)] [] h1 (zRV (.int (nI (zbits C n))) (zGA h0 g n lo hi ec rw en im)) := by
    refine zdown (n) ?_ (fun x hp5 ih5 => ?_)
    · skip
      intro h1 hA
      obtain ⟨hF, fl, fh, fb, fa, ft, sh, hG, hV, hM⟩ := hA
      have hA : zGA h0 g n lo hi ec rw en im h1 := ⟨hF, fl, fh, fb, fa, ft, sh, hG, hV, hM⟩
      refine zG_s rfl rfl ?_
      refine zG_s rfl rfl ?_
      refine zN_get rfl hG.o rfl ?_
      refine zN_ige rfl (by omega) (by omega) (fun c1 => ?_) (fun c2 => absurd c2 (by omega))
      refine zG_s rfl rfl ?_
      -- leaf 1
      exact zG_ret rfl rfl ⟨rfl, hA⟩
    · skip
      intro h1 hA
      obtain ⟨hF, fl, fh, fb, fa, ft, sh, hG, hV, hM⟩ := hA
      have hA : zGA h0 g n lo hi ec rw en im h1 := ⟨hF, fl, fh, fb, fa, ft, sh, hG, hV, hM⟩
      refine zG_s rfl rfl ?_
      refine zG_s rfl rfl ?_
      refine zN_get rfl hG.o rfl ?_
      refine zN_ige rfl (by omega) (by omega) (fun c3 => absurd c3 (by omega)) (fun c4 => ?_)
      refine zG_s rfl rfl ?_
      refine zG_s rfl rfl ?_
      refine zG_cS1 rfl rfl (ct_has _ (by omega) (by omega)) ?_
      first | refine zN_ifb rfl (fun c5 => ?_) (fun c6 => ?_) | refine zN_eq0 rfl (by omega) (fun c5 => ?_) (fun c6 => ?_)
      · skip
        refine zN_inc4 rfl rfl ?_
        refine zG_s rfl rfl ?_
        -- leaf 2
        rw [zbits_no (by rw [hCx, c5]; rfl)] at ih5
        exact ih5 h1 hA
      · skip
        refine zG_s rfl rfl ?_
        refine zG_s rfl rfl ?_
        refine zG_s rfl rfl ?_
        refine zG_s rfl rfl ?_
        refine zG_cQV rfl rfl hG.o rfl rfl (ct_mayGo hg hA hO hR (by omega) (by omega) (by omega)) (fun h2 hA2 => ?_)
        first | refine zN_ifb rfl (fun c7 => ?_) (fun c8 => ?_) | refine zN_eq0 rfl (by omega) (fun c7 => ?_) (fun c8 => ?_)
        · skip
          refine zN_inc4 rfl rfl ?_
          refine zG_s rfl rfl ?_
          -- leaf 3
          rw [zbits_no (by rw [hCx, c7]; simp)] at ih5
          exact ih5 h2 hA2
        · skip
          refine zG_s rfl rfl ?_
          refine zG_s rfl rfl ?_
          refine zG_s rfl rfl ?_
          refine zN_shl rfl (by omega) ?_
          refine zN_or rfl ?_
          refine zN_st3 rfl (fun _ _ _ => rfl) rfl ?_
          refine zN_inc4 rfl rfl ?_
          refine zG_s rfl rfl ?_
          -- leaf 4
          rw [zbits_yes (by rw [hCx, c8, c6]; rfl)] at ih5
          exact ih5 h2 hA2
  exact main5 0 (by omega) h hA
theorem ct_priceOf0 {d : Nat} {h : zH} {g n x s : Nat} {ec : Int32} {lo hi : Nat → Nat} {fl fh fb fa ft sh rw en im : Nat → Int32} (hG : zG0 h g n ec fl fh fb fa ft sh rw en im) (hV : zGv n lo hi fl fh fb fa ft) (hO : zOk n lo hi) (hx : x < n) (hs : s < 256) : zCall (d + 2) 32 [.ref g, .int (nI 0), .int (nI x), .int (nI s)] h (some (.int (nI (zPri lo hi 0 x s))), h) := by
  have hn := hO.1
  have b1 := zand_lt' (zBw lo hi x) hs
  have b2 := zand_lt' (zAb lo hi x) hs
  refine zG_m (t := tX3_priceOf) (ls0 := [.ref g, .int (nI 0), .int (nI x), .int (nI s), .null, .null]) rfl rfl (zdnR (zdnI (zdnI (zdnI zdn0)))) rfl ?_
  refine zG_s rfl rfl ?_
  refine zN_get rfl hG.o rfl ?_
  refine zG_s rfl rfl ?_
  refine zN_ald rfl hG.fb (by omega) (by omega) (hV x hx).2.2.1 ?_
  refine zG_s rfl rfl ?_
  refine zN_and rfl ?_
  refine zG_cS1 rfl rfl (ct_bitCount (by omega)) ?_
  refine zN_st4 rfl (fun _ _ _ => rfl) rfl ?_
  refine zG_s rfl rfl ?_
  refine zN_get rfl hG.o rfl ?_
  refine zG_s rfl rfl ?_
  refine zN_ald rfl hG.fa (by omega) (by omega) (hV x hx).2.2.2.1 ?_
  refine zG_s rfl rfl ?_
  refine zN_and rfl ?_
  refine zG_cS1 rfl rfl (ct_bitCount (by omega)) ?_
  refine zN_st5 rfl (fun _ _ _ => rfl) rfl ?_
  refine zG_s rfl rfl ?_
  refine zG_s rfl rfl ?_
  refine zG_s rfl rfl ?_
  -- leaf 1
  exact zG_ret rfl rfl rfl
theorem ct_priceOf1 {d : Nat} {h : zH} {g n x s : Nat} {ec : Int32} {lo hi : Nat → Nat} {fl fh fb fa ft sh rw en im : Nat → Int32} (hG : zG0 h g n ec fl fh fb fa ft sh rw en im) (hV : zGv n lo hi fl fh fb fa ft) (hO : zOk n lo hi) (hx : x < n) (hs : s < 256) : zCall (d + 2) 32 [.ref g, .int (nI 1), .int (nI x), .int (nI s)] h (some (.int (nI (zPri lo hi 1 x s))), h) := by
  have hn := hO.1
  have b1 := zand_lt' (zBw lo hi x) hs
  have b2 := zand_lt' (zAb lo hi x) hs
  refine zG_m (t := tX3_priceOf) (ls0 := [.ref g, .int (nI 1), .int (nI x), .int (nI s), .null, .null]) rfl rfl (zdnR (zdnI (zdnI (zdnI zdn0)))) rfl ?_
  refine zG_s rfl rfl ?_
  refine zN_get rfl hG.o rfl ?_
  refine zG_s rfl rfl ?_
  refine zN_ald rfl hG.fb (by omega) (by omega) (hV x hx).2.2.1 ?_
  refine zG_s rfl rfl ?_
  refine zN_and rfl ?_
  refine zG_cS1 rfl rfl (ct_bitCount (by omega)) ?_
  refine zN_st4 rfl (fun _ _ _ => rfl) rfl ?_
  refine zG_s rfl rfl ?_
  refine zN_get rfl hG.o rfl ?_
  refine zG_s rfl rfl ?_
  refine zN_ald rfl hG.fa (by omega) (by omega) (hV x hx).2.2.2.1 ?_
  refine zG_s rfl rfl ?_
  refine zN_and rfl ?_
  refine zG_cS1 rfl rfl (ct_bitCount (by omega)) ?_
  refine zN_st5 rfl (fun _ _ _ => rfl) rfl ?_
  refine zG_s rfl rfl ?_
  refine zG_s rfl rfl ?_
  refine zG_s rfl rfl ?_
  refine zG_s rfl rfl ?_
  refine zN_add (x := 1) rfl ?_
  -- leaf 1
  exact zG_ret rfl rfl rfl
theorem ct_priceOf2 {d : Nat} {h : zH} {g n x s : Nat} {ec : Int32} {lo hi : Nat → Nat} {fl fh fb fa ft sh rw en im : Nat → Int32} (hG : zG0 h g n ec fl fh fb fa ft sh rw en im) (hV : zGv n lo hi fl fh fb fa ft) (hO : zOk n lo hi) (hx : x < n) (hs : s < 256) : zCall (d + 2) 32 [.ref g, .int (nI 2), .int (nI x), .int (nI s)] h (some (.int (nI (zPri lo hi 2 x s))), h) := by
  have hn := hO.1
  have b1 := zand_lt' (zBw lo hi x) hs
  have b2 := zand_lt' (zAb lo hi x) hs
  refine zG_m (t := tX3_priceOf) (ls0 := [.ref g, .int (nI 2), .int (nI x), .int (nI s), .null, .null]) rfl rfl (zdnR (zdnI (zdnI (zdnI zdn0)))) rfl ?_
  refine zG_s rfl rfl ?_
  refine zN_get rfl hG.o rfl ?_
  refine zG_s rfl rfl ?_
  refine zN_ald rfl hG.fb (by omega) (by omega) (hV x hx).2.2.1 ?_
  refine zG_s rfl rfl ?_
  refine zN_and rfl ?_
  refine zG_cS1 rfl rfl (ct_bitCount (by omega)) ?_
  refine zN_st4 rfl (fun _ _ _ => rfl) rfl ?_
  refine zG_s rfl rfl ?_
  refine zN_get rfl hG.o rfl ?_
  refine zG_s rfl rfl ?_
  refine zN_ald rfl hG.fa (by omega) (by omega) (hV x hx).2.2.2.1 ?_
  refine zG_s rfl rfl ?_
  refine zN_and rfl ?_
  refine zG_cS1 rfl rfl (ct_bitCount (by omega)) ?_
  refine zN_st5 rfl (fun _ _ _ => rfl) rfl ?_
  refine zG_s rfl rfl ?_
  refine zG_s rfl rfl ?_
  refine zG_s rfl rfl ?_
  refine zG_s rfl rfl ?_
  refine zN_add (x := 1) rfl ?_
  -- leaf 1
  exact zG_ret rfl rfl rfl
theorem ct_priceOf3 {d : Nat} {h : zH} {g n x s : Nat} {ec : Int32} {lo hi : Nat → Nat} {fl fh fb fa ft sh rw en im : Nat → Int32} (hG : zG0 h g n ec fl fh fb fa ft sh rw en im) (hV : zGv n lo hi fl fh fb fa ft) (hO : zOk n lo hi) (hx : x < n) (hs : s < 256) : zCall (d + 2) 32 [.ref g, .int (nI 3), .int (nI x), .int (nI s)] h (some (.int (nI (zPri lo hi 3 x s))), h) := by
  have hn := hO.1
  have b1 := zand_lt' (zBw lo hi x) hs
  have b2 := zand_lt' (zAb lo hi x) hs
  refine zG_m (t := tX3_priceOf) (ls0 := [.ref g, .int (nI 3), .int (nI x), .int (nI s), .null, .null]) rfl rfl (zdnR (zdnI (zdnI (zdnI zdn0)))) rfl ?_
  refine zG_s rfl rfl ?_
  refine zN_get rfl hG.o rfl ?_
  refine zG_s rfl rfl ?_
  refine zN_ald rfl hG.fb (by omega) (by omega) (hV x hx).2.2.1 ?_
  refine zG_s rfl rfl ?_
  refine zN_and rfl ?_
  refine zG_cS1 rfl rfl (ct_bitCount (by omega)) ?_
  refine zN_st4 rfl (fun _ _ _ => rfl) rfl ?_
  refine zG_s rfl rfl ?_
  refine zN_get rfl hG.o rfl ?_
  refine zG_s rfl rfl ?_
  refine zN_ald rfl hG.fa (by omega) (by omega) (hV x hx).2.2.2.1 ?_
  refine zG_s rfl rfl ?_
  refine zN_and rfl ?_
  refine zG_cS1 rfl rfl (ct_bitCount (by omega)) ?_
  refine zN_st5 rfl (fun _ _ _ => rfl) rfl ?_
  refine zG_s rfl rfl ?_
  refine zG_s rfl rfl ?_
  refine zG_s rfl rfl ?_
  refine zG_s rfl rfl ?_
  refine zN_add (x := 1) rfl ?_
  -- leaf 1
  exact zG_ret rfl rfl rfl
theorem ct_priceOf4 {d : Nat} {h : zH} {g n x s : Nat} {ec : Int32} {lo hi : Nat → Nat} {fl fh fb fa ft sh rw en im : Nat → Int32} (hG : zG0 h g n ec fl fh fb fa ft sh rw en im) (hV : zGv n lo hi fl fh fb fa ft) (hO : zOk n lo hi) (hx : x < n) (hs : s < 256) : zCall (d + 2) 32 [.ref g, .int (nI 4), .int (nI x), .int (nI s)] h (some (.int (nI (zPri lo hi 4 x s))), h) := by
  have hn := hO.1
  have b1 := zand_lt' (zBw lo hi x) hs
  have b2 := zand_lt' (zAb lo hi x) hs
  refine zG_m (t := tX3_priceOf) (ls0 := [.ref g, .int (nI 4), .int (nI x), .int (nI s), .null, .null]) rfl rfl (zdnR (zdnI (zdnI (zdnI zdn0)))) rfl ?_
  refine zG_s rfl rfl ?_
  refine zN_get rfl hG.o rfl ?_
  refine zG_s rfl rfl ?_
  refine zN_ald rfl hG.fb (by omega) (by omega) (hV x hx).2.2.1 ?_
  refine zG_s rfl rfl ?_
  refine zN_and rfl ?_
  refine zG_cS1 rfl rfl (ct_bitCount (by omega)) ?_
  refine zN_st4 rfl (fun _ _ _ => rfl) rfl ?_
  refine zG_s rfl rfl ?_
  refine zN_get rfl hG.o rfl ?_
  refine zG_s rfl rfl ?_
  refine zN_ald rfl hG.fa (by omega) (by omega) (hV x hx).2.2.2.1 ?_
  refine zG_s rfl rfl ?_
  refine zN_and rfl ?_
  refine zG_cS1 rfl rfl (ct_bitCount (by omega)) ?_
  refine zN_st5 rfl (fun _ _ _ => rfl) rfl ?_
  refine zG_s rfl rfl ?_
  refine zG_s rfl rfl ?_
  refine zG_s rfl rfl ?_
  refine zG_s rfl rfl ?_
  refine zG_s rfl rfl ?_
  refine zN_add (x := 1) rfl ?_
  refine zN_mul (x := 2) rfl ?_
  refine zG_s rfl rfl ?_
  refine zN_add (y := 1) rfl ?_
  -- leaf 1
  exact zG_ret rfl rfl rfl
theorem ct_priceOf5 {d : Nat} {h : zH} {g n x s : Nat} {ec : Int32} {lo hi : Nat → Nat} {fl fh fb fa ft sh rw en im : Nat → Int32} (hG : zG0 h g n ec fl fh fb fa ft sh rw en im) (hV : zGv n lo hi fl fh fb fa ft) (hO : zOk n lo hi) (hx : x < n) (hs : s < 256) : zCall (d + 2) 32 [.ref g, .int (nI 5), .int (nI x), .int (nI s)] h (some (.int (nI (zPri lo hi 5 x s))), h) := by
  have hn := hO.1
  have b1 := zand_lt' (zBw lo hi x) hs
  have b2 := zand_lt' (zAb lo hi x) hs
  refine zG_m (t := tX3_priceOf) (ls0 := [.ref g, .int (nI 5), .int (nI x), .int (nI s), .null, .null]) rfl rfl (zdnR (zdnI (zdnI (zdnI zdn0)))) rfl ?_
  refine zG_s rfl rfl ?_
  refine zN_get rfl hG.o rfl ?_
  refine zG_s rfl rfl ?_
  refine zN_ald rfl hG.fb (by omega) (by omega) (hV x hx).2.2.1 ?_
  refine zG_s rfl rfl ?_
  refine zN_and rfl ?_
  refine zG_cS1 rfl rfl (ct_bitCount (by omega)) ?_
  refine zN_st4 rfl (fun _ _ _ => rfl) rfl ?_
  refine zG_s rfl rfl ?_
  refine zN_get rfl hG.o rfl ?_
  refine zG_s rfl rfl ?_
  refine zN_ald rfl hG.fa (by omega) (by omega) (hV x hx).2.2.2.1 ?_
  refine zG_s rfl rfl ?_
  refine zN_and rfl ?_
  refine zG_cS1 rfl rfl (ct_bitCount (by omega)) ?_
  refine zN_st5 rfl (fun _ _ _ => rfl) rfl ?_
  refine zG_s rfl rfl ?_
  refine zG_s rfl rfl ?_
  refine zG_s rfl rfl ?_
  -- leaf 1
  exact zG_ret rfl rfl rfl
theorem ct_priceOf {d : Nat} {h : zH} {g n x s : Nat} {ec : Int32} {lo hi : Nat → Nat} {fl fh fb fa ft sh rw en im : Nat → Int32} (hG : zG0 h g n ec fl fh fb fa ft sh rw en im) (hV : zGv n lo hi fl fh fb fa ft) (hO : zOk n lo hi) {k : Nat} (hk : k < 6) (hx : x < n) (hs : s < 256) : zCall (d + 2) 32 [.ref g, .int (nI k), .int (nI x), .int (nI s)] h (some (.int (nI (zPri lo hi k x s))), h) := by
  rcases (show k = 0 ∨ k = 1 ∨ k = 2 ∨ k = 3 ∨ k = 4 ∨ k = 5 by omega) with rfl | rfl | rfl | rfl | rfl | rfl
  · exact ct_priceOf0 hG hV hO hx hs
  · exact ct_priceOf1 hG hV hO hx hs
  · exact ct_priceOf2 hG hV hO hx hs
  · exact ct_priceOf3 hG hV hO hx hs
  · exact ct_priceOf4 hG hV hO hx hs
  · exact ct_priceOf5 hG hV hO hx hs
theorem ct_chosen {d : Nat} {h : zH} {g n x s : Nat} {ec : Int32} {lo hi : Nat → Nat} {fl fh fb fa ft sh rw en im : Nat → Int32} (hG : zG0 h g n ec fl fh fb fa ft sh rw en im) (hV : zGv n lo hi fl fh fb fa ft) (hO : zOk n lo hi) {k od G : Nat} (hk : k < 6) (hod : od < 4) (hGs : G < 256) (hs : s < 256) : zCall (d + 3) 33 [.ref g, .int (nI k), .int (nI od), .int (nI G), .int (nI s)] h (some (.int (zbv (zCh (fun x => zPri lo hi k x s) od G n).1)), h) := by
  have hn := hO.1
  generalize hP : (fun x => zPri lo hi k x s) = P
  have hPx : ∀ x, zPri lo hi k x s = P x := fun x => by rw [← hP]
  have hPl : ∀ x, P x ≤ 19 := fun x => by rw [← hPx]; exact zPri_le lo hi k x s
  refine zG_m (t := tX3_chosen) (ls0 := [.ref g, .int (nI k), .int (nI od), .int (nI G), .int (nI s), .null, .null, .null, .null, .null]) rfl rfl (zdnR (zdnI (zdnI (zdnI (zdnI zdn0))))) rfl ?_
  refine zG_s rfl rfl ?_
  refine zN_st5 rfl (fun _ _ _ => rfl) rfl ?_
  refine zG_s rfl rfl ?_
  refine zN_st6 rfl (fun _ _ _ => rfl) rfl ?_
  refine zG_s rfl rfl ?_
  refine zN_st7 rfl (fun _ _ _ => rfl) rfl ?_
  have main9 : ∀ x, x ≤ n → ∀ (z8 z9 : Value), zok1 [.ref g, .int (nI k), .int (nI od), .int (nI G), .int (nI s), .int (zbv (zCh P od G x).1), .int (nI (zCh P od G x).2), .int (nI x), z8, z9] 8 = true → zok1 [.ref g, .int (nI k), .int (nI od), .int (nI G), .int (nI s), .int (zbv (zCh P od G x).1), .int (nI (zCh P od G x).2), .int (nI x), z8, z9] 9 = true → zGo (d + 2) tX3_chosen 9 [.ref g, .int (nI k), .int (nI od), .int (nI G), .int (nI s), .int (zbv (zCh P od G x).1), .int (nI (zCh P od G x).2), .int (nI x), z8, z9] [] h (some (.int (zbv (zCh P od G n).1)), h) := by
    refine zdown (n) ?_ (fun x hp9 ih9 => ?_)
    · skip
      intro z8 z9 e8 e9
      refine zG_s rfl rfl ?_
      refine zG_s rfl rfl ?_
      refine zN_get rfl hG.o rfl ?_
      refine zN_ige rfl (by omega) (by omega) (fun c1 => ?_) (fun c2 => absurd c2 (by omega))
      refine zG_s rfl rfl ?_
      -- leaf 1
      exact zG_ret rfl rfl rfl
    · skip
      intro z8 z9 e8 e9
      have l1 := zCh_le P od G x
      have l2 := zCh_pr (o := od) (G := G) (n := x) (fun y _ => hPl y)
      have l3 := hPl x
      refine zG_s rfl rfl ?_
      refine zG_s rfl rfl ?_
      refine zN_get rfl hG.o rfl ?_
      refine zN_ige rfl (by omega) (by omega) (fun c3 => absurd c3 (by omega)) (fun c4 => ?_)
      refine zG_s rfl rfl ?_
      refine zG_s rfl rfl ?_
      refine zG_cS1 rfl rfl (ct_has _ (by omega) (by omega)) ?_
      first | refine zN_ifb rfl (fun c5 => ?_) (fun c6 => ?_) | refine zN_eq0 rfl (by omega) (fun c5 => ?_) (fun c6 => ?_)
      · skip
        refine zN_inc7 rfl rfl ?_
        refine zG_s rfl rfl ?_
        -- leaf 2
        rw [zCh_nb c5] at ih9
        exact ih9 _ _ e8 e9
      · skip
        refine zG_s rfl rfl ?_
        refine zG_s rfl rfl ?_
        refine zG_s rfl rfl ?_
        refine zG_s rfl rfl ?_
        refine zG_cV1 rfl rfl hG.o rfl rfl (ct_priceOf hG hV hO (by omega) (by omega) (by omega)) ?_
        rw [hPx]
        refine zN_st8 rfl (fun _ _ _ => rfl) rfl ?_
        refine zG_s rfl rfl ?_
        refine zG_s rfl rfl ?_
        refine zN_ieq rfl (by omega) (by omega) (fun c7 => ?_) (fun c8 => ?_)
        · skip
          refine zG_s rfl rfl ?_
          refine zG_s rfl rfl ?_
          refine zN_st9 rfl (fun _ _ _ => rfl) rfl ?_
          refine zG_s rfl rfl ?_
          refine zN_ifbv rfl (by omega) (fun c9 => ?_) (fun c10 => ?_)
          · skip
            refine zG_s rfl rfl ?_
            refine zN_st5 rfl (fun _ _ _ => rfl) rfl ?_
            refine zG_s rfl rfl ?_
            refine zN_st6 rfl (fun _ _ _ => rfl) rfl ?_
            refine zN_inc7 rfl rfl ?_
            refine zG_s rfl rfl ?_
            -- leaf 3
            first
              | (rw [zCh_yes (by assumption) (by omega)] at ih9; exact ih9 _ _ rfl rfl)
              | (rw [zCh_no (by omega)] at ih9; exact ih9 _ _ rfl rfl)
          · skip
            refine zG_s rfl rfl ?_
            first | refine zN_ifb rfl (fun c11 => ?_) (fun c12 => ?_) | refine zN_eq0 rfl (by omega) (fun c11 => ?_) (fun c12 => ?_)
            · skip
              refine zN_inc7 rfl rfl ?_
              refine zG_s rfl rfl ?_
              -- leaf 4
              first
                | (rw [zCh_yes (by assumption) (by omega)] at ih9; exact ih9 _ _ rfl rfl)
                | (rw [zCh_no (by omega)] at ih9; exact ih9 _ _ rfl rfl)
            · skip
              refine zG_s rfl rfl ?_
              refine zN_st5 rfl (fun _ _ _ => rfl) rfl ?_
              refine zG_s rfl rfl ?_
              refine zN_st6 rfl (fun _ _ _ => rfl) rfl ?_
              refine zN_inc7 rfl rfl ?_
              refine zG_s rfl rfl ?_
              -- leaf 5
              first
                | (rw [zCh_yes (by assumption) (by omega)] at ih9; exact ih9 _ _ rfl rfl)
                | (rw [zCh_no (by omega)] at ih9; exact ih9 _ _ rfl rfl)
        · skip
          refine zG_s rfl rfl ?_
          refine zG_s rfl rfl ?_
          refine zN_ine rfl (by omega) (by omega) (fun c13 => ?_) (fun c14 => ?_)
          · skip
            refine zG_s rfl rfl ?_
            refine zG_s rfl rfl ?_
            refine zN_ine rfl (by omega) (by omega) (fun c15 => ?_) (fun c16 => ?_)
            · skip
              refine zG_s rfl rfl ?_
              refine zN_st9 rfl (fun _ _ _ => rfl) rfl ?_
              refine zG_s rfl rfl ?_
              refine zN_ifbv rfl (by omega) (fun c17 => ?_) (fun c18 => ?_)
              · skip
                refine zG_s rfl rfl ?_
                refine zN_st5 rfl (fun _ _ _ => rfl) rfl ?_
                refine zG_s rfl rfl ?_
                refine zN_st6 rfl (fun _ _ _ => rfl) rfl ?_
                refine zN_inc7 rfl rfl ?_
                refine zG_s rfl rfl ?_
                -- leaf 6
                first
                  | (rw [zCh_yes (by assumption) (by omega)] at ih9; exact ih9 _ _ rfl rfl)
                  | (rw [zCh_no (by omega)] at ih9; exact ih9 _ _ rfl rfl)
              · skip
                refine zG_s rfl rfl ?_
                first | refine zN_ifb rfl (fun c19 => ?_) (fun c20 => ?_) | refine zN_eq0 rfl (by omega) (fun c19 => ?_) (fun c20 => ?_)
                · skip
                  refine zN_inc7 rfl rfl ?_
                  refine zG_s rfl rfl ?_
                  -- leaf 7
                  first
                    | (rw [zCh_yes (by assumption) (by omega)] at ih9; exact ih9 _ _ rfl rfl)
                    | (rw [zCh_no (by omega)] at ih9; exact ih9 _ _ rfl rfl)
                · skip
                  refine zG_s rfl rfl ?_
                  refine zN_st5 rfl (fun _ _ _ => rfl) rfl ?_
                  refine zG_s rfl rfl ?_
                  refine zN_st6 rfl (fun _ _ _ => rfl) rfl ?_
                  refine zN_inc7 rfl rfl ?_
                  refine zG_s rfl rfl ?_
                  -- leaf 8
                  first
                    | (rw [zCh_yes (by assumption) (by omega)] at ih9; exact ih9 _ _ rfl rfl)
                    | (rw [zCh_no (by omega)] at ih9; exact ih9 _ _ rfl rfl)
            · skip
              refine zG_s rfl rfl ?_
              refine zG_s rfl rfl ?_
              refine zN_ile rfl (by omega) (by omega) (fun c21 => ?_) (fun c22 => ?_)
              · skip
                refine zG_s rfl rfl ?_
                refine zN_st9 rfl (fun _ _ _ => rfl) rfl ?_
                refine zG_s rfl rfl ?_
                refine zN_ifbv rfl (by omega) (fun c23 => ?_) (fun c24 => ?_)
                · skip
                  refine zG_s rfl rfl ?_
                  refine zN_st5 rfl (fun _ _ _ => rfl) rfl ?_
                  refine zG_s rfl rfl ?_
                  refine zN_st6 rfl (fun _ _ _ => rfl) rfl ?_
                  refine zN_inc7 rfl rfl ?_
                  refine zG_s rfl rfl ?_
                  -- leaf 9
                  first
                    | (rw [zCh_yes (by assumption) (by omega)] at ih9; exact ih9 _ _ rfl rfl)
                    | (rw [zCh_no (by omega)] at ih9; exact ih9 _ _ rfl rfl)
                · skip
                  refine zG_s rfl rfl ?_
                  first | refine zN_ifb rfl (fun c25 => ?_) (fun c26 => ?_) | refine zN_eq0 rfl (by omega) (fun c25 => ?_) (fun c26 => ?_)
                  · skip
                    refine zN_inc7 rfl rfl ?_
                    refine zG_s rfl rfl ?_
                    -- leaf 10
                    first
                      | (rw [zCh_yes (by assumption) (by omega)] at ih9; exact ih9 _ _ rfl rfl)
                      | (rw [zCh_no (by omega)] at ih9; exact ih9 _ _ rfl rfl)
                  · skip
                    refine zG_s rfl rfl ?_
                    refine zN_st5 rfl (fun _ _ _ => rfl) rfl ?_
                    refine zG_s rfl rfl ?_
                    refine zN_st6 rfl (fun _ _ _ => rfl) rfl ?_
                    refine zN_inc7 rfl rfl ?_
                    refine zG_s rfl rfl ?_
                    -- leaf 11
                    first
                      | (rw [zCh_yes (by assumption) (by omega)] at ih9; exact ih9 _ _ rfl rfl)
                      | (rw [zCh_no (by omega)] at ih9; exact ih9 _ _ rfl rfl)
              · skip
                refine zG_s rfl rfl ?_
                refine zG_s rfl rfl ?_
                refine zN_st9 rfl (fun _ _ _ => rfl) rfl ?_
                refine zG_s rfl rfl ?_
                refine zN_ifbv rfl (by omega) (fun c27 => ?_) (fun c28 => ?_)
                · skip
                  refine zG_s rfl rfl ?_
                  refine zN_st5 rfl (fun _ _ _ => rfl) rfl ?_
                  refine zG_s rfl rfl ?_
                  refine zN_st6 rfl (fun _ _ _ => rfl) rfl ?_
                  refine zN_inc7 rfl rfl ?_
                  refine zG_s rfl rfl ?_
                  -- leaf 12
                  first
                    | (rw [zCh_yes (by assumption) (by omega)] at ih9; exact ih9 _ _ rfl rfl)
                    | (rw [zCh_no (by omega)] at ih9; exact ih9 _ _ rfl rfl)
                · skip
                  refine zG_s rfl rfl ?_
                  first | refine zN_ifb rfl (fun c29 => ?_) (fun c30 => ?_) | refine zN_eq0 rfl (by omega) (fun c29 => ?_) (fun c30 => ?_)
                  · skip
                    refine zN_inc7 rfl rfl ?_
                    refine zG_s rfl rfl ?_
                    -- leaf 13
                    first
                      | (rw [zCh_yes (by assumption) (by omega)] at ih9; exact ih9 _ _ rfl rfl)
                      | (rw [zCh_no (by omega)] at ih9; exact ih9 _ _ rfl rfl)
                  · skip
                    refine zG_s rfl rfl ?_
                    refine zN_st5 rfl (fun _ _ _ => rfl) rfl ?_
                    refine zG_s rfl rfl ?_
                    refine zN_st6 rfl (fun _ _ _ => rfl) rfl ?_
                    refine zN_inc7 rfl rfl ?_
                    refine zG_s rfl rfl ?_
                    -- leaf 14
                    first
                      | (rw [zCh_yes (by assumption) (by omega)] at ih9; exact ih9 _ _ rfl rfl)
                      | (rw [zCh_no (by omega)] at ih9; exact ih9 _ _ rfl rfl)
          · skip
            refine zG_s rfl rfl ?_
            refine zG_s rfl rfl ?_
            refine zN_ilt rfl (by omega) (by omega) (fun c31 => ?_) (fun c32 => ?_)
            · skip
              refine zG_s rfl rfl ?_
              refine zG_s rfl rfl ?_
              refine zN_st9 rfl (fun _ _ _ => rfl) rfl ?_
              refine zG_s rfl rfl ?_
              refine zN_ifbv rfl (by omega) (fun c33 => ?_) (fun c34 => ?_)
              · skip
                refine zG_s rfl rfl ?_
                refine zN_st5 rfl (fun _ _ _ => rfl) rfl ?_
                refine zG_s rfl rfl ?_
                refine zN_st6 rfl (fun _ _ _ => rfl) rfl ?_
                refine zN_inc7 rfl rfl ?_
                refine zG_s rfl rfl ?_
                -- leaf 15
                first
                  | (rw [zCh_yes (by assumption) (by omega)] at ih9; exact ih9 _ _ rfl rfl)
                  | (rw [zCh_no (by omega)] at ih9; exact ih9 _ _ rfl rfl)
              · skip
                refine zG_s rfl rfl ?_
                first | refine zN_ifb rfl (fun c35 => ?_) (fun c36 => ?_) | refine zN_eq0 rfl (by omega) (fun c35 => ?_) (fun c36 => ?_)
                · skip
                  refine zN_inc7 rfl rfl ?_
                  refine zG_s rfl rfl ?_
                  -- leaf 16
                  first
                    | (rw [zCh_yes (by assumption) (by omega)] at ih9; exact ih9 _ _ rfl rfl)
                    | (rw [zCh_no (by omega)] at ih9; exact ih9 _ _ rfl rfl)
                · skip
                  refine zG_s rfl rfl ?_
                  refine zN_st5 rfl (fun _ _ _ => rfl) rfl ?_
                  refine zG_s rfl rfl ?_
                  refine zN_st6 rfl (fun _ _ _ => rfl) rfl ?_
                  refine zN_inc7 rfl rfl ?_
                  refine zG_s rfl rfl ?_
                  -- leaf 17
                  first
                    | (rw [zCh_yes (by assumption) (by omega)] at ih9; exact ih9 _ _ rfl rfl)
                    | (rw [zCh_no (by omega)] at ih9; exact ih9 _ _ rfl rfl)
            · skip
              refine zG_s rfl rfl ?_
              refine zG_s rfl rfl ?_
              refine zN_ine rfl (by omega) (by omega) (fun c37 => ?_) (fun c38 => ?_)
              · skip
                refine zG_s rfl rfl ?_
                refine zN_st9 rfl (fun _ _ _ => rfl) rfl ?_
                refine zG_s rfl rfl ?_
                refine zN_ifbv rfl (by omega) (fun c39 => ?_) (fun c40 => ?_)
                · skip
                  refine zG_s rfl rfl ?_
                  refine zN_st5 rfl (fun _ _ _ => rfl) rfl ?_
                  refine zG_s rfl rfl ?_
                  refine zN_st6 rfl (fun _ _ _ => rfl) rfl ?_
                  refine zN_inc7 rfl rfl ?_
                  refine zG_s rfl rfl ?_
                  -- leaf 18
                  first
                    | (rw [zCh_yes (by assumption) (by omega)] at ih9; exact ih9 _ _ rfl rfl)
                    | (rw [zCh_no (by omega)] at ih9; exact ih9 _ _ rfl rfl)
                · skip
                  refine zG_s rfl rfl ?_
                  first | refine zN_ifb rfl (fun c41 => ?_) (fun c42 => ?_) | refine zN_eq0 rfl (by omega) (fun c41 => ?_) (fun c42 => ?_)
                  · skip
                    refine zN_inc7 rfl rfl ?_
                    refine zG_s rfl rfl ?_
                    -- leaf 19
                    first
                      | (rw [zCh_yes (by assumption) (by omega)] at ih9; exact ih9 _ _ rfl rfl)
                      | (rw [zCh_no (by omega)] at ih9; exact ih9 _ _ rfl rfl)
                  · skip
                    refine zG_s rfl rfl ?_
                    refine zN_st5 rfl (fun _ _ _ => rfl) rfl ?_
                    refine zG_s rfl rfl ?_
                    refine zN_st6 rfl (fun _ _ _ => rfl) rfl ?_
                    refine zN_inc7 rfl rfl ?_
                    refine zG_s rfl rfl ?_
                    -- leaf 20
                    first
                      | (rw [zCh_yes (by assumption) (by omega)] at ih9; exact ih9 _ _ rfl rfl)
                      | (rw [zCh_no (by omega)] at ih9; exact ih9 _ _ rfl rfl)
              · skip
                refine zG_s rfl rfl ?_
                refine zG_s rfl rfl ?_
                refine zN_ile rfl (by omega) (by omega) (fun c43 => ?_) (fun c44 => ?_)
                · skip
                  refine zG_s rfl rfl ?_
                  refine zN_st9 rfl (fun _ _ _ => rfl) rfl ?_
                  refine zG_s rfl rfl ?_
                  refine zN_ifbv rfl (by omega) (fun c45 => ?_) (fun c46 => ?_)
                  · skip
                    refine zG_s rfl rfl ?_
                    refine zN_st5 rfl (fun _ _ _ => rfl) rfl ?_
                    refine zG_s rfl rfl ?_
                    refine zN_st6 rfl (fun _ _ _ => rfl) rfl ?_
                    refine zN_inc7 rfl rfl ?_
                    refine zG_s rfl rfl ?_
                    -- leaf 21
                    first
                      | (rw [zCh_yes (by assumption) (by omega)] at ih9; exact ih9 _ _ rfl rfl)
                      | (rw [zCh_no (by omega)] at ih9; exact ih9 _ _ rfl rfl)
                  · skip
                    refine zG_s rfl rfl ?_
                    first | refine zN_ifb rfl (fun c47 => ?_) (fun c48 => ?_) | refine zN_eq0 rfl (by omega) (fun c47 => ?_) (fun c48 => ?_)
                    · skip
                      refine zN_inc7 rfl rfl ?_
                      refine zG_s rfl rfl ?_
                      -- leaf 22
                      first
                        | (rw [zCh_yes (by assumption) (by omega)] at ih9; exact ih9 _ _ rfl rfl)
                        | (rw [zCh_no (by omega)] at ih9; exact ih9 _ _ rfl rfl)
                    · skip
                      refine zG_s rfl rfl ?_
                      refine zN_st5 rfl (fun _ _ _ => rfl) rfl ?_
                      refine zG_s rfl rfl ?_
                      refine zN_st6 rfl (fun _ _ _ => rfl) rfl ?_
                      refine zN_inc7 rfl rfl ?_
                      refine zG_s rfl rfl ?_
                      -- leaf 23
                      first
                        | (rw [zCh_yes (by assumption) (by omega)] at ih9; exact ih9 _ _ rfl rfl)
                        | (rw [zCh_no (by omega)] at ih9; exact ih9 _ _ rfl rfl)
                · skip
                  refine zG_s rfl rfl ?_
                  refine zG_s rfl rfl ?_
                  refine zN_st9 rfl (fun _ _ _ => rfl) rfl ?_
                  refine zG_s rfl rfl ?_
                  refine zN_ifbv rfl (by omega) (fun c49 => ?_) (fun c50 => ?_)
                  · skip
                    refine zG_s rfl rfl ?_
                    refine zN_st5 rfl (fun _ _ _ => rfl) rfl ?_
                    refine zG_s rfl rfl ?_
                    refine zN_st6 rfl (fun _ _ _ => rfl) rfl ?_
                    refine zN_inc7 rfl rfl ?_
                    refine zG_s rfl rfl ?_
                    -- leaf 24
                    first
                      | (rw [zCh_yes (by assumption) (by omega)] at ih9; exact ih9 _ _ rfl rfl)
                      | (rw [zCh_no (by omega)] at ih9; exact ih9 _ _ rfl rfl)
                  · skip
                    refine zG_s rfl rfl ?_
                    first | refine zN_ifb rfl (fun c51 => ?_) (fun c52 => ?_) | refine zN_eq0 rfl (by omega) (fun c51 => ?_) (fun c52 => ?_)
                    · skip
                      refine zN_inc7 rfl rfl ?_
                      refine zG_s rfl rfl ?_
                      -- leaf 25
                      first
                        | (rw [zCh_yes (by assumption) (by omega)] at ih9; exact ih9 _ _ rfl rfl)
                        | (rw [zCh_no (by omega)] at ih9; exact ih9 _ _ rfl rfl)
                    · skip
                      refine zG_s rfl rfl ?_
                      refine zN_st5 rfl (fun _ _ _ => rfl) rfl ?_
                      refine zG_s rfl rfl ?_
                      refine zN_st6 rfl (fun _ _ _ => rfl) rfl ?_
                      refine zN_inc7 rfl rfl ?_
                      refine zG_s rfl rfl ?_
                      -- leaf 26
                      first
                        | (rw [zCh_yes (by assumption) (by omega)] at ih9; exact ih9 _ _ rfl rfl)
                        | (rw [zCh_no (by omega)] at ih9; exact ih9 _ _ rfl rfl)
  exact main9 0 (by omega) .null .null rfl rfl
