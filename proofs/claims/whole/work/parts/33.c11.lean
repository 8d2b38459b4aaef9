theorem ct_beatsOf {d : Nat} {h0 h : zH} {g n x : Nat} {ec : Int32} {lo hi : Nat → Nat} {rw en im : Nat → Int32} (hg : 2 ≤ g) (hA : zGA h0 g n lo hi ec rw en im h) (hO : zOk n lo hi) (hR : zRfl n lo hi) (hx : x < n) : zCallP (d + 6) 30 [.ref g, .int (nI x)] h (zRV (.int (nI ((if !zLk lo hi x (1 <<< n - 1) && zDn n lo hi x (1 <<< n - 1) then 1 else 0) + (if !zLk lo hi x (1 <<< n - 1) && zUp n lo hi x (1 <<< n - 1) then 2 else 0) + (if zMay n lo hi 4 x (1 <<< n - 1) then 4 else 0)))) (zGA h0 g n lo hi ec rw en im)) := by
  have hn := hO.1
  have b0 := zpow_le hn
  generalize hQ : zRV (.int (nI ((if !zLk lo hi x (1 <<< n - 1) && zDn n lo hi x (1 <<< n - 1) then 1 else 0) + (if !zLk lo hi x (1 <<< n - 1) && zUp n lo hi x (1 <<< n - 1) then 2 else 0) + (if zMay n lo hi 4 x (1 <<< n - 1) then 4 else 0)))) (zGA h0 g n lo hi ec rw en im) = Q
  obtain ⟨hF, fl, fh, fb, fa, ft, sh, hG, hV, hM⟩ := hA
  have hA : zGA h0 g n lo hi ec rw en im h := ⟨hF, fl, fh, fb, fa, ft, sh, hG, hV, hM⟩
  refine zG_mP (t := tX3_beatsOf) (ls0 := [.ref g, .int (nI x), .null, .null, .null]) rfl rfl (zdnR (zdnI zdn0)) rfl ?_
  refine zG_s rfl rfl ?_
  refine zG_cV1 rfl rfl hG.o rfl rfl (ct_gall hG.o (by omega)) ?_
  refine zN_st2 rfl (fun _ _ _ => rfl) rfl ?_
  refine zG_s rfl rfl ?_
  refine zG_s rfl rfl ?_
  refine zG_s rfl rfl ?_
  refine zG_cV1 rfl rfl hG.o rfl rfl (ct_goesByLike hG hV hO (by omega) (by omega)) ?_
  have jn19 : ∀ (w : Bool), w = !zLk lo hi x (1 <<< n - 1) → zGoP (d + 5) tX3_beatsOf 19 [.ref g, .int (nI x), .int (nI (1 <<< n - 1)), .null, .null] [.int (nI (b2n w))] h Q := by
    intro w ew
    rw [← ew] at hQ
    refine zN_st3 rfl (fun _ _ _ => rfl) rfl ?_
    have jn38 : ∀ (v : Nat), v = (if w && zDn n lo hi x (1 <<< n - 1) then 1 else 0) → zGoP (d + 5) tX3_beatsOf 38 [.ref g, .int (nI x), .int (nI (1 <<< n - 1)), .int (nI (b2n w)), .null] [.int (nI v)] h Q := by
      intro v ev
      rw [← ev] at hQ
      have jn56 : ∀ (v2 : Nat), v2 = (if w && zUp n lo hi x (1 <<< n - 1) then 2 else 0) → zGoP (d + 5) tX3_beatsOf 56 [.ref g, .int (nI x), .int (nI (1 <<< n - 1)), .int (nI (b2n w)), .null] [.int (nI v2), .int (nI v)] h Q := by
        intro v2 ev2
        rw [← ev2] at hQ
        refine zN_add rfl ?_
        refine zN_st4 rfl (fun _ _ _ => rfl) rfl ?_
        refine zG_s rfl rfl ?_
        refine zG_s rfl rfl ?_
        refine zG_s rfl rfl ?_
        refine zG_s rfl rfl ?_
        refine zG_s rfl rfl ?_
        refine zG_cQV rfl rfl hG.o rfl rfl (ct_mayGo hg hA hO hR (by omega) (by omega) (by omega)) (fun h2 hA2 => ?_)
        have jn76 : ∀ (v3 : Nat), v3 = (if zMay n lo hi 4 x (1 <<< n - 1) then 4 else 0) → zGoP (d + 5) tX3_beatsOf 76 [.ref g, .int (nI x), .int (nI (1 <<< n - 1)), .int (nI (b2n w)), .int (nI (v + v2))] [.int (nI v3), .int (nI (v + v2))] h2 Q := by
          intro v3 ev3
          rw [← ev3] at hQ
          refine zN_add rfl ?_
          -- leaf 1
          rw [← hQ]
          exact zG_ret rfl rfl ⟨rfl, hA2⟩
        first | refine zN_ifb rfl (fun c1 => ?_) (fun c2 => ?_) | refine zN_eq0 rfl (by omega) (fun c1 => ?_) (fun c2 => ?_)
        · skip
          refine zG_s rfl rfl ?_
          -- leaf 2
          exact jn76 _ (by rw [c1]; rfl)
        · skip
          refine zG_s rfl rfl ?_
          refine zG_s rfl rfl ?_
          -- leaf 3
          exact jn76 _ (by rw [c2]; rfl)
      refine zG_s rfl rfl ?_
      first | refine zN_ifb rfl (fun c3 => ?_) (fun c4 => ?_) | refine zN_eq0 rfl (by omega) (fun c3 => ?_) (fun c4 => ?_)
      · skip
        refine zG_s rfl rfl ?_
        -- leaf 4
        exact jn56 _ (by rw [c3]; rfl)
      · skip
        refine zG_s rfl rfl ?_
        refine zG_s rfl rfl ?_
        refine zG_s rfl rfl ?_
        refine zG_cV1 rfl rfl hG.o rfl rfl (ct_goesByUp hG hV hO (by omega) (by omega)) ?_
        first | refine zN_ifb rfl (fun c5 => ?_) (fun c6 => ?_) | refine zN_eq0 rfl (by omega) (fun c5 => ?_) (fun c6 => ?_)
        · skip
          refine zG_s rfl rfl ?_
          -- leaf 5
          exact jn56 _ (by rw [c4, c5]; rfl)
        · skip
          refine zG_s rfl rfl ?_
          refine zG_s rfl rfl ?_
          -- leaf 6
          exact jn56 _ (by rw [c4, c6]; rfl)
    refine zG_s rfl rfl ?_
    first | refine zN_ifb rfl (fun c7 => ?_) (fun c8 => ?_) | refine zN_eq0 rfl (by omega) (fun c7 => ?_) (fun c8 => ?_)
    · skip
      refine zG_s rfl rfl ?_
      -- leaf 7
      exact jn38 _ (by rw [c7]; rfl)
    · skip
      refine zG_s rfl rfl ?_
      refine zG_s rfl rfl ?_
      refine zG_s rfl rfl ?_
      refine zG_cV1 rfl rfl hG.o rfl rfl (ct_goesByDown hG hV hO (by omega) (by omega)) ?_
      first | refine zN_ifb rfl (fun c9 => ?_) (fun c10 => ?_) | refine zN_eq0 rfl (by omega) (fun c9 => ?_) (fun c10 => ?_)
      · skip
        refine zG_s rfl rfl ?_
        -- leaf 8
        exact jn38 _ (by rw [c8, c9]; rfl)
      · skip
        refine zG_s rfl rfl ?_
        refine zG_s rfl rfl ?_
        -- leaf 9
        exact jn38 _ (by rw [c8, c10]; rfl)
  first | refine zN_ifnb rfl (fun c11 => ?_) (fun c12 => ?_) | refine zN_ne0 rfl (by omega) (fun c11 => ?_) (fun c12 => ?_)
  · skip
    refine zG_s rfl rfl ?_
    -- leaf 10
    exact jn19 false (by rw [c11]; rfl)
  · skip
    refine zG_s rfl rfl ?_
    refine zG_s rfl rfl ?_
    -- leaf 11
    exact jn19 true (by rw [c12]; rfl)
theorem ct_choices {d : Nat} {h : zH} {o nA nB : Nat} {ex fe : Bool} {fl fh tl th : Nat → Nat} {k u : Nat} {im : Nat → Int32} {I : Nat → Nat} (hM : zM0 h o nA nB ex fe fl fh tl th im) (hOa : zOk nA fl fh) (hOb : zOk nB tl th) (hk : k < nA) (hu : u < 256) (hI : ∀ j, j < k → im j = nI (I j) ∧ I j < nB) : zCall (d + 2) 43 [.ref o, .int (nI k), .int (nI u)] h (some (.int (nI (zCho ex nB fl fh tl th I k u k))), h) := by
  have hn := hOa.1
  have hn2 := hOb.1
  have b0 := zpow_le hn2
  have b1 := hOa.2 k hk
  obtain ⟨hm, hi9, ⟨hs, al, ah, hal, hah, hav⟩, ⟨ht, bl, bh, hbl, hbh, hbv⟩⟩ := hM
  refine zG_m (t := tX4_choices) (ls0 := [.ref o, .int (nI k), .int (nI u), .null, .null, .null, .null]) rfl rfl (zdnR (zdnI (zdnI zdn0))) rfl ?_
  refine zG_s rfl rfl ?_
  refine zN_get rfl hm rfl ?_
  have jn28 : ∀ (O : Nat), O = zCho ex nB fl fh tl th I k u 0 → zGo (d + 1) tX4_choices 28 [.ref o, .int (nI k), .int (nI u), .null, .null, .null, .null] [.int (nI O)] h (some (.int (nI (zCho ex nB fl fh tl th I k u k))), h) := by
    intro O eO
    rw [eO]
    refine zN_st3 rfl (fun _ _ _ => rfl) rfl ?_
    refine zG_s rfl rfl ?_
    refine zN_st4 rfl (fun _ _ _ => rfl) rfl ?_
    have main32 : ∀ j, j ≤ k → ∀ (z5 z6 : Value), zok1 [.ref o, .int (nI k), .int (nI u), .int (nI (zCho ex nB fl fh tl th I k u j)), .int (nI j), z5, z6] 6 = true → zGo (d + 1) tX4_choices 32 [.ref o, .int (nI k), .int (nI u), .int (nI (zCho ex nB fl fh tl th I k u j)), .int (nI j), z5, z6] [] h (some (.int (nI (zCho ex nB fl fh tl th I k u k))), h) := by
      refine zdown (k) ?_ (fun j hp32 ih32 => ?_)
      · skip
        intro z5 z6 e6
        refine zG_s rfl rfl ?_
        refine zG_s rfl rfl ?_
        refine zN_ige rfl (by omega) (by omega) (fun c1 => ?_) (fun c2 => absurd c2 (by omega))
        refine zG_s rfl rfl ?_
        -- leaf 1
        exact zG_ret rfl rfl rfl
      · skip
        intro z5 z6 e6
        obtain ⟨e1, e2⟩ := hI j hp32
        have e3 := (hbv _ e2)
        refine zG_s rfl rfl ?_
        refine zG_s rfl rfl ?_
        refine zN_ige rfl (by omega) (by omega) (fun c3 => absurd c3 (by omega)) (fun c4 => ?_)
        refine zG_s rfl rfl ?_
        refine zN_get rfl hm rfl ?_
        refine zN_get rfl ht rfl ?_
        refine zG_s rfl rfl ?_
        refine zN_get rfl hm rfl ?_
        refine zG_s rfl rfl ?_
        refine zN_ald rfl hi9 (by omega) (by omega) e1 ?_
        refine zN_ald rfl hbh (by omega) (by omega) e3.2 ?_
        refine zN_st5 rfl (fun _ _ _ => rfl) rfl ?_
        refine zG_s rfl rfl ?_
        refine zN_get rfl hm rfl ?_
        refine zN_get rfl ht rfl ?_
        refine zG_s rfl rfl ?_
        refine zN_get rfl hm rfl ?_
        refine zG_s rfl rfl ?_
        refine zN_ald rfl hi9 (by omega) (by omega) e1 ?_
        refine zN_ald rfl hbl (by omega) (by omega) e3.1 ?_
        refine zN_st6 rfl (fun _ _ _ => rfl) rfl ?_
        refine zG_s rfl rfl ?_
        refine zN_get rfl hm rfl ?_
        refine zN_get rfl hs rfl ?_
        refine zG_s rfl rfl ?_
        refine zN_ald rfl hal (by omega) (by omega) (hav k hk).1 ?_
        refine zG_s rfl rfl ?_
        refine zG_cS1 rfl rfl (ct_has _ (by omega) (by omega)) ?_
        have jn111 : ∀ (O : Nat), O = zCh1 ex ((fl k).testBit j) (zCho ex nB fl fh tl th I k u j) (th (I j)) → zGo (d + 1) tX4_choices 111 [.ref o, .int (nI k), .int (nI u), .int (nI O), .int (nI j), .int (nI (th (I j))), .int (nI (tl (I j)))] [] h (some (.int (nI (zCho ex nB fl fh tl th I k u k))), h) := by
          intro O eO
          refine zG_s rfl rfl ?_
          refine zN_get rfl hm rfl ?_
          refine zN_get rfl hs rfl ?_
          refine zG_s rfl rfl ?_
          refine zN_ald rfl hah (by omega) (by omega) (hav k hk).2 ?_
          refine zG_s rfl rfl ?_
          refine zG_cS1 rfl rfl (ct_has _ (by omega) (by omega)) ?_
          first | refine zN_ifb rfl (fun c5 => ?_) (fun c6 => ?_) | refine zN_eq0 rfl (by omega) (fun c5 => ?_) (fun c6 => ?_)
          · skip
            refine zG_s rfl rfl ?_
            refine zN_get rfl hm rfl ?_
            first | refine zN_ifb rfl (fun c7 => ?_) (fun c8 => ?_) | refine zN_eq0 rfl (by omega) (fun c7 => ?_) (fun c8 => ?_)
            · skip
              refine zN_inc4 rfl rfl ?_
              refine zG_s rfl rfl ?_
              -- leaf 2
              have e9 : zCho ex nB fl fh tl th I k u (j + 1) = O := by rw [zCho, ← eO, c5, c7]; rfl
              rw [e9] at ih32
              exact ih32 _ _ rfl
            · skip
              refine zG_s rfl rfl ?_
              refine zG_s rfl rfl ?_
              refine zG_s rfl rfl ?_
              refine zN_not rfl ?_
              refine zN_andn rfl ?_
              refine zN_st3 rfl (fun _ _ _ => rfl) rfl ?_
              refine zN_inc4 rfl rfl ?_
              refine zG_s rfl rfl ?_
              -- leaf 3
              have e9 : zCho ex nB fl fh tl th I k u (j + 1) = zan O (tl (I j)) := by rw [zCho, ← eO, c5, c8]; rfl
              rw [e9] at ih32
              exact ih32 _ _ rfl
          · skip
            refine zG_s rfl rfl ?_
            refine zG_s rfl rfl ?_
            refine zN_and rfl ?_
            refine zN_st3 rfl (fun _ _ _ => rfl) rfl ?_
            refine zG_s rfl rfl ?_
            refine zN_inc4 rfl rfl ?_
            refine zG_s rfl rfl ?_
            -- leaf 4
            have e9 : zCho ex nB fl fh tl th I k u (j + 1) = O &&& tl (I j) := by rw [zCho, ← eO, c6]; rfl
            rw [e9] at ih32
            exact ih32 _ _ rfl
        first | refine zN_ifb rfl (fun c9 => ?_) (fun c10 => ?_) | refine zN_eq0 rfl (by omega) (fun c9 => ?_) (fun c10 => ?_)
        · skip
          refine zG_s rfl rfl ?_
          refine zN_get rfl hm rfl ?_
          first | refine zN_ifb rfl (fun c11 => ?_) (fun c12 => ?_) | refine zN_eq0 rfl (by omega) (fun c11 => ?_) (fun c12 => ?_)
          · skip
            -- leaf 5
            exact jn111 _ (by rw [c9, c11]; rfl)
          · skip
            refine zG_s rfl rfl ?_
            refine zG_s rfl rfl ?_
            refine zG_s rfl rfl ?_
            refine zN_not rfl ?_
            refine zN_andn rfl ?_
            refine zN_st3 rfl (fun _ _ _ => rfl) rfl ?_
            -- leaf 6
            exact jn111 _ (by rw [c9, c12]; rfl)
        · skip
          refine zG_s rfl rfl ?_
          refine zG_s rfl rfl ?_
          refine zN_and rfl ?_
          refine zN_st3 rfl (fun _ _ _ => rfl) rfl ?_
          refine zG_s rfl rfl ?_
          -- leaf 7
          exact jn111 _ (by rw [c10]; rfl)
    exact main32 0 (by omega) _ _ rfl
  first | refine zN_ifb rfl (fun c13 => ?_) (fun c14 => ?_) | refine zN_eq0 rfl (by omega) (fun c13 => ?_) (fun c14 => ?_)
  · skip
    refine zG_s rfl rfl ?_
    refine zN_get rfl hm rfl ?_
    refine zG_cV1 rfl rfl ht rfl rfl (ct_all ht (by omega)) ?_
    -- leaf 8
    exact jn28 _ (by rw [c13]; rfl)
  · skip
    refine zG_s rfl rfl ?_
    refine zN_get rfl hm rfl ?_
    refine zG_cV1 rfl rfl ht rfl rfl (ct_all ht (by omega)) ?_
    refine zG_s rfl rfl ?_
    refine zG_s rfl rfl ?_
    refine zN_not rfl ?_
    refine zN_andn rfl ?_
    refine zG_s rfl rfl ?_
    -- leaf 9
    exact jn28 _ (by rw [c14]; rfl)
theorem ct_fillC0 {d : Nat} {h : zH} {o nA nB : Nat} {ex : Bool} {fl fh tl th : Nat → Nat} {k u : Nat} {im : Nat → Int32} {I : Nat → Nat} (hM : zM0 h o nA nB ex false fl fh tl th im) (hn : nA ≤ 8) (hk : k = nA) : zCallP (d + 3) 44 [.ref o, .int (nI k), .int (nI u)] h (zRV (.int (nI (zFc ex nB fl fh tl th 0 k u I))) (fun h1 => zFr (zmS o) h h1 ∧ ∃ im1 : Nat → Int32, zM0 h1 o nA nB ex false fl fh tl th im1 ∧ ∀ j, j < k → im1 j = im j)) := by
  refine zG_mP (t := tX4_fill) (ls0 := [.ref o, .int (nI k), .int (nI u), .null, .null, .null]) rfl rfl (zdnR (zdnI (zdnI zdn0))) rfl ?_
  refine zG_s rfl rfl ?_
  refine zG_s rfl rfl ?_
  refine zN_get rfl hM.1 rfl ?_
  refine zN_get rfl hM.2.2.1.1 rfl ?_
  refine zN_ilt rfl (by omega) (by omega) (fun c => absurd c (by omega)) (fun c2 => ?_)
  refine zG_s rfl rfl ?_
  -- leaf 1
  exact zG_ret rfl rfl ⟨rfl, zFr.rf, im, hM, fun _ _ => rfl⟩
theorem ct_fillCs {d : Nat} {h : zH} {o nA nB : Nat} {ex : Bool} {fl fh tl th : Nat → Nat} {r : Nat} (ho2 : 2 ≤ o) (hOa : zOk nA fl fh) (hOb : zOk nB tl th)
    (IH : ∀ (h : zH) (k u : Nat) (I : Nat → Nat) (im : Nat → Int32), k + r = nA → zM0 h o nA nB ex false fl fh tl th im → u < 256 → (∀ j, j < k → im j = nI (I j) ∧ I j < nB) → zCallP (d + 3) 44 [.ref o, .int (nI k), .int (nI u)] h (zRV (.int (nI (zFc ex nB fl fh tl th r k u I))) (fun h1 => zFr (zmS o) h h1 ∧ ∃ im1 : Nat → Int32, zM0 h1 o nA nB ex false fl fh tl th im1 ∧ ∀ j, j < k → im1 j = im j)))
    {k u : Nat} {I : Nat → Nat} {im : Nat → Int32} (hk : k + (r + 1) = nA) (hM : zM0 h o nA nB ex false fl fh tl th im) (hu : u < 256) (hI : ∀ j, j < k → im j = nI (I j) ∧ I j < nB) : zCallP (d + 4) 44 [.ref o, .int (nI k), .int (nI u)] h (zRV (.int (nI (zFc ex nB fl fh tl th (r + 1) k u I))) (fun h1 => zFr (zmS o) h h1 ∧ ∃ im1 : Nat → Int32, zM0 h1 o nA nB ex false fl fh tl th im1 ∧ ∀ j, j < k → im1 j = im j)) := by
  have hn := hOa.1
  have hn2 := hOb.1
  have b0 := zpow_le hn2
  have bc := zCho_le ex nB fl fh tl th I k u k
  rw [zFc]
  generalize hC : zCho ex nB fl fh tl th I k u k = C at *
  generalize hF : (fun y => if C.testBit y then zFc ex nB fl fh tl th r (k + 1) (u ||| 1 <<< y) (zupd I k y) else 0) = F
  have hFx : ∀ y, F y = if C.testBit y then zFc ex nB fl fh tl th r (k + 1) (u ||| 1 <<< y) (zupd I k y) else 0 := fun y => by rw [← hF]
  refine zG_mP (t := tX4_fill) (ls0 := [.ref o, .int (nI k), .int (nI u), .null, .null, .null]) rfl rfl (zdnR (zdnI (zdnI zdn0))) rfl ?_
  refine zG_s rfl rfl ?_
  refine zG_s rfl rfl ?_
  refine zN_get rfl hM.1 rfl ?_
  refine zN_get rfl hM.2.2.1.1 rfl ?_
  refine zN_ilt rfl (by omega) (by omega) (fun c1 => ?_) (fun c => absurd c (by omega))
  refine zG_s rfl rfl ?_
  refine zG_s rfl rfl ?_
  refine zG_s rfl rfl ?_
  refine zG_cV1 rfl rfl hM.1 rfl rfl (ct_choices hM hOa hOb (by omega) hu hI) ?_
  rw [hC]
  refine zN_st3 rfl (fun _ _ _ => rfl) rfl ?_
  refine zG_s rfl rfl ?_
  refine zG_s rfl rfl ?_
  refine zN_get rfl hM.1 rfl ?_
  refine zN_get rfl hM.2.2.1.1 rfl ?_
  refine zG_s rfl rfl ?_
  refine zN_sub (y := 1) rfl (by omega) ?_
  refine zN_ine rfl (by omega) (by omega) (fun c3 => ?_) (fun c4 => ?_)
  · skip
    refine zG_s rfl rfl ?_
    refine zN_st4 rfl (fun _ _ _ => rfl) rfl ?_
    refine zG_s rfl rfl ?_
    refine zN_st5 rfl (fun _ _ _ => rfl) rfl ?_
    have main51 : ∀ y, y ≤ nB → ∀ (h1 : zH) (im1 : Nat → Int32), zFr (zmS o) h h1 → zM0 h1 o nA nB ex false fl fh tl th im1 → (∀ j, j < k → im1 j = im j) → zGoP (d + 3) tX4_fill 51 [.ref o, .int (nI k), .int (nI u), .int (nI C), .int (nI (zsm F y)), .int (nI y)] [] h1 (zRV (.int (nI (if r = 0 then zcnt C else zsm F nB))) (fun h1 => zFr (zmS o) h h1 ∧ ∃ im1 : Nat → Int32, zM0 h1 o nA nB ex false fl fh tl th im1 ∧ ∀ j, j < k → im1 j = im j)) := by
      refine zdown (nB) ?_ (fun y hp51 ih51 => ?_)
      · skip
        intro h1 im1 hF1 hM1 him1
        refine zG_s rfl rfl ?_
        refine zG_s rfl rfl ?_
        refine zN_get rfl hM1.1 rfl ?_
        refine zN_get rfl hM1.2.2.2.1 rfl ?_
        refine zN_ige rfl (by omega) (by omega) (fun c5 => ?_) (fun c6 => absurd c6 (by omega))
        refine zG_s rfl rfl ?_
        -- leaf 1
        rw [if_neg (show ¬ r = 0 by omega)]
        exact zG_ret rfl rfl ⟨rfl, hF1, im1, hM1, him1⟩
      · skip
        intro h1 im1 hF1 hM1 him1
        refine zG_s rfl rfl ?_
        refine zG_s rfl rfl ?_
        refine zN_get rfl hM1.1 rfl ?_
        refine zN_get rfl hM1.2.2.2.1 rfl ?_
        refine zN_ige rfl (by omega) (by omega) (fun c7 => absurd c7 (by omega)) (fun c8 => ?_)
        refine zG_s rfl rfl ?_
        refine zG_s rfl rfl ?_
        refine zG_cS1 rfl rfl (ct_has _ (by omega) (by omega)) ?_
        first | refine zN_ifb rfl (fun c9 => ?_) (fun c10 => ?_) | refine zN_eq0 rfl (by omega) (fun c9 => ?_) (fun c10 => ?_)
        · skip
          refine zN_inc5 rfl rfl ?_
          refine zG_s rfl rfl ?_
          -- leaf 2
          have e9 : zsm F (y + 1) = zsm F y := by rw [zsm, hFx, c9]; rfl
          rw [e9] at ih51
          exact ih51 h1 im1 hF1 hM1 him1
        · skip
          refine zG_s rfl rfl ?_
          refine zN_get rfl hM1.1 rfl ?_
          refine zG_s rfl rfl ?_
          refine zG_s rfl rfl ?_
          refine zN_ast rfl hM1.2.1 (by omega) (by omega) (zble_of ho2) ?_
          refine zG_s rfl rfl ?_
          refine zG_s rfl rfl ?_
          refine zG_s rfl rfl ?_
          refine zG_s rfl rfl ?_
          refine zN_add (y := 1) rfl ?_
          refine zG_s rfl rfl ?_
          refine zG_s rfl rfl ?_
          refine zG_s rfl rfl ?_
          refine zN_shl rfl (by omega) ?_
          refine zN_or rfl ?_
          refine zG_cqV rfl rfl (IH _ (k + 1) (u ||| 1 <<< y) (zupd I k y) _ (by omega) hM1.p_im (zor_lt8 hu (zsh1_lt (by omega))) (fun j hj => ?_)) (fun h2 hP2 => ?_)
          · by_cases e : j = k
            · subst e; exact ⟨by rw [upd_at, zupd_at], by rw [zupd_at]; omega⟩
            · rw [upd_ne _ _ e, zupd_ne _ _ e, him1 j (by omega)]
              exact hI j (by omega)
          obtain ⟨hF2, im2, hM2, him2⟩ := hP2
          have hF3 := (hF1.set (zmS_in (k := 7) (by omega))).tr hF2
          have him3 : ∀ j, j < k → im2 j = im j := fun j hj => by rw [him2 j (by omega), upd_ne _ _ (by omega), him1 j hj]
          refine zN_add rfl ?_
          refine zN_st4 rfl (fun _ _ _ => rfl) rfl ?_
          refine zG_s rfl rfl ?_
          refine zN_if rfl (fun c11 => ?_) (fun c12 => ?_)
          · skip
            refine zN_inc5 rfl rfl ?_
            refine zG_s rfl rfl ?_
            -- leaf 3
            have e9 : zsm F (y + 1) = zsm F y + zFc ex nB fl fh tl th r (k + 1) (u ||| 1 <<< y) (zupd I k y) := by rw [zsm, hFx, c10]; rfl
            rw [e9] at ih51
            exact ih51 _ _ hF3 hM2 him3
          · skip
            refine zG_s rfl rfl ?_
            refine zN_get rfl hM2.1 rfl ?_
            refine zN_ifb (x := false) rfl (fun c13 => ?_) (fun c => absurd c (by decide))
            refine zN_inc5 rfl rfl ?_
            refine zG_s rfl rfl ?_
            -- leaf 4
            have e9 : zsm F (y + 1) = zsm F y + zFc ex nB fl fh tl th r (k + 1) (u ||| 1 <<< y) (zupd I k y) := by rw [zsm, hFx, c10]; rfl
            rw [e9] at ih51
            exact ih51 _ _ hF3 hM2 him3
    exact main51 0 (by omega) h im zFr.rf hM (fun _ _ => rfl)
  · skip
    refine zG_s rfl rfl ?_
    refine zN_get rfl hM.1 rfl ?_
    refine zN_ifnb (x := false) rfl (fun c => absurd c (by decide)) (fun c16 => ?_)
    refine zG_s rfl rfl ?_
    refine zG_cS1 rfl rfl (ct_bitCount (by omega)) ?_
    -- leaf 5
    rw [if_pos (show r = 0 by omega)]
    exact zG_ret rfl rfl ⟨rfl, zFr.rf, im, hM, fun _ _ => rfl⟩
theorem ct_fillC {d : Nat} {o nA nB : Nat} {ex : Bool} {fl fh tl th : Nat → Nat} (ho2 : 2 ≤ o) (hOa : zOk nA fl fh) (hOb : zOk nB tl th) : ∀ (r : Nat) (h : zH) (k u : Nat) (I : Nat → Nat) (im : Nat → Int32), k + r = nA → zM0 h o nA nB ex false fl fh tl th im → u < 256 → (∀ j, j < k → im j = nI (I j) ∧ I j < nB) → zCallP (d + r + 3) 44 [.ref o, .int (nI k), .int (nI u)] h (zRV (.int (nI (zFc ex nB fl fh tl th r k u I))) (fun h1 => zFr (zmS o) h h1 ∧ ∃ im1 : Nat → Int32, zM0 h1 o nA nB ex false fl fh tl th im1 ∧ ∀ j, j < k → im1 j = im j))
  | 0, h, k, u, I, im, hk, hM, hu, hI => ct_fillC0 hM hOa.1 (by omega)
  | r + 1, h, k, u, I, im, hk, hM, hu, hI => by
    rw [show d + (r + 1) + 3 = d + r + 4 by omega]
    exact ct_fillCs ho2 hOa hOb (fun h k u I im hk hM hu hI => ct_fillC ho2 hOa hOb r h k u I im hk hM hu hI) hk hM hu hI

theorem ct_fillF0 {d : Nat} {h : zH} {o nA nB : Nat} {ex : Bool} {fl fh tl th : Nat → Nat} {k u : Nat} {im : Nat → Int32} {I : Nat → Nat} (hM : zM0 h o nA nB ex true fl fh tl th im) (hn : nA ≤ 8) (hk : k = nA) (hI : ∀ j, j < k → im j = nI (I j)) : zCallP (d + 3) 44 [.ref o, .int (nI k), .int (nI u)] h (zRV (.int (nI (b2n (zFf ex nB fl fh tl th 0 k u I).isSome))) (fun h1 => zFr (zmS o) h h1 ∧ ∃ im1 : Nat → Int32, zM0 h1 o nA nB ex true fl fh tl th im1 ∧ (∀ j, j < k → im1 j = im j) ∧ ∀ J, zFf ex nB fl fh tl th 0 k u I = some J → ∀ j, j < nA → im1 j = nI (J j))) := by
  refine zG_mP (t := tX4_fill) (ls0 := [.ref o, .int (nI k), .int (nI u), .null, .null, .null]) rfl rfl (zdnR (zdnI (zdnI zdn0))) rfl ?_
  refine zG_s rfl rfl ?_
  refine zG_s rfl rfl ?_
  refine zN_get rfl hM.1 rfl ?_
  refine zN_get rfl hM.2.2.1.1 rfl ?_
  refine zN_ilt rfl (by omega) (by omega) (fun c => absurd c (by omega)) (fun c2 => ?_)
  refine zG_s rfl rfl ?_
  -- leaf 1
  refine zG_ret rfl rfl ⟨rfl, zFr.rf, im, hM, fun _ _ => rfl, fun J e j hj => ?_⟩
  cases e
  exact hI j (by omega)
theorem ct_fillFs {d : Nat} {h : zH} {o nA nB : Nat} {ex : Bool} {fl fh tl th : Nat → Nat} {r : Nat} (ho2 : 2 ≤ o) (hOa : zOk nA fl fh) (hOb : zOk nB tl th)
    (IH : ∀ (h : zH) (k u : Nat) (I : Nat → Nat) (im : Nat → Int32), k + r = nA → zM0 h o nA nB ex true fl fh tl th im → u < 256 → (∀ j, j < k → im j = nI (I j) ∧ I j < nB) → zCallP (d + 3) 44 [.ref o, .int (nI k), .int (nI u)] h (zRV (.int (nI (b2n (zFf ex nB fl fh tl th r k u I).isSome))) (fun h1 => zFr (zmS o) h h1 ∧ ∃ im1 : Nat → Int32, zM0 h1 o nA nB ex true fl fh tl th im1 ∧ (∀ j, j < k → im1 j = im j) ∧ ∀ J, zFf ex nB fl fh tl th r k u I = some J → ∀ j, j < nA → im1 j = nI (J j))))
    {k u : Nat} {I : Nat → Nat} {im : Nat → Int32} (hk : k + (r + 1) = nA) (hM : zM0 h o nA nB ex true fl fh tl th im) (hu : u < 256) (hI : ∀ j, j < k → im j = nI (I j) ∧ I j < nB) : zCallP (d + 4) 44 [.ref o, .int (nI k), .int (nI u)] h (zRV (.int (nI (b2n (zFf ex nB fl fh tl th (r + 1) k u I).isSome))) (fun h1 => zFr (zmS o) h h1 ∧ ∃ im1 : Nat → Int32, zM0 h1 o nA nB ex true fl fh tl th im1 ∧ (∀ j, j < k → im1 j = im j) ∧ ∀ J, zFf ex nB fl fh tl th (r + 1) k u I = some J → ∀ j, j < nA → im1 j = nI (J j))) := by
  have hn := hOa.1
  have hn2 := hOb.1
  have b0 := zpow_le hn2
  have bc := zCho_le ex nB fl fh tl th I k u k
  rw [zFf]
  generalize hC : zCho ex nB fl fh tl th I k u k = C at *
  generalize hF : (fun y => if C.testBit y then zFf ex nB fl fh tl th r (k + 1) (u ||| 1 <<< y) (zupd I k y) else none) = F
  have hFx : ∀ y, F y = if C.testBit y then zFf ex nB fl fh tl th r (k + 1) (u ||| 1 <<< y) (zupd I k y) else none := fun y => by rw [← hF]
  generalize hQ : zRV (.int (nI (b2n (zfo F nB).isSome))) (fun h1 => zFr (zmS o) h h1 ∧ ∃ im1 : Nat → Int32, zM0 h1 o nA nB ex true fl fh tl th im1 ∧ (∀ j, j < k → im1 j = im j) ∧ ∀ J, zfo F nB = some J → ∀ j, j < nA → im1 j = nI (J j)) = Q
  refine zG_mP (t := tX4_fill) (ls0 := [.ref o, .int (nI k), .int (nI u), .null, .null, .null]) rfl rfl (zdnR (zdnI (zdnI zdn0))) rfl ?_
  refine zG_s rfl rfl ?_
  refine zG_s rfl rfl ?_
  refine zN_get rfl hM.1 rfl ?_
  refine zN_get rfl hM.2.2.1.1 rfl ?_
  refine zN_ilt rfl (by omega) (by omega) (fun c1 => ?_) (fun c => absurd c (by omega))
  refine zG_s rfl rfl ?_
  refine zG_s rfl rfl ?_
  refine zG_s rfl rfl ?_
  refine zG_cV1 rfl rfl hM.1 rfl rfl (ct_choices hM hOa hOb (by omega) hu hI) ?_
  rw [hC]
  refine zN_st3 rfl (fun _ _ _ => rfl) rfl ?_
  refine zG_s rfl rfl ?_
  refine zG_s rfl rfl ?_
  refine zN_get rfl hM.1 rfl ?_
  refine zN_get rfl hM.2.2.1.1 rfl ?_
  refine zG_s rfl rfl ?_
  refine zN_sub (y := 1) rfl (by omega) ?_
  have jn45 : ∀ (q : Unit), zGoP (d + 3) tX4_fill 45 [.ref o, .int (nI k), .int (nI u), .int (nI C), .null, .null] [] h Q := by
    intro q
    refine zG_s rfl rfl ?_
    refine zN_st4 rfl (fun _ _ _ => rfl) rfl ?_
    refine zG_s rfl rfl ?_
    refine zN_st5 rfl (fun _ _ _ => rfl) rfl ?_
    have main51 : ∀ y, y ≤ nB → ∀ (h1 : zH) (im1 : Nat → Int32), zfo F y = none → zFr (zmS o) h h1 → zM0 h1 o nA nB ex true fl fh tl th im1 → (∀ j, j < k → im1 j = im j) → zGoP (d + 3) tX4_fill 51 [.ref o, .int (nI k), .int (nI u), .int (nI C), .int (nI 0), .int (nI y)] [] h1 Q := by
      refine zdown (nB) ?_ (fun y hp51 ih51 => ?_)
      · skip
        intro h1 im1 hno hF1 hM1 him1
        refine zG_s rfl rfl ?_
        refine zG_s rfl rfl ?_
        refine zN_get rfl hM1.1 rfl ?_
        refine zN_get rfl hM1.2.2.2.1 rfl ?_
        refine zN_ige rfl (by omega) (by omega) (fun c3 => ?_) (fun c4 => absurd c4 (by omega))
        refine zG_s rfl rfl ?_
        -- leaf 1
        rw [← hQ]
        exact zG_ret rfl rfl ⟨by rw [hno]; rfl, hF1, im1, hM1, him1, fun J e => by rw [hno] at e; cases e⟩
      · skip
        intro h1 im1 hno hF1 hM1 him1
        refine zG_s rfl rfl ?_
        refine zG_s rfl rfl ?_
        refine zN_get rfl hM1.1 rfl ?_
        refine zN_get rfl hM1.2.2.2.1 rfl ?_
        refine zN_ige rfl (by omega) (by omega) (fun c5 => absurd c5 (by omega)) (fun c6 => ?_)
        refine zG_s rfl rfl ?_
        refine zG_s rfl rfl ?_
        refine zG_cS1 rfl rfl (ct_has _ (by omega) (by omega)) ?_
        first | refine zN_ifb rfl (fun c7 => ?_) (fun c8 => ?_) | refine zN_eq0 rfl (by omega) (fun c7 => ?_) (fun c8 => ?_)
        · skip
          refine zN_inc5 rfl rfl ?_
          refine zG_s rfl rfl ?_
          -- leaf 2
          have e7 : F y = none := by rw [hFx, c7]; rfl
          exact ih51 h1 im1 (by rw [zfo, hno]; exact e7) hF1 hM1 him1
        · skip
          refine zG_s rfl rfl ?_
          refine zN_get rfl hM1.1 rfl ?_
          refine zG_s rfl rfl ?_
          refine zG_s rfl rfl ?_
          refine zN_ast rfl hM1.2.1 (by omega) (by omega) (zble_of ho2) ?_
          refine zG_s rfl rfl ?_
          refine zG_s rfl rfl ?_
          refine zG_s rfl rfl ?_
          refine zG_s rfl rfl ?_
          refine zN_add (y := 1) rfl ?_
          refine zG_s rfl rfl ?_
          refine zG_s rfl rfl ?_
          refine zG_s rfl rfl ?_
          refine zN_shl rfl (by omega) ?_
          refine zN_or rfl ?_
          refine zG_cqV rfl rfl (IH _ (k + 1) (u ||| 1 <<< y) (zupd I k y) _ (by omega) hM1.p_im (zor_lt8 hu (zsh1_lt (by omega))) (fun j hj => ?_)) (fun h2 hP2 => ?_)
          · by_cases e : j = k
            · subst e; exact ⟨by rw [upd_at, zupd_at], by rw [zupd_at]; omega⟩
            · rw [upd_ne _ _ e, zupd_ne _ _ e, him1 j (by omega)]
              exact hI j (by omega)
          obtain ⟨hF2, im2, hM2, him2, hJ2⟩ := hP2
          have hF3 := (hF1.set (zmS_in (k := 7) (by omega))).tr hF2
          have him3 : ∀ j, j < k → im2 j = im j := fun j hj => by rw [him2 j (by omega), upd_ne _ _ (by omega), him1 j hj]
          have e7 : F y = zFf ex nB fl fh tl th r (k + 1) (u ||| 1 <<< y) (zupd I k y) := by rw [hFx, c8]; rfl
          have e9 : zfo F (y + 1) = F y := by rw [zfo, hno]
          rw [← e7] at hJ2 ⊢
          refine zN_add (x := 0) rfl ?_
          rw [Nat.zero_add]
          refine zN_st4 rfl (fun _ _ _ => rfl) rfl ?_
          refine zG_s rfl rfl ?_
          refine zN_if rfl (fun c9 => ?_) (fun c10 => ?_)
          · skip
            refine zN_inc5 rfl rfl ?_
            refine zG_s rfl rfl ?_
            -- leaf 3
            have e8 : F y = none := by
              cases q : F y with
              | none => rfl
              | some v => rw [q] at c9; exact absurd (show zc1 .le (nI 1) = true from c9) (by decide)
            rw [e8]
            exact ih51 _ _ (by rw [e9, e8]) hF3 hM2 him3
          · skip
            refine zG_s rfl rfl ?_
            refine zN_get rfl hM2.1 rfl ?_
            refine zN_ifb (x := true) rfl (fun c => absurd c (by decide)) (fun c12 => ?_)
            refine zG_s rfl rfl ?_
            -- leaf 4
            cases q : F y with
            | none => rw [q] at c10; exact absurd c10 (by decide)
            | some v =>
              have e10 : zfo F nB = some v := by
                have := zfo_more (f := F) (m := y + 1) (e9.trans q) (nB - (y + 1))
                rwa [show y + 1 + (nB - (y + 1)) = nB by omega] at this
              rw [← hQ]
              exact zG_ret rfl rfl ⟨by rw [e10], hF3, im2, hM2, him3, fun J e j hj => hJ2 J (by rw [q]; rw [e10] at e; exact e) j hj⟩
    exact main51 0 (by omega) h im rfl zFr.rf hM (fun _ _ => rfl)
  refine zN_ine rfl (by omega) (by omega) (fun c13 => ?_) (fun c14 => ?_)
  · skip
    -- leaf 5
    exact jn45 ()
  · skip
    refine zG_s rfl rfl ?_
    refine zN_get rfl hM.1 rfl ?_
    refine zN_ifnb (x := true) rfl (fun c15 => ?_) (fun c => absurd c (by decide))
    -- leaf 6
    exact jn45 ()
theorem ct_fillF {d : Nat} {o nA nB : Nat} {ex : Bool} {fl fh tl th : Nat → Nat} (ho2 : 2 ≤ o) (hOa : zOk nA fl fh) (hOb : zOk nB tl th) : ∀ (r : Nat) (h : zH) (k u : Nat) (I : Nat → Nat) (im : Nat → Int32), k + r = nA → zM0 h o nA nB ex true fl fh tl th im → u < 256 → (∀ j, j < k → im j = nI (I j) ∧ I j < nB) → zCallP (d + r + 3) 44 [.ref o, .int (nI k), .int (nI u)] h (zRV (.int (nI (b2n (zFf ex nB fl fh tl th r k u I).isSome))) (fun h1 => zFr (zmS o) h h1 ∧ ∃ im1 : Nat → Int32, zM0 h1 o nA nB ex true fl fh tl th im1 ∧ (∀ j, j < k → im1 j = im j) ∧ ∀ J, zFf ex nB fl fh tl th r k u I = some J → ∀ j, j < nA → im1 j = nI (J j)))
  | 0, h, k, u, I, im, hk, hM, hu, hI => ct_fillF0 hM hOa.1 (by omega) (fun j hj => (hI j hj).1)
  | r + 1, h, k, u, I, im, hk, hM, hu, hI => by
    rw [show d + (r + 1) + 3 = d + r + 4 by omega]
    exact ct_fillFs ho2 hOa hOb (fun h k u I im hk hM hu hI => ct_fillF ho2 hOa hOb r h k u I im hk hM hu hI) hk hM hu hI

