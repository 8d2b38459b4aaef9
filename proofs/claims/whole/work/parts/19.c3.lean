def zFst (n : Nat) (lo hi : Nat → Nat) : Nat := zbits (fun x => decide (lo x &&& hi x &&& (1 <<< x - 1) = 0)) n
theorem ct_firsts {d : Nat} {h : zH} {o n : Nat} {lo hi : Nat → Nat} (hS : zSp h o n lo hi ∧ zOk n lo hi) : zCall (d + 1) 80 [.ref o] h (some (.int (nI (zFst n lo hi))), h) := by
  obtain ⟨⟨ho, fl, fh, hl, hh, hx⟩, hn, hb⟩ := hS
  unfold zFst
  generalize hC : (fun x => decide (lo x &&& hi x &&& (1 <<< x - 1) = 0)) = C
  have hCx : ∀ x, C x = decide (lo x &&& hi x &&& (1 <<< x - 1) = 0) := fun x => by rw [← hC]
  refine zG_m (t := tX7_firsts) (ls0 := [.ref o, .null, .null, .null]) rfl rfl (zdnR zdn0) rfl ?_
  refine zG_s rfl rfl ?_
  refine zN_st1 rfl (fun _ _ _ => rfl) rfl ?_
  refine zG_s rfl rfl ?_
  refine zN_st2 rfl (fun _ _ _ => rfl) rfl ?_
  have main4 : ∀ p, p ≤ n → ∀ z : Value, zGo (d) tX7_firsts 4 [.ref o, .int (nI (zbits C p)), .int (nI p), z] [] h (some (.int (nI (zbits C n))), h) := by
    refine zdown (n) ?_ (fun p hp4 ih4 => ?_)
    · skip
      intro z
      refine zG_s rfl rfl ?_
      refine zG_s rfl rfl ?_
      refine zN_get rfl (by first | exact zeh_o | assumption) rfl ?_
      refine zN_ige rfl (by omega) (by omega) (fun c1 => ?_) (fun c2 => absurd c2 (by omega))
      refine zG_s rfl rfl ?_
      -- leaf 1
      exact zG_ret rfl rfl rfl
    · skip
      intro z
      have b1 := (hb p hp4).1
      have b2 : 1 ≤ 1 <<< p := by rw [Nat.one_shiftLeft]; exact Nat.one_le_two_pow
      have b3 := zand_lt (1 <<< p - 1) (zand_lt (hi p) b1)
      refine zG_s rfl rfl ?_
      refine zG_s rfl rfl ?_
      refine zN_get rfl (by first | exact zeh_o | assumption) rfl ?_
      refine zN_ige rfl (by omega) (by omega) (fun c3 => absurd c3 (by omega)) (fun c4 => ?_)
      refine zG_s rfl rfl ?_
      refine zG_s rfl rfl ?_
      refine zN_shl rfl (by omega) ?_
      refine zG_s rfl rfl ?_
      refine zN_sub rfl (by omega) ?_
      refine zN_st3 rfl (fun _ _ _ => rfl) rfl ?_
      refine zG_s rfl rfl ?_
      refine zN_get rfl (by first | exact zeh_o | assumption) rfl ?_
      refine zG_s rfl rfl ?_
      refine zN_ald rfl (by assumption) (by omega) (by omega) (hx p hp4).1 ?_
      refine zG_s rfl rfl ?_
      refine zN_get rfl (by first | exact zeh_o | assumption) rfl ?_
      refine zG_s rfl rfl ?_
      refine zN_ald rfl (by assumption) (by omega) (by omega) (hx p hp4).2 ?_
      refine zN_and rfl ?_
      refine zG_s rfl rfl ?_
      refine zN_and rfl ?_
      first | refine zN_ifnb rfl (fun c5 => ?_) (fun c6 => ?_) | refine zN_ne0 rfl (by omega) (fun c5 => ?_) (fun c6 => ?_)
      · skip
        refine zN_inc2 rfl rfl ?_
        refine zG_s rfl rfl ?_
        -- leaf 2
        rw [zbits_no (by rw [hCx]; exact decide_eq_false (by omega))] at ih4
        exact ih4 _
      · skip
        refine zG_s rfl rfl ?_
        refine zG_s rfl rfl ?_
        refine zG_s rfl rfl ?_
        refine zN_shl rfl (by omega) ?_
        refine zN_or rfl ?_
        refine zN_st1 rfl (fun _ _ _ => rfl) rfl ?_
        refine zN_inc2 rfl rfl ?_
        refine zG_s rfl rfl ?_
        -- leaf 3
        rw [zbits_yes (by rw [hCx]; exact decide_eq_true c6)] at ih4
        exact ih4 _
  exact main4 0 (by omega) _
theorem ct_isPlain {d : Nat} {h : zH} {o n : Nat} {lo hi : Nat → Nat} (hS : zSp h o n lo hi ∧ zOk n lo hi) : zCall (d + 2) 81 [.ref o] h (some (.int (nI (b2n (decide (zFst n lo hi = 1 <<< n - 1))))), h) := by
  have ho := hS.1.1
  have hn := hS.2.1
  have b1 := zpow_le hn
  have b2 : zFst n lo hi < 256 := zbits_lt8 _ hn
  refine zG_m (t := tX7_isPlain) (ls0 := [.ref o]) rfl rfl (zdnR zdn0) rfl ?_
  refine zG_s rfl rfl ?_
  refine zG_cV1 rfl rfl (by assumption) rfl rfl (ct_firsts hS) ?_
  refine zG_s rfl rfl ?_
  refine zG_cV1 rfl rfl (by assumption) rfl rfl (ct_all ho (by omega)) ?_
  refine zN_ine rfl (by omega) (by omega) (fun c1 => ?_) (fun c2 => ?_)
  · skip
    refine zG_s rfl rfl ?_
    -- leaf 1
    rw [decide_eq_false c1]
    exact zG_ret rfl rfl rfl
  · skip
    refine zG_s rfl rfl ?_
    refine zG_s rfl rfl ?_
    -- leaf 2
    rw [decide_eq_true c2]
    exact zG_ret rfl rfl rfl
def zIns (n : Nat) (lo : Nat → Nat) (s : Nat) : Nat := zbits (fun x => s.testBit x && decide (zan (lo x) s = 0)) n
theorem ct_openSets {d : Nat} {h : zH} {o n : Nat} {lo hi : Nat → Nat} (hS : zSp h o n lo hi ∧ zOk n lo hi) : zCall (d + 3) 79 [.ref o] h (some (.int (nI (zct (fun s => decide (zIns n lo s = s)) (1 <<< n)))), h) := by
  have ho := hS.1.1
  have hn := hS.2.1
  have b1 := zpow_le hn
  generalize hC : (fun s => decide (zIns n lo s = s)) = C
  have hCx : ∀ x, C x = decide (zIns n lo x = x) := fun x => by rw [← hC]
  refine zG_m (t := tX7_openSets) (ls0 := [.ref o, .null, .null]) rfl rfl (zdnR zdn0) rfl ?_
  refine zG_s rfl rfl ?_
  refine zN_st1 rfl (fun _ _ _ => rfl) rfl ?_
  refine zG_s rfl rfl ?_
  refine zN_st2 rfl (fun _ _ _ => rfl) rfl ?_
  have main4 : ∀ p, p ≤ 1 <<< n → zGo (d + 2) tX7_openSets 4 [.ref o, .int (nI (zct C p)), .int (nI p)] [] h (some (.int (nI (zct C (1 <<< n)))), h) := by
    refine zdown (1 <<< n) ?_ (fun p hp4 ih4 => ?_)
    · skip
      refine zG_s rfl rfl ?_
      refine zG_s rfl rfl ?_
      refine zG_cV1 rfl rfl (by assumption) rfl rfl (ct_all ho (by omega)) ?_
      refine zN_igt rfl (by omega) (by omega) (fun c1 => ?_) (fun c2 => absurd c2 (by omega))
      refine zG_s rfl rfl ?_
      -- leaf 1
      exact zG_ret rfl rfl rfl
    · skip
      have b2 : zbits (fun x => p.testBit x && decide (zan (lo x) p = 0)) n < 256 := zbits_lt8 _ hn
      have b3 := zct_le C p
      refine zG_s rfl rfl ?_
      refine zG_s rfl rfl ?_
      refine zG_cV1 rfl rfl (by assumption) rfl rfl (ct_all ho (by omega)) ?_
      refine zN_igt rfl (by omega) (by omega) (fun c3 => absurd c3 (by omega)) (fun c4 => ?_)
      refine zG_s rfl rfl ?_
      refine zG_s rfl rfl ?_
      refine zG_s rfl rfl ?_
      refine zG_cV1 rfl rfl (by assumption) rfl rfl (ct_inside hS.1 hS.2.1 (by omega) (fun x hx => (hS.2.2 x hx).1)) ?_
      refine zG_s rfl rfl ?_
      refine zN_ine rfl (by omega) (by omega) (fun c5 => ?_) (fun c6 => ?_)
      · skip
        refine zG_s rfl rfl ?_
        refine zN_add rfl ?_
        refine zN_st1 rfl (fun _ _ _ => rfl) rfl ?_
        refine zN_inc2 rfl rfl ?_
        refine zG_s rfl rfl ?_
        -- leaf 2
        rw [zct_no (by rw [hCx]; exact decide_eq_false c5)] at ih4
        exact ih4
      · skip
        refine zG_s rfl rfl ?_
        refine zG_s rfl rfl ?_
        refine zN_add rfl ?_
        refine zN_st1 rfl (fun _ _ _ => rfl) rfl ?_
        refine zN_inc2 rfl rfl ?_
        refine zG_s rfl rfl ?_
        -- leaf 3
        rw [zct_yes (by rw [hCx]; exact decide_eq_true c6)] at ih4
        exact ih4
  exact main4 0 (by omega)
theorem ct_strictPairs {d : Nat} {h : zH} {o n : Nat} {lo hi : Nat → Nat} (hS : zSp h o n lo hi ∧ zOk n lo hi) : zCall (d + 2) 68 [.ref o] h (some (.int (nI (zsm (fun x => zcnt (zan (lo x) (hi x))) n))), h) := by
  have ho := hS.1.1
  have hn := hS.2.1
  refine zG_m (t := tX7_strictPairs) (ls0 := [.ref o, .null, .null]) rfl rfl (zdnR zdn0) rfl ?_
  refine zG_s rfl rfl ?_
  refine zN_st1 rfl (fun _ _ _ => rfl) rfl ?_
  refine zG_s rfl rfl ?_
  refine zN_st2 rfl (fun _ _ _ => rfl) rfl ?_
  have main4 : ∀ p, p ≤ n → zGo (d + 1) tX7_strictPairs 4 [.ref o, .int (nI (zsm (fun x => zcnt (zan (lo x) (hi x))) p)), .int (nI p)] [] h (some (.int (nI (zsm (fun x => zcnt (zan (lo x) (hi x))) n))), h) := by
    refine zdown (n) ?_ (fun p hp4 ih4 => ?_)
    · skip
      refine zG_s rfl rfl ?_
      refine zG_s rfl rfl ?_
      refine zN_get rfl (by first | exact zeh_o | assumption) rfl ?_
      refine zN_ige rfl (by omega) (by omega) (fun c1 => ?_) (fun c2 => absurd c2 (by omega))
      refine zG_s rfl rfl ?_
      -- leaf 1
      exact zG_ret rfl rfl rfl
    · skip
      have b1 := zan_lt (hi p) (hS.2.2 p hp4).1
      refine zG_s rfl rfl ?_
      refine zG_s rfl rfl ?_
      refine zN_get rfl (by first | exact zeh_o | assumption) rfl ?_
      refine zN_ige rfl (by omega) (by omega) (fun c3 => absurd c3 (by omega)) (fun c4 => ?_)
      refine zG_s rfl rfl ?_
      refine zG_s rfl rfl ?_
      refine zG_s rfl rfl ?_
      refine zG_cV1 rfl rfl (by assumption) rfl rfl (ct_below hS (by omega)) ?_
      refine zG_cS1 rfl rfl (ct_bitCount (by omega)) ?_
      refine zN_add rfl ?_
      refine zN_st1 rfl (fun _ _ _ => rfl) rfl ?_
      refine zN_inc2 rfl rfl ?_
      refine zG_s rfl rfl ?_
      -- leaf 2
      exact ih4
  exact main4 0 (by omega)
theorem ct_covers {d : Nat} {h : zH} {o n : Nat} {lo hi : Nat → Nat} (hS : zSp h o n lo hi ∧ zOk n lo hi) : zCall (d + 2) 69 [.ref o] h (some (.int (nI (zsm (fun x => zct (fun y => (zan (lo x) (hi x)).testBit y && decide (zan (lo x) (hi x) &&& zan (hi y) (lo y) = 0)) n) n))), h) := by
  have ho := hS.1.1
  have hn := hS.2.1
  generalize hC : (fun x y => (zan (lo x) (hi x)).testBit y && decide (zan (lo x) (hi x) &&& zan (hi y) (lo y) = 0)) = C
  have hCx : ∀ x y, C x y = ((zan (lo x) (hi x)).testBit y && decide (zan (lo x) (hi x) &&& zan (hi y) (lo y) = 0)) := fun x y => by rw [← hC]
  have hR : (fun x => zct (fun y => (zan (lo x) (hi x)).testBit y && decide (zan (lo x) (hi x) &&& zan (hi y) (lo y) = 0)) n) = fun x => zct (C x) n := by rw [← hC]
  rw [hR]
  refine zG_m (t := tX7_covers) (ls0 := [.ref o, .null, .null, .null]) rfl rfl (zdnR zdn0) rfl ?_
  refine zG_s rfl rfl ?_
  refine zN_st1 rfl (fun _ _ _ => rfl) rfl ?_
  refine zG_s rfl rfl ?_
  refine zN_st2 rfl (fun _ _ _ => rfl) rfl ?_
  have main4 : ∀ p, p ≤ n → ∀ z : Value, zGo (d + 1) tX7_covers 4 [.ref o, .int (nI (zsm (fun x => zct (C x) n) p)), .int (nI p), z] [] h (some (.int (nI (zsm (fun x => zct (C x) n) n))), h) := by
    refine zdown (n) ?_ (fun p hp4 ih4 => ?_)
    · skip
      intro z
      refine zG_s rfl rfl ?_
      refine zG_s rfl rfl ?_
      refine zN_get rfl (by first | exact zeh_o | assumption) rfl ?_
      refine zN_ige rfl (by omega) (by omega) (fun c1 => ?_) (fun c2 => absurd c2 (by omega))
      refine zG_s rfl rfl ?_
      -- leaf 1
      exact zG_ret rfl rfl rfl
    · skip
      intro z
      have b1 := zan_lt (hi p) (hS.2.2 p hp4).1
      refine zG_s rfl rfl ?_
      refine zG_s rfl rfl ?_
      refine zN_get rfl (by first | exact zeh_o | assumption) rfl ?_
      refine zN_ige rfl (by omega) (by omega) (fun c3 => absurd c3 (by omega)) (fun c4 => ?_)
      refine zG_s rfl rfl ?_
      refine zN_st3 rfl (fun _ _ _ => rfl) rfl ?_
      have main14 : ∀ q, q ≤ n → zGo (d + 1) tX7_covers 14 [.ref o, .int (nI (zsm (fun x => zct (C x) n) p + zct (C p) q)), .int (nI p), .int (nI q)] [] h (some (.int (nI (zsm (fun x => zct (C x) n) n))), h) := by
        refine zdown (n) ?_ (fun q hp14 ih14 => ?_)
        · skip
          refine zG_s rfl rfl ?_
          refine zG_s rfl rfl ?_
          refine zN_get rfl (by first | exact zeh_o | assumption) rfl ?_
          refine zN_ige rfl (by omega) (by omega) (fun c5 => ?_) (fun c6 => absurd c6 (by omega))
          refine zN_inc2 rfl rfl ?_
          refine zG_s rfl rfl ?_
          -- leaf 2
          exact ih4 _
        · skip
          have b2 := zand_lt (zan (hi q) (lo q)) b1
          refine zG_s rfl rfl ?_
          refine zG_s rfl rfl ?_
          refine zN_get rfl (by first | exact zeh_o | assumption) rfl ?_
          refine zN_ige rfl (by omega) (by omega) (fun c7 => absurd c7 (by omega)) (fun c8 => ?_)
          refine zG_s rfl rfl ?_
          refine zG_s rfl rfl ?_
          refine zG_cV1 rfl rfl (by assumption) rfl rfl (ct_below hS (by omega)) ?_
          refine zG_s rfl rfl ?_
          refine zG_cS1 rfl rfl (ct_has _ (by omega) (by omega)) ?_
          first | refine zN_ifb rfl (fun c9 => ?_) (fun c10 => ?_) | refine zN_eq0 rfl (by omega) (fun c9 => ?_) (fun c10 => ?_)
          · skip
            refine zN_inc3 rfl rfl ?_
            refine zG_s rfl rfl ?_
            -- leaf 3
            rw [zct_no (by rw [hCx, c9]; rfl)] at ih14
            exact ih14
          · skip
            refine zG_s rfl rfl ?_
            refine zG_s rfl rfl ?_
            refine zG_cV1 rfl rfl (by assumption) rfl rfl (ct_below hS (by omega)) ?_
            refine zG_s rfl rfl ?_
            refine zG_s rfl rfl ?_
            refine zG_cV1 rfl rfl (by assumption) rfl rfl (ct_above hS (by omega)) ?_
            refine zN_and rfl ?_
            first | refine zN_ifnb rfl (fun c11 => ?_) (fun c12 => ?_) | refine zN_ne0 rfl (by omega) (fun c11 => ?_) (fun c12 => ?_)
            · skip
              refine zN_inc3 rfl rfl ?_
              refine zG_s rfl rfl ?_
              -- leaf 4
              rw [zct_no (by rw [hCx, c10]; exact decide_eq_false (by omega))] at ih14
              exact ih14
            · skip
              refine zN_inc1 rfl rfl ?_
              refine zN_inc3 rfl rfl ?_
              refine zG_s rfl rfl ?_
              -- leaf 5
              rw [zct_yes (by rw [hCx, c10]; exact decide_eq_true c12)] at ih14
              exact ih14
      exact main14 0 (by omega)
  exact main4 0 (by omega) _
theorem ct_lowest {d : Nat} {h : zH} {o n s : Nat} {lo hi : Nat → Nat} (hS : zSp h o n lo hi ∧ zOk n lo hi) (hs : s < 256) : zCall (d + 2) 70 [.ref o, .int (nI s)] h (some (.int (nI (zLow n lo hi s))), h) := by
  have ho := hS.1.1
  have hn := hS.2.1
  unfold zLow
  generalize hC : (fun x => s.testBit x && decide (zan (lo x) (hi x) &&& s = 0)) = C
  have hCx : ∀ x, C x = (s.testBit x && decide (zan (lo x) (hi x) &&& s = 0)) := fun x => by rw [← hC]
  refine zG_m (t := tX7_lowest) (ls0 := [.ref o, .int (nI s), .null, .null]) rfl rfl (zdnR (zdnI zdn0)) rfl ?_
  refine zG_s rfl rfl ?_
  refine zN_st2 rfl (fun _ _ _ => rfl) rfl ?_
  refine zG_s rfl rfl ?_
  refine zN_st3 rfl (fun _ _ _ => rfl) rfl ?_
  have main4 : ∀ p, p ≤ n → zGo (d + 1) tX7_lowest 4 [.ref o, .int (nI s), .int (nI (zbits C p)), .int (nI p)] [] h (some (.int (nI (zbits C n))), h) := by
    refine zdown (n) ?_ (fun p hp4 ih4 => ?_)
    · skip
      refine zG_s rfl rfl ?_
      refine zG_s rfl rfl ?_
      refine zN_get rfl (by first | exact zeh_o | assumption) rfl ?_
      refine zN_ige rfl (by omega) (by omega) (fun c1 => ?_) (fun c2 => absurd c2 (by omega))
      refine zG_s rfl rfl ?_
      -- leaf 1
      exact zG_ret rfl rfl rfl
    · skip
      have b1 := zand_lt s (zan_lt (hi p) (hS.2.2 p hp4).1)
      refine zG_s rfl rfl ?_
      refine zG_s rfl rfl ?_
      refine zN_get rfl (by first | exact zeh_o | assumption) rfl ?_
      refine zN_ige rfl (by omega) (by omega) (fun c3 => absurd c3 (by omega)) (fun c4 => ?_)
      refine zG_s rfl rfl ?_
      refine zG_s rfl rfl ?_
      refine zG_cS1 rfl rfl (ct_has _ (by omega) (by omega)) ?_
      first | refine zN_ifb rfl (fun c5 => ?_) (fun c6 => ?_) | refine zN_eq0 rfl (by omega) (fun c5 => ?_) (fun c6 => ?_)
      · skip
        refine zN_inc3 rfl rfl ?_
        refine zG_s rfl rfl ?_
        -- leaf 2
        rw [zbits_no (by rw [hCx, c5]; rfl)] at ih4
        exact ih4
      · skip
        refine zG_s rfl rfl ?_
        refine zG_s rfl rfl ?_
        refine zG_cV1 rfl rfl (by assumption) rfl rfl (ct_below hS (by omega)) ?_
        refine zG_s rfl rfl ?_
        refine zN_and rfl ?_
        first | refine zN_ifnb rfl (fun c7 => ?_) (fun c8 => ?_) | refine zN_ne0 rfl (by omega) (fun c7 => ?_) (fun c8 => ?_)
        · skip
          refine zN_inc3 rfl rfl ?_
          refine zG_s rfl rfl ?_
          -- leaf 3
          rw [zbits_no (by rw [hCx, c6]; exact decide_eq_false (by omega))] at ih4
          exact ih4
        · skip
          refine zG_s rfl rfl ?_
          refine zG_s rfl rfl ?_
          refine zG_s rfl rfl ?_
          refine zN_shl rfl (by omega) ?_
          refine zN_or rfl ?_
          refine zN_st2 rfl (fun _ _ _ => rfl) rfl ?_
          refine zN_inc3 rfl rfl ?_
          refine zG_s rfl rfl ?_
          -- leaf 4
          rw [zbits_yes (by rw [hCx, c6]; exact decide_eq_true c8)] at ih4
          exact ih4
  exact main4 0 (by omega)
theorem ct_height {d : Nat} {h : zH} {o n x : Nat} {lo hi : Nat → Nat} (hS : zSp h o n lo hi ∧ zOk n lo hi) (hx : x < n) : zCall (d + 3) 71 [.ref o, .int (nI x)] h (some (.int (nI (zHgt n lo hi x))), h) := by
  have ho := hS.1.1
  have hn := hS.2.1
  refine zG_m (t := tX7_height) (ls0 := [.ref o, .int (nI x), .null, .null, .null, .null]) rfl rfl (zdnR (zdnI zdn0)) rfl ?_
  refine zG_s rfl rfl ?_
  refine zG_cV1 rfl rfl (by assumption) rfl rfl (ct_all ho (by omega)) ?_
  refine zN_st2 rfl (fun _ _ _ => rfl) rfl ?_
  refine zG_s rfl rfl ?_
  refine zN_st3 rfl (fun _ _ _ => rfl) rfl ?_
  refine zG_s rfl rfl ?_
  refine zN_st4 rfl (fun _ _ _ => rfl) rfl ?_
  have main10 : ∀ i, i ≤ 8 → ∀ z : Value, (∀ j, j < i → (zLow n lo hi (zRest n lo hi j)).testBit x = false) → zGo (d + 2) tX7_height 10 [.ref o, .int (nI x), .int (nI (zRest n lo hi i)), .int (nI i), .int (nI i), z] [] h (some (.int (nI (zHgt n lo hi x))), h) := by
    refine zdown (8) ?_ (fun i hp10 ih10 => ?_)
    · skip
      intro z hj
      refine zG_s rfl rfl ?_
      refine zG_s rfl rfl ?_
      refine zN_ige rfl (by omega) (by omega) (fun c1 => ?_) (fun c2 => absurd c2 (by omega))
      refine zG_s rfl rfl ?_
      -- leaf 1
      rw [show zHgt n lo hi x = 8 from zfs_none hj]
      exact zG_ret rfl rfl rfl
    · skip
      intro z hj
      have b1 := zRest_lt hn lo hi i
      have b2 : zLow n lo hi (zRest n lo hi i) < 256 := zbits_lt8 _ hn
      refine zG_s rfl rfl ?_
      refine zG_s rfl rfl ?_
      refine zN_ige rfl (by omega) (by omega) (fun c3 => absurd c3 (by omega)) (fun c4 => ?_)
      refine zG_s rfl rfl ?_
      refine zG_s rfl rfl ?_
      refine zG_cV1 rfl rfl (by assumption) rfl rfl (ct_lowest hS (by omega)) ?_
      refine zN_st5 rfl (fun _ _ _ => rfl) rfl ?_
      refine zG_s rfl rfl ?_
      refine zG_s rfl rfl ?_
      refine zG_cS1 rfl rfl (ct_has _ (by omega) (by omega)) ?_
      first | refine zN_ifb rfl (fun c5 => ?_) (fun c6 => ?_) | refine zN_eq0 rfl (by omega) (fun c5 => ?_) (fun c6 => ?_)
      · skip
        refine zG_s rfl rfl ?_
        refine zG_s rfl rfl ?_
        refine zG_s rfl rfl ?_
        refine zN_not rfl ?_
        refine zN_andn rfl ?_
        refine zN_st2 rfl (fun _ _ _ => rfl) rfl ?_
        refine zN_inc3 rfl rfl ?_
        refine zN_inc4 rfl rfl ?_
        refine zG_s rfl rfl ?_
        -- leaf 2
        exact ih10 _ (fun j hj2 => by
          by_cases e : j = i
          · subst e; exact c5
          · exact hj j (by omega))
      · skip
        refine zG_s rfl rfl ?_
        refine zG_s rfl rfl ?_
        -- leaf 3
        rw [show zHgt n lo hi x = i from zfs_at hp10 c6 hj]
        exact zG_ret rfl rfl rfl
  exact main10 0 (by omega) _ (fun j hj => absurd hj (by omega))
theorem ct_greatestHeight {d : Nat} {h : zH} {o n : Nat} {lo hi : Nat → Nat} (hS : zSp h o n lo hi ∧ zOk n lo hi) : zCall (d + 4) 72 [.ref o] h (some (.int (nI (zmx (zHgt n lo hi) n))), h) := by
  have ho := hS.1.1
  have hn := hS.2.1
  refine zG_m (t := tX7_greatestHeight) (ls0 := [.ref o, .null, .null]) rfl rfl (zdnR zdn0) rfl ?_
  refine zG_s rfl rfl ?_
  refine zN_st1 rfl (fun _ _ _ => rfl) rfl ?_
  refine zG_s rfl rfl ?_
  refine zN_st2 rfl (fun _ _ _ => rfl) rfl ?_
  have main4 : ∀ p, p ≤ n → zGo (d + 3) tX7_greatestHeight 4 [.ref o, .int (nI (zmx (zHgt n lo hi) p)), .int (nI p)] [] h (some (.int (nI (zmx (zHgt n lo hi) n))), h) := by
    refine zdown (n) ?_ (fun p hp4 ih4 => ?_)
    · skip
      refine zG_s rfl rfl ?_
      refine zG_s rfl rfl ?_
      refine zN_get rfl (by first | exact zeh_o | assumption) rfl ?_
      refine zN_ige rfl (by omega) (by omega) (fun c1 => ?_) (fun c2 => absurd c2 (by omega))
      refine zG_s rfl rfl ?_
      -- leaf 1
      exact zG_ret rfl rfl rfl
    · skip
      have b1 : zHgt n lo hi p ≤ 8 := zfs_le _ _
      have b2 : zmx (zHgt n lo hi) p ≤ 8 := zmx_le (fun x _ => zfs_le _ _)
      refine zG_s rfl rfl ?_
      refine zG_s rfl rfl ?_
      refine zN_get rfl (by first | exact zeh_o | assumption) rfl ?_
      refine zN_ige rfl (by omega) (by omega) (fun c3 => absurd c3 (by omega)) (fun c4 => ?_)
      refine zG_s rfl rfl ?_
      refine zG_s rfl rfl ?_
      refine zG_s rfl rfl ?_
      refine zG_cV1 rfl rfl (by assumption) rfl rfl (ct_height hS (by omega)) ?_
      refine zN_max rfl (by omega) (by omega) rfl ?_
      refine zN_st1 rfl (fun _ _ _ => rfl) rfl ?_
      refine zN_inc2 rfl rfl ?_
      refine zG_s rfl rfl ?_
      -- leaf 2
      exact ih4
  exact main4 0 (by omega)
theorem ct_widened {d : Nat} {h : zH} {o n s : Nat} {lo hi : Nat → Nat} (hS : zSp h o n lo hi ∧ zOk n lo hi) (hs : s < 256) : zCall (d + 2) 73 [.ref o, .int (nI s)] h (some (.int (nI (zWid n lo hi s))), h) := by
  obtain ⟨⟨ho, fl, fh, hl, hh, hx⟩, hn, hb⟩ := hS
  unfold zWid
  generalize hC : (fun x => if s.testBit x then lo x ||| hi x else 0) = C
  have hCx : ∀ x, C x = if s.testBit x then lo x ||| hi x else 0 := fun x => by rw [← hC]
  have h0 : s = s ||| zor C 0 := by simp [zor]
  refine zG_m (t := tX7_widened) (ls0 := [.ref o, .int (nI s), .null, .null]) rfl rfl (zdnR (zdnI zdn0)) rfl ?_
  refine zG_s rfl rfl ?_
  refine zN_st2 rfl (fun _ _ _ => rfl) rfl ?_
  refine zG_s rfl rfl ?_
  refine zN_st3 rfl (fun _ _ _ => rfl) rfl ?_
  have main4 : ∀ p, p ≤ n → zGo (d + 1) tX7_widened 4 [.ref o, .int (nI s), .int (nI (s ||| zor C p)), .int (nI p)] [] h (some (.int (nI (s ||| zor C n))), h) := by
    refine zdown (n) ?_ (fun p hp4 ih4 => ?_)
    · skip
      refine zG_s rfl rfl ?_
      refine zG_s rfl rfl ?_
      refine zN_get rfl (by first | exact zeh_o | assumption) rfl ?_
      refine zN_ige rfl (by omega) (by omega) (fun c1 => ?_) (fun c2 => absurd c2 (by omega))
      refine zG_s rfl rfl ?_
      -- leaf 1
      exact zG_ret rfl rfl rfl
    · skip
      refine zG_s rfl rfl ?_
      refine zG_s rfl rfl ?_
      refine zN_get rfl (by first | exact zeh_o | assumption) rfl ?_
      refine zN_ige rfl (by omega) (by omega) (fun c3 => absurd c3 (by omega)) (fun c4 => ?_)
      refine zG_s rfl rfl ?_
      refine zG_s rfl rfl ?_
      refine zG_cS1 rfl rfl (ct_has _ (by omega) (by omega)) ?_
      first | refine zN_ifb rfl (fun c5 => ?_) (fun c6 => ?_) | refine zN_eq0 rfl (by omega) (fun c5 => ?_) (fun c6 => ?_)
      · skip
        refine zN_inc3 rfl rfl ?_
        refine zG_s rfl rfl ?_
        -- leaf 2
        rw [zor, hCx, c5, if_neg (by decide), Nat.or_zero] at ih4
        exact ih4
      · skip
        refine zG_s rfl rfl ?_
        refine zG_s rfl rfl ?_
        refine zN_get rfl (by first | exact zeh_o | assumption) rfl ?_
        refine zG_s rfl rfl ?_
        refine zN_ald rfl (by assumption) (by omega) (by omega) (hx p hp4).1 ?_
        refine zG_s rfl rfl ?_
        refine zN_get rfl (by first | exact zeh_o | assumption) rfl ?_
        refine zG_s rfl rfl ?_
        refine zN_ald rfl (by assumption) (by omega) (by omega) (hx p hp4).2 ?_
        refine zN_or rfl ?_
        refine zN_or rfl ?_
        refine zN_st2 rfl (fun _ _ _ => rfl) rfl ?_
        refine zN_inc3 rfl rfl ?_
        refine zG_s rfl rfl ?_
        -- leaf 3
        rw [zor, hCx, c6, if_pos rfl, ← Nat.or_assoc] at ih4
        exact ih4
  have := main4 0 (by omega)
  rw [← h0] at this
  exact this
theorem ct_component {d : Nat} {h : zH} {o n x : Nat} {lo hi : Nat → Nat} (hS : zSp h o n lo hi ∧ zOk n lo hi) (hx : x < n) : zCall (d + 3) 74 [.ref o, .int (nI x)] h (some (.int (nI (zCmp n lo hi x))), h) := by
  have ho := hS.1.1
  have hn := hS.2.1
  refine zG_m (t := tX7_component) (ls0 := [.ref o, .int (nI x), .null, .null]) rfl rfl (zdnR (zdnI zdn0)) rfl ?_
  refine zG_s rfl rfl ?_
  refine zG_s rfl rfl ?_
  refine zN_shl rfl (by omega) ?_
  refine zN_st2 rfl (fun _ _ _ => rfl) rfl ?_
  refine zG_s rfl rfl ?_
  refine zN_st3 rfl (fun _ _ _ => rfl) rfl ?_
  have main6 : ∀ i, i ≤ 8 → zGo (d + 2) tX7_component 6 [.ref o, .int (nI x), .int (nI (zit (zWid n lo hi) i (1 <<< x))), .int (nI i)] [] h (some (.int (nI (zCmp n lo hi x))), h) := by
    refine zdown (8) ?_ (fun i hp6 ih6 => ?_)
    · skip
      refine zG_s rfl rfl ?_
      refine zG_s rfl rfl ?_
      refine zN_ige rfl (by omega) (by omega) (fun c1 => ?_) (fun c2 => absurd c2 (by omega))
      refine zG_s rfl rfl ?_
      -- leaf 1
      exact zG_ret rfl rfl rfl
    · skip
      have b1 := zit_lt hS.2 (zsh1_lt (show x < 8 by omega)) i
      refine zG_s rfl rfl ?_
      refine zG_s rfl rfl ?_
      refine zN_ige rfl (by omega) (by omega) (fun c3 => absurd c3 (by omega)) (fun c4 => ?_)
      refine zG_s rfl rfl ?_
      refine zG_s rfl rfl ?_
      refine zG_cV1 rfl rfl (by assumption) rfl rfl (ct_widened hS (by omega)) ?_
      refine zN_st2 rfl (fun _ _ _ => rfl) rfl ?_
      refine zN_inc3 rfl rfl ?_
      refine zG_s rfl rfl ?_
      -- leaf 2
      exact ih6
  exact main6 0 (by omega)
theorem ct_components {d : Nat} {h : zH} {o n : Nat} {lo hi : Nat → Nat} (hS : zSp h o n lo hi ∧ zOk n lo hi) : zCall (d + 4) 75 [.ref o] h (some (.int (nI (zct (fun p => !(zSeen n lo hi p).testBit p) n))), h) := by
  have ho := hS.1.1
  have hn := hS.2.1
  refine zG_m (t := tX7_components) (ls0 := [.ref o, .null, .null, .null]) rfl rfl (zdnR zdn0) rfl ?_
  refine zG_s rfl rfl ?_
  refine zN_st1 rfl (fun _ _ _ => rfl) rfl ?_
  refine zG_s rfl rfl ?_
  refine zN_st2 rfl (fun _ _ _ => rfl) rfl ?_
  refine zG_s rfl rfl ?_
  refine zN_st3 rfl (fun _ _ _ => rfl) rfl ?_
  have main6 : ∀ p, p ≤ n → zGo (d + 3) tX7_components 6 [.ref o, .int (nI (zct (fun p => !(zSeen n lo hi p).testBit p) p)), .int (nI (zSeen n lo hi p)), .int (nI p)] [] h (some (.int (nI (zct (fun p => !(zSeen n lo hi p).testBit p) n))), h) := by
    refine zdown (n) ?_ (fun p hp6 ih6 => ?_)
    · skip
      refine zG_s rfl rfl ?_
      refine zG_s rfl rfl ?_
      refine zN_get rfl (by first | exact zeh_o | assumption) rfl ?_
      refine zN_ige rfl (by omega) (by omega) (fun c1 => ?_) (fun c2 => absurd c2 (by omega))
      refine zG_s rfl rfl ?_
      -- leaf 1
      exact zG_ret rfl rfl rfl
    · skip
      have b1 := zSeen_lt hS.2 p (by omega)
      refine zG_s rfl rfl ?_
      refine zG_s rfl rfl ?_
      refine zN_get rfl (by first | exact zeh_o | assumption) rfl ?_
      refine zN_ige rfl (by omega) (by omega) (fun c3 => absurd c3 (by omega)) (fun c4 => ?_)
      refine zG_s rfl rfl ?_
      refine zG_s rfl rfl ?_
      refine zG_cS1 rfl rfl (ct_has _ (by omega) (by omega)) ?_
      first | refine zN_ifnb rfl (fun c5 => ?_) (fun c6 => ?_) | refine zN_ne0 rfl (by omega) (fun c5 => ?_) (fun c6 => ?_)
      · skip
        refine zN_inc3 rfl rfl ?_
        refine zG_s rfl rfl ?_
        -- leaf 2
        rw [zct_no (by simp only [c5]; rfl), zSeen, if_pos c5] at ih6
        exact ih6
      · skip
        refine zG_s rfl rfl ?_
        refine zG_s rfl rfl ?_
        refine zG_s rfl rfl ?_
        refine zG_cV1 rfl rfl (by assumption) rfl rfl (ct_component hS (by omega)) ?_
        refine zN_or rfl ?_
        refine zN_st2 rfl (fun _ _ _ => rfl) rfl ?_
        refine zN_inc1 rfl rfl ?_
        refine zN_inc3 rfl rfl ?_
        refine zG_s rfl rfl ?_
        -- leaf 3
        rw [zct_yes (by simp only [c6]; rfl), zSeen, if_neg (by rw [c6]; decide)] at ih6
        exact ih6
  exact main6 0 (by omega)
theorem ct_steps {d : Nat} {h : zH} {o n x y : Nat} {lo hi : Nat → Nat} (hS : zSp h o n lo hi ∧ zOk n lo hi) (hx : x < n) (hy : y < n) : zCall (d + 3) 76 [.ref o, .int (nI x), .int (nI y)] h (some (.int (if zfs (fun i => (zit (zWid n lo hi) i (1 <<< x)).testBit y) 8 < 8 then nI (zfs (fun i => (zit (zWid n lo hi) i (1 <<< x)).testBit y) 8) else -3)), h) := by
  have ho := hS.1.1
  have hn := hS.2.1
  obtain ⟨R9, r0, r1, r2⟩ : ∃ R9 : Int32, (if zfs (fun i => (zit (zWid n lo hi) i (1 <<< x)).testBit y) 8 < 8 then nI (zfs (fun i => (zit (zWid n lo hi) i (1 <<< x)).testBit y) 8) else -3) = R9 ∧ ((∀ j, j < 8 → (zit (zWid n lo hi) j (1 <<< x)).testBit y = false) → R9 = -3) ∧ (∀ i, i < 8 → (zit (zWid n lo hi) i (1 <<< x)).testBit y = true → (∀ j, j < i → (zit (zWid n lo hi) j (1 <<< x)).testBit y = false) → R9 = nI i) :=
    ⟨_, rfl, fun hj => by rw [zfs_none hj, if_neg (by decide)], fun i hi h1 hj => by rw [zfs_at hi h1 hj, if_pos hi]⟩
  rw [r0]
  clear r0
  refine zG_m (t := tX7_steps) (ls0 := [.ref o, .int (nI x), .int (nI y), .null, .null]) rfl rfl (zdnR (zdnI (zdnI zdn0))) rfl ?_
  refine zG_s rfl rfl ?_
  refine zG_s rfl rfl ?_
  refine zN_shl rfl (by omega) ?_
  refine zN_st3 rfl (fun _ _ _ => rfl) rfl ?_
  refine zG_s rfl rfl ?_
  refine zN_st4 rfl (fun _ _ _ => rfl) rfl ?_
  have main7 : ∀ i, i ≤ 8 → (∀ j, j < i → (zit (zWid n lo hi) j (1 <<< x)).testBit y = false) → zGo (d + 2) tX7_steps 7 [.ref o, .int (nI x), .int (nI y), .int (nI (zit (zWid n lo hi) i (1 <<< x))), .int (nI i)] [] h (some (.int R9), h) := by
    refine zdown (8) ?_ (fun i hp7 ih7 => ?_)
    · skip
      intro hj
      refine zG_s rfl rfl ?_
      refine zG_s rfl rfl ?_
      refine zN_ige rfl (by omega) (by omega) (fun c1 => ?_) (fun c2 => absurd c2 (by omega))
      refine zG_s rfl rfl ?_
      -- leaf 1
      exact zG_ret rfl rfl (by rw [r1 hj])
    · skip
      intro hj
      have b1 := zit_lt hS.2 (zsh1_lt (show x < 8 by omega)) i
      refine zG_s rfl rfl ?_
      refine zG_s rfl rfl ?_
      refine zN_ige rfl (by omega) (by omega) (fun c3 => absurd c3 (by omega)) (fun c4 => ?_)
      refine zG_s rfl rfl ?_
      refine zG_s rfl rfl ?_
      refine zG_cS1 rfl rfl (ct_has _ (by omega) (by omega)) ?_
      first | refine zN_ifb rfl (fun c5 => ?_) (fun c6 => ?_) | refine zN_eq0 rfl (by omega) (fun c5 => ?_) (fun c6 => ?_)
      · skip
        refine zG_s rfl rfl ?_
        refine zG_s rfl rfl ?_
        refine zG_cV1 rfl rfl (by assumption) rfl rfl (ct_widened hS (by omega)) ?_
        refine zN_st3 rfl (fun _ _ _ => rfl) rfl ?_
        refine zN_inc4 rfl rfl ?_
        refine zG_s rfl rfl ?_
        -- leaf 2
        exact ih7 (fun j hj2 => by
          by_cases e : j = i
          · subst e; exact c5
          · exact hj j (by omega))
      · skip
        refine zG_s rfl rfl ?_
        -- leaf 3
        exact zG_ret rfl rfl (by rw [r2 i hp7 c6 hj])
  exact main7 0 (by omega) (fun j hj => absurd hj (by omega))
