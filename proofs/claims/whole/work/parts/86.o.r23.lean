theorem cr_pointsAll {d r : Nat} {h : zH} {S : zRS} {s : zST} (hI : zRI S s) (hW : zWT s) : zCall (d + 1) 286 [.ref r] (zRh h r S) (some (.int (nI (zsm (fun i => (s.1 i).1) 6))), zRh h r S) := by
  refine zG_m (t := tX10_pointsAll) (ls0 := [.ref r, .null, .null]) rfl rfl (zdnR zdn0) rfl ?_
  refine zG_s rfl rfl ?_
  refine zN_st1 rfl (fun _ _ _ => rfl) rfl ?_
  refine zG_s rfl rfl ?_
  refine zN_st2 rfl (fun _ _ _ => rfl) rfl ?_
  have main4 : ∀ i, i ≤ 6 → zGo (d) tX10_pointsAll 4 [.ref r, .int (nI (zsm (fun i => (s.1 i).1) i)), .int (nI i)] [] (zRh h r S) (some (.int (nI (zsm (fun i => (s.1 i).1) 6))), zRh h r S) := by
    refine zdown (6) ?_ (fun i hp4 ih4 => ?_)
    · skip
      refine zG_s rfl rfl ?_
      refine zG_s rfl rfl ?_
      refine zN_ige rfl (by omega) (by omega) (fun c1 => ?_) (fun c2 => absurd c2 (by omega))
      refine zG_s rfl rfl ?_
      -- leaf 1
      exact zG_ret rfl rfl rfl
    · skip
      refine zG_s rfl rfl ?_
      refine zG_s rfl rfl ?_
      refine zN_ige rfl (by omega) (by omega) (fun c3 => absurd c3 (by omega)) (fun c4 => ?_)
      refine zG_s rfl rfl ?_
      refine zG_s rfl rfl ?_
      refine zN_get rfl zRh_o rfl ?_
      refine zG_s rfl rfl ?_
      refine zR_ald (k := 3) (n := 10) rfl rfl (by omega) (hI.sp i hp4).1 ?_
      refine zN_add rfl ?_
      refine zN_st1 rfl (fun _ _ _ => rfl) rfl ?_
      refine zN_inc2 rfl rfl ?_
      refine zG_s rfl rfl ?_
      -- leaf 2
      exact ih4
  exact main4 0 (by omega)
def zMn0 (s : zST) (i : Nat) : Nat := zsm (fun i => if 0 < (s.1 i).1 then 1 else 0) i
def zMn2 (s : zST) (i : Nat) : Nat := zbits (fun i => zPlain (s.1 i).1 (s.1 i).2) i
theorem cr_many0 {d r : Nat} {h : zH} {S : zRS} {s : zST} (hI : zRI S s) (hW : zWT s) : zCallP (d + 4) 287 [.ref r, .int (nI 0)] (zRh h r S) (zROut h r (zo_many s (nI 0))) := by
  refine zG_mP (t := tX10_many) (ls0 := [.ref r, .int (nI 0), .null, .null]) rfl rfl (zdnR (zdnI zdn0)) rfl ?_
  refine zG_s rfl rfl ?_
  refine zN_st2 rfl (fun _ _ _ => rfl) rfl ?_
  refine zG_s rfl rfl ?_
  refine zN_st3 rfl (fun _ _ _ => rfl) rfl ?_
  have main4 : ∀ i, i ≤ 6 → zGoP (d + 3) tX10_many 4 [.ref r, .int (nI 0), .int (nI (zct (fun i => decide (0 < (s.1 i).1)) i)), .int (nI i)] [] (zRh h r S) (zROut h r (zo_many s (nI 0))) := by
    refine zdown (6) ?_ (fun i hp4 ih4 => ?_)
    · skip
      refine zG_s rfl rfl ?_
      refine zG_s rfl rfl ?_
      refine zN_ige rfl (by omega) (by omega) (fun c1 => ?_) (fun c2 => absurd c2 (by omega))
      refine zG_s rfl rfl ?_
      refine zG_s rfl rfl ?_
      refine zG_s rfl rfl ?_
      -- leaf 1
      exact zG_ret rfl rfl (zRfin (by rw [zo_many, zb_i (show 0 < 5 by decide) (by omega)]; rfl) hI)
    · skip
      have hn8 := (hW.1 i hp4).1
      refine zG_s rfl rfl ?_
      refine zG_s rfl rfl ?_
      refine zN_ige rfl (by omega) (by omega) (fun c3 => absurd c3 (by omega)) (fun c4 => ?_)
      refine zG_s rfl rfl ?_
      refine zG_s rfl rfl ?_
      refine zN_ne0 rfl (by omega) (fun c => absurd c (by omega)) (fun _ => ?_)
      refine zG_s rfl rfl ?_
      refine zN_get rfl zRh_o rfl ?_
      refine zG_s rfl rfl ?_
      refine zR_ald (k := 3) (n := 10) rfl rfl (by omega) (hI.sp i hp4).1 ?_
      refine zN_le0 rfl (by omega) (fun c7 => ?_) (fun c8 => ?_)
      · skip
        refine zG_s rfl rfl ?_
        refine zG_s rfl rfl ?_
        refine zN_add rfl ?_
        refine zN_st2 rfl (fun _ _ _ => rfl) rfl ?_
        refine zN_inc3 rfl rfl ?_
        refine zG_s rfl rfl ?_
        -- leaf 2
        rw [zct_no (decide_eq_false (show ¬ 0 < (s.1 i).1 by omega))] at ih4
        exact ih4
      · skip
        refine zG_s rfl rfl ?_
        refine zG_s rfl rfl ?_
        refine zN_add rfl ?_
        refine zN_st2 rfl (fun _ _ _ => rfl) rfl ?_
        refine zN_inc3 rfl rfl ?_
        refine zG_s rfl rfl ?_
        -- leaf 3
        rw [zct_yes (decide_eq_true (show 0 < (s.1 i).1 by omega))] at ih4
        exact ih4
  exact main4 0 (by omega)
