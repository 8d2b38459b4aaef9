theorem cr_manyX {d r : Nat} {h : zH} {S : zRS} {s : zST} {a : Int32} (hI : zRI S s) (hW : zWT s) (h0 : a ≠ nI 0) (h2 : a ≠ nI 2) : zCallP (d + 4) 287 [.ref r, .int a] (zRh h r S) (zROut h r (zo_many s a)) := by
  refine zG_mP (t := tX10_many) (ls0 := [.ref r, .int a, .null, .null]) rfl rfl (zdnR (zdnI zdn0)) rfl ?_
  refine zG_s rfl rfl ?_
  refine zN_st2 rfl (fun _ _ _ => rfl) rfl ?_
  refine zG_s rfl rfl ?_
  refine zN_st3 rfl (fun _ _ _ => rfl) rfl ?_
  have main4 : ∀ i, i ≤ 6 → zGoP (d + 3) tX10_many 4 [.ref r, .int a, .int (nI 0), .int (nI i)] [] (zRh h r S) (zROut h r (zo_many s a)) := by
    refine zdown (6) ?_ (fun i hp4 ih4 => ?_)
    · skip
      refine zG_s rfl rfl ?_
      refine zG_s rfl rfl ?_
      refine zN_ige rfl (by omega) (by omega) (fun c1 => ?_) (fun c2 => absurd c2 (by omega))
      refine zG_s rfl rfl ?_
      rcases zcs5 a with c3 | c4 | c5 | c6 | c7 | c8
      · skip
        subst c3
        refine zG_s rfl rfl ?_
        refine zG_s rfl rfl ?_
        -- leaf 1
        exact absurd rfl h0
      · skip
        subst c4
        refine zG_s rfl rfl ?_
        refine zG_s rfl rfl ?_
        refine zG_cV1 rfl rfl zRh_o rfl rfl (cr_pointsAll hI hW) ?_
        -- leaf 2
        exact zG_ret rfl rfl (zRfin (by rw [zo_many, zb_i (show 1 < 5 by decide) (by omega)]; first | done | rfl) hI)
      · skip
        subst c5
        refine zG_s rfl rfl ?_
        refine zG_s rfl rfl ?_
        -- leaf 3
        exact absurd rfl h2
      · skip
        subst c6
        refine zG_s rfl rfl ?_
        refine zG_s rfl rfl ?_
        refine zN_get rfl zRh_o rfl ?_
        rw [hI.tp.1]
        -- leaf 4
        exact zG_ret rfl rfl (zRfin (by rw [zo_many, zb_i (show 3 < 5 by decide) (by omega)]; first | done | rfl) hI)
      · skip
        subst c7
        refine zG_s rfl rfl ?_
        refine zG_s rfl rfl ?_
        refine zN_get rfl zRh_o rfl ?_
        rw [hI.tr.1]
        -- leaf 5
        exact zG_ret rfl rfl (zRfin (by rw [zo_many, zb_i (show 4 < 5 by decide) (by omega)]; first | done | rfl) hI)
      · skip
        refine zN_tsd (p2 := 113) rfl (zin_out (by decide) c8) rfl ?_
        refine zG_s rfl rfl ?_
        -- leaf 6
        exact zG_ret rfl rfl (zRfin (by rw [zo_many, zb_no c8]) hI)
    · skip
      refine zG_s rfl rfl ?_
      refine zG_s rfl rfl ?_
      refine zN_ige rfl (by omega) (by omega) (fun c9 => absurd c9 (by omega)) (fun c10 => ?_)
      refine zG_s rfl rfl ?_
      refine zG_s rfl rfl ?_
      refine zN_if rfl (fun _ => ?_) (fun c => absurd (Classical.not_not.mp (of_decide_eq_false c)) h0)
      refine zG_s rfl rfl ?_
      refine zG_s rfl rfl ?_
      refine zN_if2 rfl (fun _ => ?_) (fun c => absurd (Classical.not_not.mp (of_decide_eq_false c)) h2)
      refine zG_s rfl rfl ?_
      refine zN_add rfl ?_
      refine zN_st2 rfl (fun _ _ _ => rfl) rfl ?_
      refine zN_inc3 rfl rfl ?_
      refine zG_s rfl rfl ?_
      -- leaf 7
      exact ih4
  exact main4 0 (by omega)
theorem cr_many {d r : Nat} {h : zH} {S : zRS} {s : zST} {a : Int32} (hr : 2 ≤ r) (hI : zRI S s) (hW : zWT s) : zCallP (d + 4) 287 [.ref r, .int a] (zRh h r S) (zROut h r (zo_many s a)) := by
  by_cases h0 : a = nI 0
  · rw [h0]; exact cr_many0 hI hW
  · by_cases h2 : a = nI 2
    · rw [h2]; exact cr_many2 hI hW
    · exact cr_manyX hI hW h0 h2
