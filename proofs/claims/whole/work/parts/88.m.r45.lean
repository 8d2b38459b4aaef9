theorem zRrP.sp {s : Nat} : ∀ k j, zRsp s k j → ¬ zRrP k j := fun k j h => by unfold zRsp at h; unfold zRrP; omega
theorem cr_holes {d r : Nat} {h : zH} {S : zRS} {s : zST} {a b : Int32} (hr : 2 ≤ r) (hI : zRI S s) (hW : zWT s) : zCallP (d + 7) 249 [.ref r, .int a, .int b] (zRh h r S) (zROut h r (zo_holes s a b)) := by
  refine zG_mP (t := tX10_holes) (ls0 := [.ref r, .int a, .int b]) rfl rfl (zdnR (zdnI (zdnI zdn0))) rfl ?_
  refine zG_s rfl rfl ?_
  refine zG_cS1 rfl rfl cr_isSpace ?_
  refine zN_ifb rfl (fun c1 => ?_) (fun c2 => ?_)
  · skip
    refine zG_s rfl rfl ?_
    -- leaf 1
    exact zG_ret rfl rfl (zRfin (by rw [zo_holes, zb_no c1]) hI)
  · skip
    obtain ⟨i, hi, rfl⟩ := zin_of c2 (by omega)
    have hS := hI.sp i hi
    have hP := hW.1 i hi
    have hn8 := hP.1
    refine zG_s rfl rfl ?_
    refine zG_s rfl rfl ?_
    refine zG_s rfl rfl ?_
    refine zG_cS1 rfl rfl cr_inc ?_
    refine zN_ifb rfl (fun c3 => ?_) (fun c4 => ?_)
    · skip
      refine zG_s rfl rfl ?_
      -- leaf 2
      exact zG_ret rfl rfl (zRfin (by rw [zo_holes, zb_i hi (by omega), zb_no c3]) hI)
    · skip
      obtain ⟨k, hk, rfl⟩ := zin_of c4 (by omega)
      have hrs : zo_holes s (nI i) (nI k) = if 7 < (s.1 i).1 then (-1, s) else (nI (zNum (zCh9 s i) (k + 1)) - nI (zRkC (zCh9 s i) k) - nI (zRkC (zCh9 s i) (k + 1)), s) := by rw [zo_holes, zb_i hi (by omega), zb_i hk (by omega)]
      refine zG_s rfl rfl ?_
      refine zN_get rfl zRh_o rfl ?_
      refine zG_s rfl rfl ?_
      refine zR_ald (k := 3) (n := 10) rfl rfl (by omega) hS.1 ?_
      refine zG_s rfl rfl ?_
      refine zN_igt rfl (by omega) (by omega) (fun c5 => ?_) (fun c6 => ?_)
      · skip
        refine zG_s rfl rfl ?_
        -- leaf 3
        exact zG_ret rfl rfl (zRfin (by rw [hrs, if_pos (by omega)]) hI)
      · skip
        refine zG_s rfl rfl ?_
        refine zG_s rfl rfl ?_
        refine zG_s rfl rfl ?_
        refine zG_s rfl rfl ?_
        refine zN_add rfl ?_
        refine zG_cV1 rfl rfl zRh_o rfl rfl (cr_chainsOf hS hP (by omega) (by omega)) ?_
        refine zG_s rfl rfl ?_
        refine zG_s rfl rfl ?_
        refine zG_s rfl rfl ?_
        refine zG_cQV rfl rfl zRh_o rfl rfl (cr_rankOf hr hS hP (by omega) (by omega)) (fun h1 hB => ?_)
        obtain ⟨S1, rfl, hF1, -⟩ := hB
        have hS1 := hS.fr hn8 hF1 zRrP.sp
        refine zG_s rfl rfl ?_
        refine zG_s rfl rfl ?_
        refine zG_s rfl rfl ?_
        refine zG_s rfl rfl ?_
        refine zG_s rfl rfl ?_
        refine zN_add rfl ?_
        refine zG_cQV rfl rfl zRh_o rfl rfl (cr_rankOf hr hS1 hP (by omega) (by omega)) (fun h2 hB => ?_)
        obtain ⟨S2, rfl, hF2, -⟩ := hB
        refine zG_s rfl rfl ?_
        refine zG_s rfl rfl ?_
        -- leaf 4
        exact zG_ret rfl rfl (zRfin (by rw [hrs, if_neg (by omega)]; rfl) (hI.fr hW (hF1.tr hF2) (fun k2 j g => by unfold zRrP at g; unfold zScr; omega)))
