theorem zbt_sort {b : Int32} (h : zbt b (-1) (nI 2) = true) : b = -1 ∨ zin b 3 = true := by
  unfold zbt at h
  simp only [Bool.and_eq_true, Bool.not_eq_true'] at h
  have h2 : ¬ nI 2 < b := of_decide_eq_false h.2
  exact zsort3 h.1 (decide_eq_true (Int32.not_lt.mp h2))
theorem zbt_st : ∀ st, st < 3 → zbt (nI st) (-1) (nI 2) = true := by decide +kernel
theorem cr_sheetA {d r : Nat} {h : zH} {S : zRS} {s : zST} {a c : Int32} (hr : 2 ≤ r) (hI : zRI S s) (hW : zWT s) : zCallP (d + 3) 270 [.ref r, .int a, .int (-1), .int c] (zRh h r S) (zROut h r (zo_sheet s a (-1) c)) := by
  refine zG_mP (t := tX10_sheet) (ls0 := [.ref r, .int a, .int (-1), .int c, .null]) rfl rfl (zdnR (zdnI (zdnI (zdnI zdn0)))) rfl ?_
  refine zG_s rfl rfl ?_
  refine zG_cS1 rfl rfl cr_isSheet ?_
  refine zN_ifb rfl (fun c1 => ?_) (fun c2 => ?_)
  · skip
    refine zG_s rfl rfl ?_
    -- leaf 1
    exact zG_ret rfl rfl (zRfin (by rw [zo_sheet, zb_no c1]) hI)
  · skip
    obtain ⟨i, hi, rfl⟩ := zin_of c2 (by omega)
    refine zG_s rfl rfl ?_
    refine zG_s rfl rfl ?_
    refine zG_s rfl rfl ?_
    refine zG_cS1 rfl rfl cr_in ?_
    refine zN_ifb rfl (fun q => absurd q (by decide)) (fun c4 => ?_)
    refine zG_s rfl rfl ?_
    refine zN_if rfl (fun c5 => ?_) (fun q => absurd q (by decide))
    refine zG_s rfl rfl ?_
    refine zN_if rfl (fun c7 => ?_) (fun q => absurd q (by decide))
    refine zG_s rfl rfl ?_
    refine zN_get rfl zRh_o rfl ?_
    refine zG_s rfl rfl ?_
    refine zG_s rfl rfl ?_
    refine zR_ast (k := 18) (n := 4) rfl rfl (by omega) hr ?_
    refine zG_s rfl rfl ?_
    refine zN_get rfl zRh_o rfl ?_
    refine zG_s rfl rfl ?_
    refine zG_s rfl rfl ?_
    refine zN_if rfl (fun q => absurd q (by decide)) (fun c10 => ?_)
    refine zG_s rfl rfl ?_
    refine zG_s rfl rfl ?_
    refine zR_ast (k := 19) (n := 4) rfl rfl (by omega) hr ?_
    refine zG_s rfl rfl ?_
    refine zN_st4 rfl (fun _ _ _ => rfl) rfl ?_
    have main64 : ∀ q, q ≤ 40 → ∀ S1 : zRS, zRF (fun k j => k = 20 ∧ 40 * i ≤ j ∧ j < 40 * i + 40) (zRa (zRa S 18 i (-1)) 19 i (nI 0)) S1 → zGoP (d + 2) tX10_sheet 64 [.ref r, .int (nI i), .int (-1), .int c, .int (nI q)] [] (zRh h r S1) (zROut h r (zo_sheet s (nI i) (-1) c)) := by
      refine zdown (40) ?_ (fun q hp64 ih64 => ?_)
      · skip
        intro S1 hF
        have h18 : S1.2.1 18 i = zbv 0 := (hF.2.1 18 i (by omega)).trans ((zRa_ne (Or.inl (by decide))).trans zRa_at)
        have hI2 := zRI.u_sh (st := 0) (ln := (s.2.2.2.2.1 i).2.1) (f := (s.2.2.2.2.1 i).2.2) (P := zRshP i) ⟨h18, fun g => absurd g (by decide)⟩ hI hW (((zRF.rf.a (w := (-1 : Int32)) (show zRshP i 18 i from Or.inl ⟨Or.inl rfl, rfl⟩)).a (w := nI 0) (show zRshP i 19 i from Or.inl ⟨Or.inr rfl, rfl⟩)).tr (hF.mono (fun k j g => Or.inr g))) (fun k j g => Or.inr g)
        refine zG_s rfl rfl ?_
        refine zG_s rfl rfl ?_
        refine zN_ige rfl (by omega) (by omega) (fun c11 => ?_) (fun c12 => absurd c12 (by omega))
        refine zG_s rfl rfl ?_
        -- leaf 2
        exact zG_ret rfl rfl (zRfin (by rw [zo_sheet, zb_i hi (by omega), if_pos rfl]; first | done | rfl) hI2)
      · skip
        intro S1 hF
        refine zG_s rfl rfl ?_
        refine zG_s rfl rfl ?_
        refine zN_ige rfl (by omega) (by omega) (fun c13 => absurd c13 (by omega)) (fun c14 => ?_)
        refine zG_s rfl rfl ?_
        refine zN_get rfl zRh_o rfl ?_
        refine zG_s rfl rfl ?_
        refine zG_s rfl rfl ?_
        refine zN_mul rfl ?_
        refine zG_s rfl rfl ?_
        refine zN_add rfl ?_
        refine zG_s (st' := .long (nL 0) :: _) rfl rfl ?_
        refine zR_lst (k := 20) (n := 160) rfl rfl (by omega) hr ?_
        refine zN_inc4 rfl rfl ?_
        refine zG_s rfl rfl ?_
        -- leaf 3
        exact ih64 _ (hF.l ⟨rfl, by omega, by omega⟩)
    exact main64 0 (by omega) _ zRF.rf
theorem cr_sheetB {d r st : Nat} {h : zH} {S : zRS} {s : zST} {a c : Int32} (hr : 2 ≤ r) (hI : zRI S s) (hW : zWT s) (hst : st < 3) : zCallP (d + 3) 270 [.ref r, .int a, .int (nI st), .int c] (zRh h r S) (zROut h r (zo_sheet s a (nI st) c)) := by
  refine zG_mP (t := tX10_sheet) (ls0 := [.ref r, .int a, .int (nI st), .int c, .null]) rfl rfl (zdnR (zdnI (zdnI (zdnI zdn0)))) rfl ?_
  refine zG_s rfl rfl ?_
  refine zG_cS1 rfl rfl cr_isSheet ?_
  refine zN_ifb rfl (fun c1 => ?_) (fun c2 => ?_)
  · skip
    refine zG_s rfl rfl ?_
    -- leaf 1
    exact zG_ret rfl rfl (zRfin (by rw [zo_sheet, zb_no c1]) hI)
  · skip
    obtain ⟨i, hi, rfl⟩ := zin_of c2 (by omega)
    refine zG_s rfl rfl ?_
    refine zG_s rfl rfl ?_
    refine zG_s rfl rfl ?_
    refine zG_cS1 rfl rfl cr_in ?_
    refine zN_ifb rfl (fun q => by rw [zbt_st st hst] at q; cases q) (fun c4 => ?_)
    refine zG_s rfl rfl ?_
    refine zN_lt0 rfl (by omega) ?_
    refine zG_s rfl rfl ?_
    refine zG_s rfl rfl ?_
    refine zN_if2 rfl (fun c7 => ?_) (fun c8 => ?_)
    · skip
      refine zG_s rfl rfl ?_
      refine zN_lt0 rfl (by omega) ?_
      refine zG_s rfl rfl ?_
      refine zN_if rfl (fun c11 => ?_) (fun c12 => ?_)
      · skip
        obtain ⟨m, hm, em⟩ := zc40 c7 c11
        subst em
        refine zG_s rfl rfl ?_
        refine zN_get rfl zRh_o rfl ?_
        refine zG_s rfl rfl ?_
        refine zG_s rfl rfl ?_
        refine zR_ast (k := 18) (n := 4) rfl rfl (by omega) hr ?_
        refine zG_s rfl rfl ?_
        refine zN_get rfl zRh_o rfl ?_
        refine zG_s rfl rfl ?_
        refine zG_s rfl rfl ?_
        refine zN_ge0 rfl (by omega) ?_
        refine zG_s rfl rfl ?_
        refine zR_ast (k := 19) (n := 4) rfl rfl (by omega) hr ?_
        refine zG_s rfl rfl ?_
        refine zN_st4 rfl (fun _ _ _ => rfl) rfl ?_
        have main64 : ∀ q, q ≤ 40 → ∀ S1 : zRS, zRF (fun k j => k = 20 ∧ 40 * i ≤ j ∧ j < 40 * i + 40) (zRa (zRa S 18 i (nI st)) 19 i (nI m)) S1 → (∀ j, j < q → S1.2.2 20 (40 * i + j) = (nI 0).toInt64) → zGoP (d + 2) tX10_sheet 64 [.ref r, .int (nI i), .int (nI st), .int (nI m), .int (nI q)] [] (zRh h r S1) (zROut h r (zo_sheet s (nI i) (nI st) (nI m))) := by
          refine zdown (40) ?_ (fun q hp64 ih64 => ?_)
          · skip
            intro S1 hF hA
            have h18 : S1.2.1 18 i = zbv (st + 1) := (hF.2.1 18 i (by omega)).trans ((zRa_ne (Or.inl (by decide))).trans zRa_at)
            have h19 : S1.2.1 19 i = nI m := (hF.2.1 19 i (by omega)).trans zRa_at
            have hI2 := zRI.u_sh (st := st + 1) (ln := m) (f := fun _ => nI 0) (P := zRshP i) ⟨h18, fun g => ⟨h19, fun j hj => hA j (by omega)⟩⟩ hI hW (((zRF.rf.a (w := nI st) (show zRshP i 18 i from Or.inl ⟨Or.inl rfl, rfl⟩)).a (w := nI m) (show zRshP i 19 i from Or.inl ⟨Or.inr rfl, rfl⟩)).tr (hF.mono (fun k j g => Or.inr g))) (fun k j g => Or.inr g)
            refine zG_s rfl rfl ?_
            refine zG_s rfl rfl ?_
            refine zN_ige rfl (by omega) (by omega) (fun c15 => ?_) (fun c16 => absurd c16 (by omega))
            refine zG_s rfl rfl ?_
            -- leaf 2
            exact zG_ret rfl rfl (zRfin (by rw [zo_sheet, zb_i hi (by omega), if_neg (znm1 (by omega)), zb_i hst (by decide), if_neg (zle_lt c7), if_neg (zge_lt c11), nI_cl (by omega)]; first | done | rfl) hI2)
          · skip
            intro S1 hF hA
            refine zG_s rfl rfl ?_
            refine zG_s rfl rfl ?_
            refine zN_ige rfl (by omega) (by omega) (fun c17 => absurd c17 (by omega)) (fun c18 => ?_)
            refine zG_s rfl rfl ?_
            refine zN_get rfl zRh_o rfl ?_
            refine zG_s rfl rfl ?_
            refine zG_s rfl rfl ?_
            refine zN_mul rfl ?_
            refine zG_s rfl rfl ?_
            refine zN_add rfl ?_
            refine zG_s (st' := .long (nL 0) :: _) rfl rfl ?_
            refine zR_lst (k := 20) (n := 160) rfl rfl (by omega) hr ?_
            refine zN_inc4 rfl rfl ?_
            refine zG_s rfl rfl ?_
            -- leaf 3
            refine ih64 _ (hF.l ⟨rfl, by omega, by omega⟩) (fun j hj => ?_)
            by_cases e : j = q
            · rw [e, zRl_at]; rfl
            · rw [zRl_ne (Or.inr (by omega))]; exact hA j (by omega)
        exact main64 0 (by omega) _ zRF.rf (fun j hj => absurd hj (Nat.not_lt_zero j))
      · skip
        refine zG_s rfl rfl ?_
        -- leaf 4
        exact zG_ret rfl rfl (zRfin (by rw [zo_sheet, zb_i hi (by omega), if_neg (znm1 (by omega)), zb_i hst (by decide), if_neg (zle_lt c7), if_pos (znge_lt c12)]; first | done | rfl) hI)
    · skip
      refine zG_s rfl rfl ?_
      -- leaf 5
      exact zG_ret rfl rfl (zRfin (by rw [zo_sheet, zb_i hi (by omega), if_neg (znm1 (by omega)), zb_i hst (by decide), if_pos (znle_lt c8)]; first | done | rfl) hI)
theorem cr_sheetC {d r : Nat} {h : zH} {S : zRS} {s : zST} {a b c : Int32} (hr : 2 ≤ r) (hI : zRI S s) (hW : zWT s) (hb : b ≠ -1) (hb2 : zin b 3 = false) : zCallP (d + 3) 270 [.ref r, .int a, .int b, .int c] (zRh h r S) (zROut h r (zo_sheet s a b c)) := by
  refine zG_mP (t := tX10_sheet) (ls0 := [.ref r, .int a, .int b, .int c, .null]) rfl rfl (zdnR (zdnI (zdnI (zdnI zdn0)))) rfl ?_
  refine zG_s rfl rfl ?_
  refine zG_cS1 rfl rfl cr_isSheet ?_
  refine zN_ifb rfl (fun c1 => ?_) (fun c2 => ?_)
  · skip
    refine zG_s rfl rfl ?_
    -- leaf 1
    exact zG_ret rfl rfl (zRfin (by rw [zo_sheet, zb_no c1]) hI)
  · skip
    obtain ⟨i, hi, rfl⟩ := zin_of c2 (by omega)
    refine zG_s rfl rfl ?_
    refine zG_s rfl rfl ?_
    refine zG_s rfl rfl ?_
    refine zG_cS1 rfl rfl cr_in ?_
    refine zN_ifb rfl (fun c3 => ?_) (fun q => by rcases zbt_sort q with g | g; exact absurd g hb; rw [hb2] at g; cases g)
    refine zG_s rfl rfl ?_
    -- leaf 2
    exact zG_ret rfl rfl (zRfin (by rw [zo_sheet, zb_i hi (by omega), if_neg hb, zb_no hb2]) hI)
theorem cr_sheet {d r : Nat} {h : zH} {S : zRS} {s : zST} {a b c : Int32} (hr : 2 ≤ r) (hI : zRI S s) (hW : zWT s) : zCallP (d + 3) 270 [.ref r, .int a, .int b, .int c] (zRh h r S) (zROut h r (zo_sheet s a b c)) := by
  by_cases e : b = -1
  · subst e; exact cr_sheetA hr hI hW
  · cases q : zin b 3 with
    | false => exact cr_sheetC hr hI hW e q
    | true =>
      obtain ⟨st, hst, rfl⟩ := zin_of q (by decide)
      exact cr_sheetB hr hI hW hst
