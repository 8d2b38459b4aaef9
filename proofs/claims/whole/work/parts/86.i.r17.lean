theorem zbt1_of {x : Int32} {n : Nat} (hn : n + 1 < 2 ^ 31) (h : zbt x (nI 1) (nI n) = true) : ∃ j : Nat, j < n + 1 ∧ 1 ≤ j ∧ x = nI j := by
  unfold zbt at h
  rw [Bool.and_eq_true, Bool.not_eq_true', Bool.not_eq_true'] at h
  exact zraw1_in hn h.1 h.2
theorem zbt1_no {x : Int32} {n : Nat} (hn : n + 1 < 2 ^ 31) (h : zbt x (nI 1) (nI n) = false) : zin x (n + 1) = false ∨ x = nI 0 := by
  unfold zbt at h
  cases h1 : zc2 .lt x (nI 1) with
  | true => exact zraw1_lt h1
  | false =>
    cases h2 : zc2 .gt x (nI n) with
    | true => exact zraw1_gt hn h2
    | false => rw [h1, h2] at h; exact absurd h (by decide)
theorem cr_chains {d r : Nat} {h : zH} {S : zRS} {s : zST} {a b : Int32} (hr : 2 ≤ r) (hI : zRI S s) (hW : zWT s) : zCallP (d + 6) 245 [.ref r, .int a, .int b] (zRh h r S) (zROut h r (zo_chains s a b)) := by
  refine zG_mP (t := tX10_chains) (ls0 := [.ref r, .int a, .int b]) rfl rfl (zdnR (zdnI (zdnI zdn0))) rfl ?_
  refine zG_s rfl rfl ?_
  refine zG_cS1 rfl rfl cr_isSpace ?_
  refine zN_ifb rfl (fun c1 => ?_) (fun c2 => ?_)
  · skip
    refine zG_s rfl rfl ?_
    -- leaf 1
    exact zG_ret rfl rfl (zRfin (by rw [zo_chains, zb_no c1]) hI)
  · skip
    obtain ⟨i, hi, rfl⟩ := zin_of c2 (by omega)
    have hS := hI.sp i hi
    have hP := hW.1 i hi
    refine zG_s rfl rfl ?_
    refine zG_s rfl rfl ?_
    refine zG_s rfl rfl ?_
    refine zG_cS1 rfl rfl cr_in ?_
    refine zN_ifb rfl (fun c3 => ?_) (fun c4 => ?_)
    · skip
      refine zG_s rfl rfl ?_
      -- leaf 2
      exact zG_ret rfl rfl (zRfin (by rw [zo_chains, zb_i hi (by omega), zb1_no (zbt1_no (by decide) c3)]) hI)
    · skip
      obtain ⟨k, hk, hk0, rfl⟩ := zbt1_of (by decide) c4
      refine zG_s rfl rfl ?_
      refine zG_s rfl rfl ?_
      refine zG_s rfl rfl ?_
      refine zG_cV1 rfl rfl zRh_o rfl rfl (cr_chainsOf hS hP (by omega) (by omega)) ?_
      refine zG_s rfl rfl ?_
      -- leaf 3
      exact zG_ret rfl rfl (zRfin (by rw [zo_chains, zb_i hi (by omega), zb1_i hk hk0 (by decide)]; first | done | rfl) hI)
theorem cr_euler {d r : Nat} {h : zH} {S : zRS} {s : zST} {a : Int32} (hr : 2 ≤ r) (hI : zRI S s) (hW : zWT s) : zCallP (d + 6) 246 [.ref r, .int a] (zRh h r S) (zROut h r (zo_euler s a)) := by
  refine zG_mP (t := tX10_euler) (ls0 := [.ref r, .int a, .null, .null]) rfl rfl (zdnR (zdnI zdn0)) rfl ?_
  refine zG_s rfl rfl ?_
  refine zG_cS1 rfl rfl cr_isSpace ?_
  refine zN_ifnb rfl (fun c1 => ?_) (fun c2 => ?_)
  · skip
    obtain ⟨i, hi, rfl⟩ := zin_of c1 (by omega)
    have hS := hI.sp i hi
    have hP := hW.1 i hi
    have hrs : zo_euler s (nI i) = (zEulI (zCh9 s i) 8, s) := by rw [zo_euler, zb_i hi (by omega)]
    rw [hrs]
    have hC : zCh9 s i = zCc (s.1 i).1 (s.1 i).2 (zTr (s.1 i).1 (s.1 i).2) := rfl
    refine zG_s rfl rfl ?_
    refine zN_st2 rfl (fun _ _ _ => rfl) rfl ?_
    refine zG_s rfl rfl ?_
    refine zN_st3 rfl (fun _ _ _ => rfl) rfl ?_
    have main15 : ∀ j, j ≤ 8 → zGoP (d + 5) tX10_euler 15 [.ref r, .int (nI i), .int (zEulI (zCh9 s i) j), .int (nI (j + 1))] [] (zRh h r S) (zROut h r (zEulI (zCh9 s i) 8, s)) := by
      refine zdown (8) ?_ (fun j hp15 ih15 => ?_)
      · skip
        refine zG_s rfl rfl ?_
        refine zG_s rfl rfl ?_
        refine zN_igt rfl (by omega) (by omega) (fun c3 => ?_) (fun c4 => absurd c4 (by omega))
        refine zG_s rfl rfl ?_
        -- leaf 1
        exact zG_ret rfl rfl (zRfin rfl hI)
      · skip
        refine zG_s rfl rfl ?_
        refine zG_s rfl rfl ?_
        refine zN_igt rfl (by omega) (by omega) (fun c5 => absurd c5 (by omega)) (fun c6 => ?_)
        refine zG_s rfl rfl ?_
        refine zG_s rfl rfl ?_
        refine zG_s rfl rfl ?_
        refine zN_rem (y := 2) rfl (by omega) (by omega) (by omega) ?_
        refine zG_s rfl rfl ?_
        refine zN_ine rfl (by omega) (by omega) (fun c7 => ?_) (fun c8 => ?_)
        · skip
          refine zG_s rfl rfl ?_
          refine zG_s rfl rfl ?_
          refine zG_s rfl rfl ?_
          refine zG_cV1 rfl rfl zRh_o rfl rfl (cr_chainsOf hS hP (by omega) (by omega)) ?_
          refine zG_s rfl rfl ?_
          refine zG_s rfl rfl ?_
          refine zN_st2 rfl (fun _ _ _ => rfl) rfl ?_
          refine zN_inc3 rfl rfl ?_
          refine zG_s rfl rfl ?_
          -- leaf 2
          rw [show zEulI (zCh9 s i) (j + 1) = zEulI (zCh9 s i) j + -(nI (zNum (zCh9 s i) (j + 1))) from by rw [zEulI, if_neg (by assumption)]] at ih15
          exact ih15
        · skip
          refine zG_s rfl rfl ?_
          refine zG_s rfl rfl ?_
          refine zG_s rfl rfl ?_
          refine zG_cV1 rfl rfl zRh_o rfl rfl (cr_chainsOf hS hP (by omega) (by omega)) ?_
          refine zG_s rfl rfl ?_
          refine zG_s rfl rfl ?_
          refine zN_st2 rfl (fun _ _ _ => rfl) rfl ?_
          refine zN_inc3 rfl rfl ?_
          refine zG_s rfl rfl ?_
          -- leaf 3
          rw [show zEulI (zCh9 s i) (j + 1) = zEulI (zCh9 s i) j + nI (zNum (zCh9 s i) (j + 1)) from by rw [zEulI, if_pos (by assumption)]] at ih15
          exact ih15
    exact main15 0 (by omega)
  · skip
    refine zG_s rfl rfl ?_
    -- leaf 4
    exact zG_ret rfl rfl (zRfin (by rw [zo_euler, zb_no c2]) hI)
