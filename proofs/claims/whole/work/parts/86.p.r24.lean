theorem zbits_add {c : Nat → Bool} {n : Nat} : zbits c n + 1 <<< n = zbits c n ||| 1 <<< n := by
  rw [Nat.one_shiftLeft, Nat.or_comm, Nat.add_comm]
  exact (Nat.two_pow_add_eq_or_of_lt (zbits_lt c n) 1 |> fun h => by simpa using h)
theorem cr_many2 {d r : Nat} {h : zH} {S : zRS} {s : zST} (hI : zRI S s) (hW : zWT s) : zCallP (d + 4) 287 [.ref r, .int (nI 2)] (zRh h r S) (zROut h r (zo_many s (nI 2))) := by
  refine zG_mP (t := tX10_many) (ls0 := [.ref r, .int (nI 2), .null, .null]) rfl rfl (zdnR (zdnI zdn0)) rfl ?_
  refine zG_s rfl rfl ?_
  refine zN_st2 rfl (fun _ _ _ => rfl) rfl ?_
  refine zG_s rfl rfl ?_
  refine zN_st3 rfl (fun _ _ _ => rfl) rfl ?_
  have main4 : ∀ i, i ≤ 6 → zGoP (d + 3) tX10_many 4 [.ref r, .int (nI 2), .int (nI (zbits (fun i => zPlain (s.1 i).1 (s.1 i).2) i)), .int (nI i)] [] (zRh h r S) (zROut h r (zo_many s (nI 2))) := by
    refine zdown (6) ?_ (fun i hp4 ih4 => ?_)
    · skip
      refine zG_s rfl rfl ?_
      refine zG_s rfl rfl ?_
      refine zN_ige rfl (by omega) (by omega) (fun c1 => ?_) (fun c2 => absurd c2 (by omega))
      refine zG_s rfl rfl ?_
      refine zG_s rfl rfl ?_
      refine zG_s rfl rfl ?_
      -- leaf 1
      exact zG_ret rfl rfl (zRfin (by rw [zo_many, zb_i (show 2 < 5 by decide) (by omega)]; rfl) hI)
    · skip
      have hS := hI.sp i hp4
      have hP := hW.1 i hp4
      have hbl := zbits_lt (fun i => zPlain (s.1 i).1 (s.1 i).2) i
      refine zG_s rfl rfl ?_
      refine zG_s rfl rfl ?_
      refine zN_ige rfl (by omega) (by omega) (fun c3 => absurd c3 (by omega)) (fun c4 => ?_)
      refine zG_s rfl rfl ?_
      refine zG_s rfl rfl ?_
      refine zN_ne0 rfl (by omega) (fun _ => ?_) (fun c => absurd c (by omega))
      refine zG_s rfl rfl ?_
      refine zG_s rfl rfl ?_
      refine zN_ine rfl (by omega) (by omega) (fun c => absurd rfl c) (fun _ => ?_)
      refine zG_s rfl rfl ?_
      refine zG_s rfl rfl ?_
      refine zG_cV1 rfl rfl zRh_o rfl rfl (cr_isPlain hS hP) ?_
      first | refine zN_ifb rfl (fun c9 => ?_) (fun c10 => ?_) | refine zN_eq0 rfl (by omega) (fun c9 => ?_) (fun c10 => ?_)
      · skip
        refine zG_s rfl rfl ?_
        refine zN_add rfl ?_
        refine zN_st2 rfl (fun _ _ _ => rfl) rfl ?_
        refine zN_inc3 rfl rfl ?_
        refine zG_s rfl rfl ?_
        -- leaf 2
        rw [zbits_no (by assumption)] at ih4
        exact ih4
      · skip
        refine zG_s rfl rfl ?_
        refine zG_s rfl rfl ?_
        refine zN_shl rfl (by omega) ?_
        refine zG_s rfl rfl ?_
        refine zN_add rfl ?_
        refine zN_st2 rfl (fun _ _ _ => rfl) rfl ?_
        refine zN_inc3 rfl rfl ?_
        refine zG_s rfl rfl ?_
        -- leaf 3
        rw [zbits_yes (by assumption), ← zbits_add] at ih4
        exact ih4
  exact main4 0 (by omega)
