theorem ct_has {d : Nat} (h : zH) {s x : Nat} (hs : s < 2 ^ 31) (hx : x < 32) : zCall (d + 1) 150 [.int (nI s), .int (nI x)] h (some (.int (nI (b2n (s.testBit x)))), h) := by
  refine zG_m (t := tX9_has) (ls0 := [.int (nI s), .int (nI x)]) rfl rfl (zdnI (zdnI zdn0)) rfl ?_
  refine zG_s rfl rfl ?_
  refine zG_s rfl rfl ?_
  refine zN_shr rfl (by omega) (by omega) ?_
  refine zG_s rfl rfl ?_
  refine zN_and rfl ?_
  -- at 5: .ifCond .eq 7
  rw [ztb1]
  refine zN_eq0 rfl (by split <;> omega) (fun c => ?_) (fun c => ?_)
  · refine zG_s rfl rfl ?_
    -- at 13: .ireturn
    have e : s.testBit x = false := by
      cases q : s.testBit x with
      | false => rfl
      | true => rw [q] at c; exact absurd c (by decide)
    rw [e]
    exact zG_ret rfl rfl rfl
  · refine zG_s rfl rfl ?_
    refine zG_s rfl rfl ?_
    -- at 13: .ireturn
    have e : s.testBit x = true := by
      cases q : s.testBit x with
      | true => rfl
      | false => rw [q] at c; exact absurd c (by decide)
    rw [e]
    exact zG_ret rfl rfl rfl
theorem ct_inside {d : Nat} {h : zH} {o n s : Nat} {lo hi : Nat → Nat} (hS : zSp h o n lo hi) (hn : n ≤ 8) (hs : s < 256) (hlo : ∀ x, x < n → lo x < 256) : zCall (d + 2) 77 [.ref o, .int (nI s)] h (some (.int (nI (zbits (fun x => s.testBit x && decide (zan (lo x) s = 0)) n))), h) := by
  obtain ⟨ho, fl, fh, hl, hh, hx⟩ := hS
  generalize hC : (fun x => s.testBit x && decide (zan (lo x) s = 0)) = C
  have hCx : ∀ x, C x = (s.testBit x && decide (zan (lo x) s = 0)) := fun x => by rw [← hC]
  refine zG_m (t := tX7_inside) (ls0 := [.ref o, .int (nI s), .null, .null]) rfl rfl (zdnR (zdnI zdn0)) rfl ?_
  refine zG_s rfl rfl ?_
  refine zN_st2 rfl (fun _ _ _ => rfl) rfl ?_
  refine zG_s rfl rfl ?_
  refine zN_st3 rfl (fun _ _ _ => rfl) rfl ?_
  -- at 4: .iload_n 3
  have main : ∀ p, p ≤ n → zGo (d + 1) tX7_inside 4 [.ref o, .int (nI s), .int (nI (zbits C p)), .int (nI p)] [] h (some (.int (nI (zbits C n))), h) := by
    refine zdown n ?_ (fun p hp ih => ?_)
    · refine zG_s rfl rfl ?_
      refine zG_s rfl rfl ?_
      refine zN_get rfl (by first | exact zeh_o | assumption) rfl ?_
      -- at 9: .if_icmp .ge 36
      refine zN_ige rfl (by omega) (by omega) (fun c => ?_) (fun c => absurd c (by omega))
      refine zG_s rfl rfl ?_
      -- at 46: .ireturn
      exact zG_ret rfl rfl rfl
    · refine zG_s rfl rfl ?_
      refine zG_s rfl rfl ?_
      refine zN_get rfl (by first | exact zeh_o | assumption) rfl ?_
      -- at 9: .if_icmp .ge 36
      refine zN_ige rfl (by omega) (by omega) (fun c => absurd c (by omega)) (fun c => ?_)
      refine zG_s rfl rfl ?_
      refine zG_s rfl rfl ?_
      -- at 14: .invokestatic 26
      refine zG_cS1 rfl rfl (ct_has h (by omega) (by omega)) ?_
      refine zN_ifb rfl (fun c1 => ?_) (fun c1 => ?_)
      · refine zN_inc3 rfl rfl ?_
        refine zG_s rfl rfl ?_
        -- at 4: .iload_n 3
        rw [zbits_no (by rw [hCx, c1]; rfl)] at ih
        exact ih
      · refine zG_s rfl rfl ?_
        refine zN_get rfl (by first | exact zeh_o | assumption) rfl ?_
        refine zG_s rfl rfl ?_
        refine zN_ald rfl (by assumption) (by omega) (by omega) (hx p hp).1 ?_
        refine zG_s rfl rfl ?_
        refine zG_s rfl rfl ?_
        refine zN_not rfl ?_
        refine zN_andn rfl ?_
        -- at 30: .ifCond .ne 9
        refine zN_ne0 rfl (zan_lt _ (by have := hlo p hp; omega)) (fun c2 => ?_) (fun c2 => ?_)
        · refine zN_inc3 rfl rfl ?_
          refine zG_s rfl rfl ?_
          -- at 4: .iload_n 3
          rw [zbits_no (by rw [hCx, c1]; simp; omega)] at ih
          exact ih
        · refine zG_s rfl rfl ?_
          refine zG_s rfl rfl ?_
          refine zG_s rfl rfl ?_
          refine zN_shl rfl (by omega) ?_
          refine zN_or rfl ?_
          refine zN_st2 rfl (fun _ _ _ => rfl) rfl ?_
          refine zN_inc3 rfl rfl ?_
          refine zG_s rfl rfl ?_
          -- at 4: .iload_n 3
          rw [zbits_yes (by rw [hCx, c1, c2]; rfl)] at ih
          exact ih
  exact main 0 (by omega)
