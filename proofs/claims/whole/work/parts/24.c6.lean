theorem ct_gall {d : Nat} {h : zH} {g n : Nat} {q1 q2 q3 q4 q5 q6 q7 q8 q9 q10 : Value} (ho : h.2.2 g = .inr (3, [.int (nI n), q1, q2, q3, q4, q5, q6, q7, q8, q9, q10])) (hn : n ≤ 8) : zCall (d + 1) 22 [.ref g] h (some (.int (nI (1 <<< n - 1))), h) := by
  have hp := zpow_le hn
  refine zG_m (t := tX3_all) (ls0 := [.ref g]) rfl rfl (zdnR zdn0) rfl ?_
  refine zG_s rfl rfl ?_
  refine zG_s rfl rfl ?_
  refine zN_get rfl (by first | exact zeh_o | assumption) rfl ?_
  refine zN_shl rfl (by omega) ?_
  refine zG_s rfl rfl ?_
  refine zN_sub rfl (by omega) ?_
  -- leaf 1
  exact zG_ret rfl rfl rfl
theorem ct_holder {d : Nat} {h : zH} {g n a s : Nat} {f : Nat → Int32} {F : Nat → Nat} {q1 q2 q3 q4 q5 q6 q7 q8 q9 q10 : Value} (ho : h.2.2 g = .inr (3, [.int (nI n), q1, q2, q3, q4, q5, q6, q7, q8, q9, q10])) (ha : h.2.2 a = .inl (0, 8, .inl f)) (hn : n ≤ 8) (hF : ∀ x, x < n → f x = nI (F x)) (hs : s < 256) : zCall (d + 1) 23 [.ref g, .int (nI s), .ref a] h (some (.int (zix (zHold n F s) n)), h) := by
  obtain ⟨R9, r0, r1, r2⟩ : ∃ R9 : Int32, zix (zHold n F s) n = R9 ∧ ((∀ j, j < n → (s.testBit j && decide (zan s (F j) = 0)) = false) → R9 = -1) ∧ (∀ i, i < n → (s.testBit i && decide (zan s (F i) = 0)) = true → (∀ j, j < i → (s.testBit j && decide (zan s (F j) = 0)) = false) → R9 = nI i) :=
    ⟨_, rfl, fun hj => by unfold zix zHold; rw [zfs_none hj, if_neg (Nat.lt_irrefl n)], fun i hi h1 hj => by unfold zix zHold; rw [zfs_at hi h1 hj, if_pos hi]⟩
  rw [r0]
  clear r0
  refine zG_m (t := tX3_holder) (ls0 := [.ref g, .int (nI s), .ref a, .null]) rfl rfl (zdnR (zdnI (zdnR zdn0))) rfl ?_
  refine zG_s rfl rfl ?_
  refine zN_st3 rfl (fun _ _ _ => rfl) rfl ?_
  have main2 : ∀ x, x ≤ n → (∀ j, j < x → (s.testBit j && decide (zan s (F j) = 0)) = false) → zGo (d) tX3_holder 2 [.ref g, .int (nI s), .ref a, .int (nI x)] [] h (some (.int R9), h) := by
    refine zdown (n) ?_ (fun x hp2 ih2 => ?_)
    · skip
      intro hj
      refine zG_s rfl rfl ?_
      refine zG_s rfl rfl ?_
      refine zN_get rfl (by first | exact zeh_o | assumption) rfl ?_
      refine zN_ige rfl (by omega) (by omega) (fun c1 => ?_) (fun c2 => absurd c2 (by omega))
      refine zG_s rfl rfl ?_
      -- leaf 1
      exact zG_ret rfl rfl (by rw [r1 hj])
    · skip
      intro hj
      have b1 := zan_lt (F x) hs
      refine zG_s rfl rfl ?_
      refine zG_s rfl rfl ?_
      refine zN_get rfl (by first | exact zeh_o | assumption) rfl ?_
      refine zN_ige rfl (by omega) (by omega) (fun c3 => absurd c3 (by omega)) (fun c4 => ?_)
      refine zG_s rfl rfl ?_
      refine zG_s rfl rfl ?_
      refine zN_shr rfl (by omega) (by omega) ?_
      refine zG_s rfl rfl ?_
      refine zN_and rfl ?_
      rw [ztb1]
      refine zN_eq0 rfl (by split <;> omega) (fun c5 => ?_) (fun c6 => ?_)
      · skip
        refine zN_inc3 rfl rfl ?_
        refine zG_s rfl rfl ?_
        -- leaf 2
        exact ih2 (fun j hj2 => by
          by_cases e : j = x
          · subst e
            have e2 : s.testBit j = false := by
              cases q : s.testBit j with
              | false => rfl
              | true => rw [q] at c5; exact absurd c5 (by decide)
            rw [e2]; rfl
          · exact hj j (by omega))
      · skip
        refine zG_s rfl rfl ?_
        refine zG_s rfl rfl ?_
        refine zG_s rfl rfl ?_
        refine zN_ald rfl ha (by omega) (by omega) (hF x hp2) ?_
        refine zG_s rfl rfl ?_
        refine zN_not rfl ?_
        refine zN_andn rfl ?_
        first | refine zN_ifnb rfl (fun c7 => ?_) (fun c8 => ?_) | refine zN_ne0 rfl (by omega) (fun c7 => ?_) (fun c8 => ?_)
        · skip
          refine zN_inc3 rfl rfl ?_
          refine zG_s rfl rfl ?_
          -- leaf 3
          exact ih2 (fun j hj2 => by
            by_cases e : j = x
            · subst e; rw [decide_eq_false (by omega), Bool.and_false]
            · exact hj j (by omega))
        · skip
          refine zG_s rfl rfl ?_
          -- leaf 4
          have e2 : s.testBit x = true := by
            cases q : s.testBit x with
            | true => rfl
            | false => rw [q] at c6; exact absurd c6 (by decide)
          exact zG_ret rfl rfl (by rw [r2 x hp2 (by rw [e2, decide_eq_true c8]; rfl) hj])
  exact main2 0 (by omega) (fun j hj => absurd hj (by omega))
theorem zix_lt0 {k n : Nat} (hn : n < 2 ^ 31) : zc1 .lt (zix k n) = !decide (k < n) := by
  unfold zix
  by_cases h : k < n
  · rw [if_pos h, decide_eq_true h]
    exact decide_eq_false (nI_pos (by omega))
  · rw [if_neg h, decide_eq_false h]
    decide
theorem ct_goesByLike {d : Nat} {h : zH} {g n x s : Nat} {ec : Int32} {lo hi : Nat → Nat} {fl fh fb fa ft sh rw en im : Nat → Int32} (hG : zG0 h g n ec fl fh fb fa ft sh rw en im) (hV : zGv n lo hi fl fh fb fa ft) (hO : zOk n lo hi) (hx : x < n) (hs : s < 256) : zCall (d + 1) 24 [.ref g, .int (nI x), .int (nI s)] h (some (.int (nI (b2n (zLk lo hi x s)))), h) := by
  have hn := hO.1
  have b1 := zand_lt' (zTw lo hi x) hs
  generalize hR : zLk lo hi x s = R9
  refine zG_m (t := tX3_goesByLike) (ls0 := [.ref g, .int (nI x), .int (nI s)]) rfl rfl (zdnR (zdnI (zdnI zdn0))) rfl ?_
  refine zG_s rfl rfl ?_
  refine zN_get rfl hG.o rfl ?_
  refine zG_s rfl rfl ?_
  refine zN_ald rfl hG.ft (by omega) (by omega) (hV x hx).2.2.2.2 ?_
  refine zG_s rfl rfl ?_
  refine zN_and rfl ?_
  first | refine zN_ifb rfl (fun c1 => ?_) (fun c2 => ?_) | refine zN_eq0 rfl (by omega) (fun c1 => ?_) (fun c2 => ?_)
  · skip
    refine zG_s rfl rfl ?_
    -- leaf 1
    rw [← hR, show zLk lo hi x s = false from decide_eq_false (by omega)]
    exact zG_ret rfl rfl rfl
  · skip
    refine zG_s rfl rfl ?_
    refine zG_s rfl rfl ?_
    -- leaf 2
    rw [← hR, show zLk lo hi x s = true from decide_eq_true (by omega)]
    exact zG_ret rfl rfl rfl
theorem ct_goesByDown {d : Nat} {h : zH} {g n x s : Nat} {ec : Int32} {lo hi : Nat → Nat} {fl fh fb fa ft sh rw en im : Nat → Int32} (hG : zG0 h g n ec fl fh fb fa ft sh rw en im) (hV : zGv n lo hi fl fh fb fa ft) (hO : zOk n lo hi) (hx : x < n) (hs : s < 256) : zCall (d + 2) 25 [.ref g, .int (nI x), .int (nI s)] h (some (.int (nI (b2n (zDn n lo hi x s)))), h) := by
  have hn := hO.1
  have b1 := zand_lt' (zTw lo hi x) hs
  have b2 := zand_lt' (zBw lo hi x) hs
  generalize hR : zDn n lo hi x s = R9
  refine zG_m (t := tX3_goesByDown) (ls0 := [.ref g, .int (nI x), .int (nI s)]) rfl rfl (zdnR (zdnI (zdnI zdn0))) rfl ?_
  refine zG_s rfl rfl ?_
  refine zN_get rfl hG.o rfl ?_
  refine zG_s rfl rfl ?_
  refine zN_ald rfl hG.ft (by omega) (by omega) (hV x hx).2.2.2.2 ?_
  refine zG_s rfl rfl ?_
  refine zN_and rfl ?_
  first | refine zN_ifnb rfl (fun c1 => ?_) (fun c2 => ?_) | refine zN_ne0 rfl (by omega) (fun c1 => ?_) (fun c2 => ?_)
  · skip
    refine zG_s rfl rfl ?_
    refine zG_s rfl rfl ?_
    -- leaf 1
    rw [← hR, zDn, show zLk lo hi x s = true from decide_eq_true (by omega), Bool.true_or]
    exact zG_ret rfl rfl rfl
  · skip
    refine zG_s rfl rfl ?_
    refine zG_s rfl rfl ?_
    refine zN_get rfl hG.o rfl ?_
    refine zG_s rfl rfl ?_
    refine zN_ald rfl hG.fb (by omega) (by omega) (hV x hx).2.2.1 ?_
    refine zG_s rfl rfl ?_
    refine zN_and rfl ?_
    refine zG_s rfl rfl ?_
    refine zN_get rfl hG.o rfl ?_
    refine zG_cV1 rfl rfl hG.o rfl rfl (ct_holder hG.o hG.fl hn (fun x hx => (hV x hx).1) b2) ?_
    refine zN_if rfl (fun c3 => ?_) (fun c4 => ?_)
    · skip
      refine zG_s rfl rfl ?_
      -- leaf 2
      rw [zix_lt0 (by omega), Bool.not_eq_true'] at c3
      rw [← hR, zDn, show zLk lo hi x s = false from decide_eq_false (by omega), c3]
      exact zG_ret rfl rfl rfl
    · skip
      refine zG_s rfl rfl ?_
      refine zG_s rfl rfl ?_
      -- leaf 3
      rw [zix_lt0 (by omega), Bool.not_eq_false'] at c4
      rw [← hR, zDn, c4, Bool.or_true]
      exact zG_ret rfl rfl rfl
theorem ct_goesByUp {d : Nat} {h : zH} {g n x s : Nat} {ec : Int32} {lo hi : Nat → Nat} {fl fh fb fa ft sh rw en im : Nat → Int32} (hG : zG0 h g n ec fl fh fb fa ft sh rw en im) (hV : zGv n lo hi fl fh fb fa ft) (hO : zOk n lo hi) (hx : x < n) (hs : s < 256) : zCall (d + 2) 26 [.ref g, .int (nI x), .int (nI s)] h (some (.int (nI (b2n (zUp n lo hi x s)))), h) := by
  have hn := hO.1
  have b1 := zand_lt' (zTw lo hi x) hs
  have b2 := zand_lt' (zAb lo hi x) hs
  generalize hR : zUp n lo hi x s = R9
  refine zG_m (t := tX3_goesByUp) (ls0 := [.ref g, .int (nI x), .int (nI s)]) rfl rfl (zdnR (zdnI (zdnI zdn0))) rfl ?_
  refine zG_s rfl rfl ?_
  refine zN_get rfl hG.o rfl ?_
  refine zG_s rfl rfl ?_
  refine zN_ald rfl hG.ft (by omega) (by omega) (hV x hx).2.2.2.2 ?_
  refine zG_s rfl rfl ?_
  refine zN_and rfl ?_
  first | refine zN_ifnb rfl (fun c1 => ?_) (fun c2 => ?_) | refine zN_ne0 rfl (by omega) (fun c1 => ?_) (fun c2 => ?_)
  · skip
    refine zG_s rfl rfl ?_
    refine zG_s rfl rfl ?_
    -- leaf 1
    rw [← hR, zUp, show zLk lo hi x s = true from decide_eq_true (by omega), Bool.true_or]
    exact zG_ret rfl rfl rfl
  · skip
    refine zG_s rfl rfl ?_
    refine zG_s rfl rfl ?_
    refine zN_get rfl hG.o rfl ?_
    refine zG_s rfl rfl ?_
    refine zN_ald rfl hG.fa (by omega) (by omega) (hV x hx).2.2.2.1 ?_
    refine zG_s rfl rfl ?_
    refine zN_and rfl ?_
    refine zG_s rfl rfl ?_
    refine zN_get rfl hG.o rfl ?_
    refine zG_cV1 rfl rfl hG.o rfl rfl (ct_holder hG.o hG.fh hn (fun x hx => (hV x hx).2.1) b2) ?_
    refine zN_if rfl (fun c3 => ?_) (fun c4 => ?_)
    · skip
      refine zG_s rfl rfl ?_
      -- leaf 2
      rw [zix_lt0 (by omega), Bool.not_eq_true'] at c3
      rw [← hR, zUp, show zLk lo hi x s = false from decide_eq_false (by omega), c3]
      exact zG_ret rfl rfl rfl
    · skip
      refine zG_s rfl rfl ?_
      refine zG_s rfl rfl ?_
      -- leaf 3
      rw [zix_lt0 (by omega), Bool.not_eq_false'] at c4
      rw [← hR, zUp, c4, Bool.or_true]
      exact zG_ret rfl rfl rfl
theorem ct_leastBeat {d : Nat} {h : zH} {g n s : Nat} {ec : Int32} {lo hi : Nat → Nat} {fl fh fb fa ft sh rw en im : Nat → Int32} (hG : zG0 h g n ec fl fh fb fa ft sh rw en im) (hV : zGv n lo hi fl fh fb fa ft) (hO : zOk n lo hi) (hs : s < 256) : zCall (d + 3) 27 [.ref g, .int (nI s)] h (some (.int (zix (zLB n lo hi s) n)), h) := by
  have hn := hO.1
  obtain ⟨R9, r0, r1, r2⟩ : ∃ R9 : Int32, zix (zLB n lo hi s) n = R9 ∧ ((∀ j, j < n → (s.testBit j && zBt n lo hi j s) = false) → R9 = -1) ∧ (∀ i, i < n → (s.testBit i && zBt n lo hi i s) = true → (∀ j, j < i → (s.testBit j && zBt n lo hi j s) = false) → R9 = nI i) :=
    ⟨_, rfl, fun hj => by unfold zix zLB; rw [zfs_none hj, if_neg (Nat.lt_irrefl n)], fun i hi h1 hj => by unfold zix zLB; rw [zfs_at hi h1 hj, if_pos hi]⟩
  rw [r0]
  clear r0
  refine zG_m (t := tX3_leastBeat) (ls0 := [.ref g, .int (nI s), .null, .null]) rfl rfl (zdnR (zdnI zdn0)) rfl ?_
  refine zG_s rfl rfl ?_
  refine zN_st2 rfl (fun _ _ _ => rfl) rfl ?_
  have main2 : ∀ x, x ≤ n → ∀ z : Value, (∀ j, j < x → (s.testBit j && zBt n lo hi j s) = false) → zGo (d + 2) tX3_leastBeat 2 [.ref g, .int (nI s), .int (nI x), z] [] h (some (.int R9), h) := by
    refine zdown (n) ?_ (fun x hp2 ih2 => ?_)
    · skip
      intro z hj
      refine zG_s rfl rfl ?_
      refine zG_s rfl rfl ?_
      refine zN_get rfl hG.o rfl ?_
      refine zN_ige rfl (by omega) (by omega) (fun c1 => ?_) (fun c2 => absurd c2 (by omega))
      refine zG_s rfl rfl ?_
      -- leaf 1
      exact zG_ret rfl rfl (by rw [r1 hj])
    · skip
      intro z hj
      refine zG_s rfl rfl ?_
      refine zG_s rfl rfl ?_
      refine zN_get rfl hG.o rfl ?_
      refine zN_ige rfl (by omega) (by omega) (fun c3 => absurd c3 (by omega)) (fun c4 => ?_)
      refine zG_s rfl rfl ?_
      refine zG_s rfl rfl ?_
      refine zG_cS1 rfl rfl (ct_has _ (by omega) (by omega)) ?_
      refine zN_st3 rfl (fun _ _ _ => rfl) rfl ?_
      refine zG_s rfl rfl ?_
      first | refine zN_ifb rfl (fun c5 => ?_) (fun c6 => ?_) | refine zN_eq0 rfl (by omega) (fun c5 => ?_) (fun c6 => ?_)
      · skip
        refine zN_inc2 rfl rfl ?_
        refine zG_s rfl rfl ?_
        -- leaf 2
        exact ih2 _ (fun j hj2 => by
          by_cases e : j = x
          · subst e; rw [c5]; rfl
          · exact hj j (by omega))
      · skip
        refine zG_s rfl rfl ?_
        refine zG_s rfl rfl ?_
        refine zG_s rfl rfl ?_
        refine zG_cV1 rfl rfl hG.o rfl rfl (ct_goesByDown hG hV hO (by omega) (by omega)) ?_
        first | refine zN_ifnb rfl (fun c7 => ?_) (fun c8 => ?_) | refine zN_ne0 rfl (by omega) (fun c7 => ?_) (fun c8 => ?_)
        · skip
          refine zG_s rfl rfl ?_
          -- leaf 3
          exact zG_ret rfl rfl (by rw [r2 x hp2 (by rw [c6, zBt, c7]; rfl) hj])
        · skip
          refine zG_s rfl rfl ?_
          refine zG_s rfl rfl ?_
          refine zG_s rfl rfl ?_
          refine zG_cV1 rfl rfl hG.o rfl rfl (ct_goesByUp hG hV hO (by omega) (by omega)) ?_
          first | refine zN_ifb rfl (fun c9 => ?_) (fun c10 => ?_) | refine zN_eq0 rfl (by omega) (fun c9 => ?_) (fun c10 => ?_)
          · skip
            refine zN_inc2 rfl rfl ?_
            refine zG_s rfl rfl ?_
            -- leaf 4
            exact ih2 _ (fun j hj2 => by
              by_cases e : j = x
              · subst e; rw [zBt, c8, c9]; simp
              · exact hj j (by omega))
          · skip
            refine zG_s rfl rfl ?_
            -- leaf 5
            exact zG_ret rfl rfl (by rw [r2 x hp2 (by rw [c6, zBt, c10, Bool.or_true]; rfl) hj])
  exact main2 0 (by omega) _ (fun j hj => absurd hj (by omega))
