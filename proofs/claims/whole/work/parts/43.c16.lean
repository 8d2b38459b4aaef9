theorem ct_isUnder {d : Nat} {h : zH} {k t9 : Nat} {ka : Nat → Int32} (hka : h.2.2 1 = .inl (0, 6, .inl ka)) (hv : ∀ i, 0 < i → i < 6 → ka i = nI (zAbv i)) (hk : k < 6) (ht : t9 < 6) : zCall (d + 1) 1 [.int (nI k), .int (nI t9)] h (some (.int (nI (b2n (zUnd k t9)))), h) := by
  have hst : ∀ a, a < 6 → ∀ t, t < 6 → a ≠ 0 → a ≠ t → zUnd a t = zUnd (zAbv a) t ∧ zAbv a < a := by decide
  have hen : ∀ a, a < 6 → ∀ t, t < 6 → (a = 0 ∨ a = t) → zUnd a t = decide (a = t) := by decide
  refine zG_m (t := tX0_isUnder) (ls0 := [.int (nI k), .int (nI t9), .null, .null]) rfl rfl (zdnI (zdnI zdn0)) rfl ?_
  have jn31 : ∀ (a i : Nat), a < 6 → (a = 0 ∨ a = t9) → zUnd a t9 = zUnd k t9 → zGo (d) tX0_isUnder 31 [.int (nI k), .int (nI t9), .int (nI a), .int (nI i)] [] h (some (.int (nI (b2n (zUnd k t9)))), h) := by
    intro a i ha he hu
    rw [← hu, hen a ha t9 ht he]
    refine zG_s rfl rfl ?_
    refine zG_s rfl rfl ?_
    refine zN_ine rfl (by omega) (by omega) (fun c1 => ?_) (fun c2 => ?_)
    · skip
      refine zG_s rfl rfl ?_
      -- leaf 1
      exact zG_ret rfl rfl (by rw [decide_eq_false c1]; rfl)
    · skip
      refine zG_s rfl rfl ?_
      refine zG_s rfl rfl ?_
      -- leaf 2
      exact zG_ret rfl rfl (by rw [decide_eq_true c2]; rfl)
  refine zG_s rfl rfl ?_
  refine zN_st2 rfl (fun _ _ _ => rfl) rfl ?_
  refine zG_s rfl rfl ?_
  refine zN_st3 rfl (fun _ _ _ => rfl) rfl ?_
  have main4 : ∀ i, i ≤ 6 → ∀ a : Nat, a < 6 → a + i ≤ 5 ∨ a = 0 → zUnd a t9 = zUnd k t9 → zGo (d) tX0_isUnder 4 [.int (nI k), .int (nI t9), .int (nI a), .int (nI i)] [] h (some (.int (nI (b2n (zUnd k t9)))), h) := by
    refine zdown (6) ?_ (fun i hp4 ih4 => ?_)
    · skip
      intro a ha hi9 hu
      refine zG_s rfl rfl ?_
      refine zG_s rfl rfl ?_
      refine zN_ige (y := 6) rfl (by omega) (by omega) (fun c3 => ?_) (fun c4 => absurd c4 (by omega))
      -- leaf 3
      exact jn31 a _ ha (by omega) hu
    · skip
      intro a ha hi9 hu
      have hs := hst a ha t9 ht
      refine zG_s rfl rfl ?_
      refine zG_s rfl rfl ?_
      refine zN_ige (y := 6) rfl (by omega) (by omega) (fun c5 => absurd c5 (by omega)) (fun c6 => ?_)
      refine zG_s rfl rfl ?_
      refine zN_le0 rfl (by omega) (fun c7 => ?_) (fun c8 => ?_)
      · skip
        -- leaf 4
        exact jn31 a _ ha (by omega) hu
      · skip
        refine zG_s rfl rfl ?_
        refine zG_s rfl rfl ?_
        refine zN_ieq rfl (by omega) (by omega) (fun c9 => ?_) (fun c10 => ?_)
        · skip
          -- leaf 5
          exact jn31 a _ ha (by omega) hu
        · skip
          refine zG_s rfl rfl ?_
          refine zG_s rfl rfl ?_
          refine zN_ald rfl hka (by omega) (by omega) (hv a (by omega) (by omega)) ?_
          refine zN_st2 rfl (fun _ _ _ => rfl) rfl ?_
          refine zN_inc3 rfl rfl ?_
          refine zG_s rfl rfl ?_
          -- leaf 6
          obtain ⟨hs1, hs2⟩ := hs (by omega) (by omega)
          exact ih4 _ (by omega) (by omega) (by rw [← hs1]; exact hu)
  exact main4 0 (by omega) k hk (by omega) rfl
theorem ct_clear {d : Nat} {h : zH} {o : Nat} {w r : Int32} {tr : Value} (hA : h.2.2 o = .inr (0, [tr, .int r, .int w])) : zCall (d + 1) 2 [.ref o] h (none, zset h o (.inr (0, [tr, .int (nI 0), .int w]))) := by
  refine zG_m (t := tX0_clear) (ls0 := [.ref o]) rfl rfl (zdnR zdn0) rfl ?_
  refine zG_s rfl rfl ?_
  refine zG_s rfl rfl ?_
  refine zN_put (fs' := [tr, .int (nI 0), .int w]) rfl hA rfl rfl rfl ?_
  -- leaf 1
  exact zG_ret rfl rfl rfl
theorem ct_run0 {d : Nat} {h0 h : zH} {o w : Nat} {w0 x : Int32} {L : List Nat} (ho2 : 2 ≤ o) (hA : zAc h0 o w0 L h) (hw : w < 6) (hL : L.length + 3 ≤ 30) : zCallP (d + 11) 3 [.ref o, .int (nI w), .int (nI 0), .int x] h (zRV (.int (zGoK w (nI w) x).1) (zAc h0 o (nI w) (L ++ (zGoK w (nI w) x).2))) := by
  have hA2 : zAc h0 o (nI w) L (zset h o (.inr (0, [.ref (o + 1), .int (nI L.length), .int (nI w)]))) := by
    obtain ⟨hF, hA1, tr, hA2, hA3⟩ := hA
    exact ⟨hF.set ⟨by omega, by omega⟩, zset_eq _ _ _, tr, by rw [zset_ne _ _ (by omega)]; exact hA2, hA3⟩
  refine zG_mP (t := tX0_run) (ls0 := [.ref o, .int (nI w), .int (nI 0), .int x]) rfl rfl (zdnR (zdnI (zdnI (zdnI zdn0)))) rfl ?_
  refine zG_s rfl rfl ?_
  refine zG_s rfl rfl ?_
  refine zN_put (fs' := [.ref (o + 1), .int (nI L.length), .int (nI w)]) rfl hA.2.1 rfl rfl rfl ?_
  refine zG_s rfl rfl ?_
  refine zG_s rfl rfl ?_
  refine zG_s rfl rfl ?_
  refine zG_s rfl rfl ?_
  refine zN_get rfl hA2.2.1 rfl ?_
  refine zG_s rfl rfl ?_
  refine zG_cqV rfl rfl (ct_goes ho2 hA2 hw (by omega)) (fun h1 hB => ?_)
  -- leaf 1
  exact zG_ret rfl rfl ⟨rfl, hB⟩
theorem ct_run1 {d : Nat} {h0 h : zH} {o w : Nat} {w0 x : Int32} {L : List Nat} (ho2 : 2 ≤ o) (hA : zAc h0 o w0 L h) (hw : w < 6) (hL : L.length + 9 ≤ 30) : zCallP (d + 11) 3 [.ref o, .int (nI w), .int (nI 1), .int x] h (zRV (.int (zPaK w w x).1) (zAc h0 o (nI w) (L ++ (zPaK w w x).2))) := by
  have hA2 : zAc h0 o (nI w) L (zset h o (.inr (0, [.ref (o + 1), .int (nI L.length), .int (nI w)]))) := by
    obtain ⟨hF, hA1, tr, hA2, hA3⟩ := hA
    exact ⟨hF.set ⟨by omega, by omega⟩, zset_eq _ _ _, tr, by rw [zset_ne _ _ (by omega)]; exact hA2, hA3⟩
  refine zG_mP (t := tX0_run) (ls0 := [.ref o, .int (nI w), .int (nI 1), .int x]) rfl rfl (zdnR (zdnI (zdnI (zdnI zdn0)))) rfl ?_
  refine zG_s rfl rfl ?_
  refine zG_s rfl rfl ?_
  refine zN_put (fs' := [.ref (o + 1), .int (nI L.length), .int (nI w)]) rfl hA.2.1 rfl rfl rfl ?_
  refine zG_s rfl rfl ?_
  refine zG_s rfl rfl ?_
  refine zG_s rfl rfl ?_
  refine zG_s rfl rfl ?_
  refine zN_get rfl hA2.2.1 rfl ?_
  refine zG_s rfl rfl ?_
  refine zG_cqV rfl rfl (ct_pays ho2 hA2 hw hw (by omega)) (fun h1 hB => ?_)
  -- leaf 1
  exact zG_ret rfl rfl ⟨rfl, hB⟩
theorem ct_run2 {d : Nat} {h0 h : zH} {o w : Nat} {w0 x : Int32} {L : List Nat} (ho2 : 2 ≤ o) (hA : zAc h0 o w0 L h) (hw : w < 6) (hL : L.length + 24 ≤ 30) : zCallP (d + 11) 3 [.ref o, .int (nI w), .int (nI 2), .int x] h (zRV (.int (zTeK w w x).1) (zAc h0 o (nI w) (L ++ (zTeK w w x).2))) := by
  have hA2 : zAc h0 o (nI w) L (zset h o (.inr (0, [.ref (o + 1), .int (nI L.length), .int (nI w)]))) := by
    obtain ⟨hF, hA1, tr, hA2, hA3⟩ := hA
    exact ⟨hF.set ⟨by omega, by omega⟩, zset_eq _ _ _, tr, by rw [zset_ne _ _ (by omega)]; exact hA2, hA3⟩
  refine zG_mP (t := tX0_run) (ls0 := [.ref o, .int (nI w), .int (nI 2), .int x]) rfl rfl (zdnR (zdnI (zdnI (zdnI zdn0)))) rfl ?_
  refine zG_s rfl rfl ?_
  refine zG_s rfl rfl ?_
  refine zN_put (fs' := [.ref (o + 1), .int (nI L.length), .int (nI w)]) rfl hA.2.1 rfl rfl rfl ?_
  refine zG_s rfl rfl ?_
  refine zG_s rfl rfl ?_
  refine zG_s rfl rfl ?_
  refine zG_s rfl rfl ?_
  refine zN_get rfl hA2.2.1 rfl ?_
  refine zG_s rfl rfl ?_
  refine zG_cqV rfl rfl (ct_tells ho2 hA2 hw hw (by omega)) (fun h1 hB => ?_)
  -- leaf 1
  exact zG_ret rfl rfl ⟨rfl, hB⟩
theorem ct_runx {d : Nat} {h0 h : zH} {o w : Nat} {w0 x y : Int32} {L : List Nat} (hA : zAc h0 o w0 L h) (hy : zin y 3 = false) : zCallP (d + 1) 3 [.ref o, .int (nI w), .int y, .int x] h (zRV (.int (nI 0)) (zAc h0 o (nI w) L)) := by
  have hA2 : zAc h0 o (nI w) L (zset h o (.inr (0, [.ref (o + 1), .int (nI L.length), .int (nI w)]))) := by
    obtain ⟨hF, hA1, tr, hA2, hA3⟩ := hA
    exact ⟨hF.set ⟨by omega, by omega⟩, zset_eq _ _ _, tr, by rw [zset_ne _ _ (by omega)]; exact hA2, hA3⟩
  refine zG_mP (t := tX0_run) (ls0 := [.ref o, .int (nI w), .int y, .int x]) rfl rfl (zdnR (zdnI (zdnI (zdnI zdn0)))) rfl ?_
  refine zG_s rfl rfl ?_
  refine zG_s rfl rfl ?_
  refine zN_put (fs' := [.ref (o + 1), .int (nI L.length), .int (nI w)]) rfl hA.2.1 rfl rfl rfl ?_
  refine zG_s rfl rfl ?_
  refine zN_tsd (p2 := 62) rfl (by have := zin_out (by decide) hy; omega) rfl ?_
  refine zG_s rfl rfl ?_
  -- leaf 1
  exact zG_ret rfl rfl ⟨rfl, hA2⟩
theorem ct_renew {d : Nat} {h : zH} {o st ln s n : Nat} {f : Nat → Int32} (ho2 : 2 ≤ o) (hS : zSh h o st ln f) (hn : n ≤ 40) : zCallP (d + 1) 55 [.ref o, .int (nI s), .int (nI n)] h (zRN (fun h1 => zFr (zaS o) h h1 ∧ zSh h1 o (s + 1) n (zcut (fun _ => nI 0) f n))) := by
  refine zG_mP (t := tX6_renew) (ls0 := [.ref o, .int (nI s), .int (nI n), .null]) rfl rfl (zdnR (zdnI (zdnI zdn0))) rfl ?_
  refine zG_s rfl rfl ?_
  refine zG_s rfl rfl ?_
  refine zN_put (fs' := [.int (nI s), .int (nI ln), .ref (o + 1)]) rfl hS.1 rfl rfl rfl ?_
  refine zG_s rfl rfl ?_
  refine zG_s rfl rfl ?_
  refine zN_put (fs' := [.int (nI s), .int (nI n), .ref (o + 1)]) rfl (zset_eq _ _ _) rfl rfl rfl ?_
  rw [zset_set]
  refine zG_s rfl rfl ?_
  refine zN_st3 rfl (fun _ _ _ => rfl) rfl ?_
  have main12 : ∀ i, i ≤ n → ∀ h1 : zH, zFr (zaS o) h h1 ∧ zSh h1 o (s + 1) n (zcut (fun _ => nI 0) f i) → zGoP (d) tX6_renew 12 [.ref o, .int (nI s), .int (nI n), .int (nI i)] [] h1 (zRN (fun h1 => zFr (zaS o) h h1 ∧ zSh h1 o (s + 1) n (zcut (fun _ => nI 0) f n))) := by
    refine zdown (n) ?_ (fun i hp12 ih12 => ?_)
    · skip
      intro h1 hH
      refine zG_s rfl rfl ?_
      refine zG_s rfl rfl ?_
      refine zN_ige rfl (by omega) (by omega) (fun c1 => ?_) (fun c2 => absurd c2 (by omega))
      -- leaf 1
      exact zG_ret rfl rfl ⟨rfl, hH⟩
    · skip
      intro h1 hH
      refine zG_s rfl rfl ?_
      refine zG_s rfl rfl ?_
      refine zN_ige rfl (by omega) (by omega) (fun c3 => absurd c3 (by omega)) (fun c4 => ?_)
      refine zG_s rfl rfl ?_
      refine zN_get rfl hH.2.1 rfl ?_
      refine zG_s rfl rfl ?_
      refine zG_s rfl rfl ?_
      refine zN_ast rfl hH.2.2 (by omega) (by omega) (zble_of ho2) ?_
      refine zN_inc3 rfl rfl ?_
      refine zG_s rfl rfl ?_
      -- leaf 2
      rw [zcut_up (F := fun _ => nI 0) rfl]
      exact ih12 _ ⟨hH.1.set ⟨by omega, by omega⟩, by rw [zset_ne _ _ (by omega)]; exact hH.2.1, zset_eq _ _ _⟩
  exact main12 0 (by omega) _ ⟨zFr.rf.set ⟨by omega, by omega⟩, zset_eq _ _ _, by rw [zset_ne _ _ (by omega), zcut_0]; exact hS.2⟩
theorem ct_isOutside {d : Nat} {h : zH} {o ln : Nat} {i n : Int32} {q1 q2 : Value} (hS : h.2.2 o = .inr (6, [q1, .int (nI ln), q2])) (hl : ln ≤ 40) : zCall (d + 1) 56 [.ref o, .int i, .int n] h (some (.int (nI (b2n (!zInr ln i n)))), h) := by
  generalize hR : zInr ln i n = R
  refine zG_m (t := tX6_isOutside) (ls0 := [.ref o, .int i, .int n]) rfl rfl (zdnR (zdnI (zdnI zdn0))) rfl ?_
  refine zG_s rfl rfl ?_
  refine zN_if rfl (fun c1 => ?_) (fun c2 => ?_)
  · skip
    refine zG_s rfl rfl ?_
    refine zG_s rfl rfl ?_
    -- leaf 1
    rw [zInr, zraw_lt0 c1] at hR
    exact zG_ret rfl rfl (by rw [← hR]; rfl)
  · skip
    refine zG_s rfl rfl ?_
    refine zN_if rfl (fun c3 => ?_) (fun c4 => ?_)
    · skip
      refine zG_s rfl rfl ?_
      refine zG_s rfl rfl ?_
      -- leaf 2
      rw [zInr, zraw_lt0 c3, Bool.and_false] at hR
      exact zG_ret rfl rfl (by rw [← hR]; rfl)
    · skip
      refine zG_s rfl rfl ?_
      refine zG_s rfl rfl ?_
      refine zN_get rfl hS rfl ?_
      refine zN_if2 rfl (fun c5 => ?_) (fun c6 => ?_)
      · skip
        refine zG_s rfl rfl ?_
        refine zG_s rfl rfl ?_
        -- leaf 3
        rw [zInr, zraw_gt (by omega) c5] at hR
        exact zG_ret rfl rfl (by rw [← hR]; rfl)
      · skip
        refine zG_s rfl rfl ?_
        refine zG_s rfl rfl ?_
        have hi9 := zraw_in2 (by omega) c2 c6
        obtain ⟨j, hj, rfl⟩ := zin_of hi9 (by omega)
        rw [zInr, hi9, Bool.true_and, nI_cl (by omega)] at hR
        refine zN_get rfl hS rfl ?_
        refine zG_s rfl rfl ?_
        refine zN_sub rfl (by omega) ?_
        refine zN_if2 rfl (fun c7 => ?_) (fun c8 => ?_)
        · skip
          refine zG_s rfl rfl ?_
          -- leaf 4
          have q := zraw_le (by omega) c4 c7
          rw [q] at hR
          exact zG_ret rfl rfl (by rw [← hR]; rfl)
        · skip
          refine zG_s rfl rfl ?_
          refine zG_s rfl rfl ?_
          -- leaf 5
          have q := zraw_nle (by omega) c8
          rw [q] at hR
          exact zG_ret rfl rfl (by rw [← hR]; rfl)
