theorem zPre.h {n x : Nat} {lo : Nat → Nat} (hP : zPre n lo) : zTr n lo x < 256 := zbits_lt8 _ hP.1
theorem cr_alikeTo {d r s n x p : Nat} {h : zH} {S : zRS} {lo : Nat → Nat} (hS : zRs S s n lo) (hn : n ≤ 8) (hx : x < n) : zCall (d + 1) 181 [.ref r, .int (nI s), .int (nI x), .int (nI p)] (zRh h r S) (some (.int (nI (lo x &&& zTr n lo x &&& p))), zRh h r S) := by
  have hs := hS.2.1
  refine zG_m (t := tX10_alikeTo) (ls0 := [.ref r, .int (nI s), .int (nI x), .int (nI p)]) rfl rfl (zdnR (zdnI (zdnI (zdnI zdn0)))) rfl ?_
  refine zG_s rfl rfl ?_
  refine zN_get rfl zRh_o rfl ?_
  refine zG_s rfl rfl ?_
  refine zG_s rfl rfl ?_
  refine zN_mul rfl ?_
  refine zG_s rfl rfl ?_
  refine zN_add rfl ?_
  refine zR_ald (k := 1) (n := 80) rfl rfl (by omega) (hS.2.2 _ (by omega)).1 ?_
  refine zG_s rfl rfl ?_
  refine zN_get rfl zRh_o rfl ?_
  refine zG_s rfl rfl ?_
  refine zG_s rfl rfl ?_
  refine zN_mul rfl ?_
  refine zG_s rfl rfl ?_
  refine zN_add rfl ?_
  refine zR_ald (k := 2) (n := 80) rfl rfl (by omega) (hS.2.2 _ (by omega)).2 ?_
  refine zN_and rfl ?_
  refine zG_s rfl rfl ?_
  refine zN_and rfl ?_
  -- leaf 1
  exact zG_ret rfl rfl rfl
theorem cr_under {d r s n x p : Nat} {h : zH} {S : zRS} {lo : Nat → Nat} (hS : zRs S s n lo) (hn : n ≤ 8) (hx : x < n) : zCall (d + 1) 182 [.ref r, .int (nI s), .int (nI x), .int (nI p)] (zRh h r S) (some (.int (nI (zBw lo (zTr n lo) x &&& p))), zRh h r S) := by
  have hs := hS.2.1
  refine zG_m (t := tX10_under) (ls0 := [.ref r, .int (nI s), .int (nI x), .int (nI p)]) rfl rfl (zdnR (zdnI (zdnI (zdnI zdn0)))) rfl ?_
  refine zG_s rfl rfl ?_
  refine zN_get rfl zRh_o rfl ?_
  refine zG_s rfl rfl ?_
  refine zG_s rfl rfl ?_
  refine zN_mul rfl ?_
  refine zG_s rfl rfl ?_
  refine zN_add rfl ?_
  refine zR_ald (k := 1) (n := 80) rfl rfl (by omega) (hS.2.2 _ (by omega)).1 ?_
  refine zG_s rfl rfl ?_
  refine zN_get rfl zRh_o rfl ?_
  refine zG_s rfl rfl ?_
  refine zG_s rfl rfl ?_
  refine zN_mul rfl ?_
  refine zG_s rfl rfl ?_
  refine zN_add rfl ?_
  refine zR_ald (k := 2) (n := 80) rfl rfl (by omega) (hS.2.2 _ (by omega)).2 ?_
  refine zG_s rfl rfl ?_
  refine zN_not rfl ?_
  refine zN_andn rfl ?_
  refine zG_s rfl rfl ?_
  refine zN_and rfl ?_
  -- leaf 1
  exact zG_ret rfl rfl rfl
theorem cr_over {d r s n x p : Nat} {h : zH} {S : zRS} {lo : Nat → Nat} (hS : zRs S s n lo) (hn : n ≤ 8) (hx : x < n) : zCall (d + 1) 183 [.ref r, .int (nI s), .int (nI x), .int (nI p)] (zRh h r S) (some (.int (nI (zAb lo (zTr n lo) x &&& p))), zRh h r S) := by
  have hs := hS.2.1
  refine zG_m (t := tX10_over) (ls0 := [.ref r, .int (nI s), .int (nI x), .int (nI p)]) rfl rfl (zdnR (zdnI (zdnI (zdnI zdn0)))) rfl ?_
  refine zG_s rfl rfl ?_
  refine zN_get rfl zRh_o rfl ?_
  refine zG_s rfl rfl ?_
  refine zG_s rfl rfl ?_
  refine zN_mul rfl ?_
  refine zG_s rfl rfl ?_
  refine zN_add rfl ?_
  refine zR_ald (k := 2) (n := 80) rfl rfl (by omega) (hS.2.2 _ (by omega)).2 ?_
  refine zG_s rfl rfl ?_
  refine zN_get rfl zRh_o rfl ?_
  refine zG_s rfl rfl ?_
  refine zG_s rfl rfl ?_
  refine zN_mul rfl ?_
  refine zG_s rfl rfl ?_
  refine zN_add rfl ?_
  refine zR_ald (k := 1) (n := 80) rfl rfl (by omega) (hS.2.2 _ (by omega)).1 ?_
  refine zG_s rfl rfl ?_
  refine zN_not rfl ?_
  refine zN_andn rfl ?_
  refine zG_s rfl rfl ?_
  refine zN_and rfl ?_
  -- leaf 1
  exact zG_ret rfl rfl rfl
theorem zal_s {P : Nat → Bool} {y : Nat} (hA : ∀ j, j < y → P j = false) (e : P y = false) : ∀ j, j < y + 1 → P j = false := fun j hj => by
  by_cases q : j = y
  · rw [q]; exact e
  · exact hA j (by omega)
section ZZLT
variable {d : Nat} {t : Nat → Option zI} {pc : Nat} {ls st : List Value} {h : zH} {r : zR → Prop} {nx a b c : Nat} {v : Value}
theorem zN_zlt {z : Int} {k n : Nat} (hai : t pc = some (.ifCond .lt z, nx, a, b, c, v)) (hn : n < 2 ^ 31) (K1 : ¬ k < n → zGoP d t a ls st h r) (K2 : k < n → zGoP d t nx ls st h r) : zGoP d t pc ls (.int (zix k n) :: st) h r := by
  by_cases e : k < n
  · rw [show zix k n = nI k from if_pos e]
    exact zN_lt0 hai (by omega) (K2 e)
  · rw [show zix k n = -1 from if_neg e]
    exact zN_if hai (fun _ => K1 e) (fun q => absurd q (by decide))
end ZZLT
theorem zix_lt {k n : Nat} (h : k < n) : zix k n = nI k := if_pos h
theorem zix_ge {k n : Nat} (h : ¬ k < n) : zix k n = -1 := if_neg h
theorem zHold_at {n x s : Nat} {f : Nat → Nat} (hx : x < n) (h : (s.testBit x && decide (zan s (f x) = 0)) = true) (ha : ∀ j, j < x → (s.testBit j && decide (zan s (f j) = 0)) = false) : zHold n f s = x := zfs_at hx h ha
theorem zHold_none {n s : Nat} {f : Nat → Nat} (ha : ∀ j, j < n → (s.testBit j && decide (zan s (f j) = 0)) = false) : zHold n f s = n := zfs_none ha
theorem cr_end0 {d r s n p : Nat} {h : zH} {S : zRS} {lo : Nat → Nat} (hS : zRs S s n lo) (hP : zPre n lo) (hp : p < 256) : zCall (d + 2) 186 [.ref r, .int (nI s), .int (nI p), .int (nI 0)] (zRh h r S) (some (.int (zix (zHold n lo p) n)), zRh h r S) := by
  have hs := hS.2.1
  have hn := hP.1
  refine zG_m (t := tX10_end) (ls0 := [.ref r, .int (nI s), .int (nI p), .int (nI 0), .null, .null]) rfl rfl (zdnR (zdnI (zdnI (zdnI zdn0)))) rfl ?_
  refine zG_s rfl rfl ?_
  refine zN_st4 rfl (fun _ _ _ => rfl) rfl ?_
  have main3 : ∀ y, y ≤ n → ∀ x5 : Value, (∀ j, j < y → (p.testBit j && decide (zan p (lo j) = 0)) = false) → zGo (d + 1) tX10_end 3 [.ref r, .int (nI s), .int (nI p), .int (nI 0), .int (nI y), x5] [] (zRh h r S) (some (.int (zix (zHold n lo p) n)), zRh h r S) := by
    refine zdown (n) ?_ (fun y hp3 ih3 => ?_)
    · skip
      intro x5 hA
      refine zG_s rfl rfl ?_
      refine zG_s rfl rfl ?_
      refine zN_get rfl zRh_o rfl ?_
      refine zG_s rfl rfl ?_
      refine zR_ald (k := 3) (n := 10) rfl rfl (by omega) hS.1 ?_
      refine zN_ige rfl (by omega) (by omega) (fun c1 => ?_) (fun c2 => absurd c2 (by omega))
      refine zG_s rfl rfl ?_
      -- leaf 1
      rw [zHold_none hA, zix_ge (by omega)]
      exact zG_ret rfl rfl rfl
    · skip
      intro x5 hA
      have hly := hP.b hp3
      refine zG_s rfl rfl ?_
      refine zG_s rfl rfl ?_
      refine zN_get rfl zRh_o rfl ?_
      refine zG_s rfl rfl ?_
      refine zR_ald (k := 3) (n := 10) rfl rfl (by omega) hS.1 ?_
      refine zN_ige rfl (by omega) (by omega) (fun c3 => absurd c3 (by omega)) (fun c4 => ?_)
      refine zG_s rfl rfl ?_
      refine zN_eq0 rfl (by decide) (fun _ => ?_) (fun c => absurd c (by decide))
      refine zG_s rfl rfl ?_
      refine zN_get rfl zRh_o rfl ?_
      refine zG_s rfl rfl ?_
      refine zG_s rfl rfl ?_
      refine zN_mul rfl ?_
      refine zG_s rfl rfl ?_
      refine zN_add rfl ?_
      refine zR_ald (k := 1) (n := 80) rfl rfl (by omega) (hS.2.2 _ (by omega)).1 ?_
      refine zN_st5 rfl (fun _ _ _ => rfl) rfl ?_
      refine zG_s rfl rfl ?_
      refine zG_s rfl rfl ?_
      refine zG_cS1 rfl rfl (cr_has _ (by omega) (by omega)) ?_
      first | refine zN_ifb rfl (fun c7 => ?_) (fun c8 => ?_) | refine zN_eq0 rfl (by omega) (fun c7 => ?_) (fun c8 => ?_)
      · skip
        refine zN_inc4 rfl rfl ?_
        refine zG_s rfl rfl ?_
        -- leaf 2
        exact ih3 _ (zal_s hA (by simp only [c7, Bool.false_and]))
      · skip
        refine zG_s rfl rfl ?_
        refine zG_s rfl rfl ?_
        refine zG_s rfl rfl ?_
        refine zN_not rfl ?_
        refine zN_andn rfl ?_
        refine zN_ne0 rfl (zan_lt _ (by omega)) (fun c9 => ?_) (fun c10 => ?_)
        · skip
          refine zN_inc4 rfl rfl ?_
          refine zG_s rfl rfl ?_
          -- leaf 3
          exact ih3 _ (zal_s hA (by simp only [decide_eq_false (show ¬ zan p (lo y) = 0 by omega), Bool.and_false]))
        · skip
          refine zG_s rfl rfl ?_
          -- leaf 4
          rw [zHold_at hp3 (by simp only [c8, decide_eq_true c10, Bool.and_self]) hA, zix_lt hp3]
          exact zG_ret rfl rfl rfl
  exact main3 0 (by omega) _ (fun j hj => absurd hj (by omega))
theorem cr_end1 {d r s n p : Nat} {h : zH} {S : zRS} {lo : Nat → Nat} (hS : zRs S s n lo) (hP : zPre n lo) (hp : p < 256) : zCall (d + 2) 186 [.ref r, .int (nI s), .int (nI p), .int (nI 1)] (zRh h r S) (some (.int (zix (zHold n (zTr n lo) p) n)), zRh h r S) := by
  have hs := hS.2.1
  have hn := hP.1
  refine zG_m (t := tX10_end) (ls0 := [.ref r, .int (nI s), .int (nI p), .int (nI 1), .null, .null]) rfl rfl (zdnR (zdnI (zdnI (zdnI zdn0)))) rfl ?_
  refine zG_s rfl rfl ?_
  refine zN_st4 rfl (fun _ _ _ => rfl) rfl ?_
  have main3 : ∀ y, y ≤ n → ∀ x5 : Value, (∀ j, j < y → (p.testBit j && decide (zan p (zTr n lo j) = 0)) = false) → zGo (d + 1) tX10_end 3 [.ref r, .int (nI s), .int (nI p), .int (nI 1), .int (nI y), x5] [] (zRh h r S) (some (.int (zix (zHold n (zTr n lo) p) n)), zRh h r S) := by
    refine zdown (n) ?_ (fun y hp3 ih3 => ?_)
    · skip
      intro x5 hA
      refine zG_s rfl rfl ?_
      refine zG_s rfl rfl ?_
      refine zN_get rfl zRh_o rfl ?_
      refine zG_s rfl rfl ?_
      refine zR_ald (k := 3) (n := 10) rfl rfl (by omega) hS.1 ?_
      refine zN_ige rfl (by omega) (by omega) (fun c1 => ?_) (fun c2 => absurd c2 (by omega))
      refine zG_s rfl rfl ?_
      -- leaf 1
      rw [zHold_none hA, zix_ge (by omega)]
      exact zG_ret rfl rfl rfl
    · skip
      intro x5 hA
      have hly := hP.h (x := y)
      refine zG_s rfl rfl ?_
      refine zG_s rfl rfl ?_
      refine zN_get rfl zRh_o rfl ?_
      refine zG_s rfl rfl ?_
      refine zR_ald (k := 3) (n := 10) rfl rfl (by omega) hS.1 ?_
      refine zN_ige rfl (by omega) (by omega) (fun c3 => absurd c3 (by omega)) (fun c4 => ?_)
      refine zG_s rfl rfl ?_
      refine zN_eq0 rfl (by decide) (fun c => absurd c (by decide)) (fun _ => ?_)
      refine zG_s rfl rfl ?_
      refine zN_get rfl zRh_o rfl ?_
      refine zG_s rfl rfl ?_
      refine zG_s rfl rfl ?_
      refine zN_mul rfl ?_
      refine zG_s rfl rfl ?_
      refine zN_add rfl ?_
      refine zR_ald (k := 2) (n := 80) rfl rfl (by omega) (hS.2.2 _ (by omega)).2 ?_
      refine zG_s rfl rfl ?_
      refine zN_st5 rfl (fun _ _ _ => rfl) rfl ?_
      refine zG_s rfl rfl ?_
      refine zG_s rfl rfl ?_
      refine zG_cS1 rfl rfl (cr_has _ (by omega) (by omega)) ?_
      first | refine zN_ifb rfl (fun c7 => ?_) (fun c8 => ?_) | refine zN_eq0 rfl (by omega) (fun c7 => ?_) (fun c8 => ?_)
      · skip
        refine zN_inc4 rfl rfl ?_
        refine zG_s rfl rfl ?_
        -- leaf 2
        exact ih3 _ (zal_s hA (by simp only [c7, Bool.false_and]))
      · skip
        refine zG_s rfl rfl ?_
        refine zG_s rfl rfl ?_
        refine zG_s rfl rfl ?_
        refine zN_not rfl ?_
        refine zN_andn rfl ?_
        refine zN_ne0 rfl (zan_lt _ (by omega)) (fun c9 => ?_) (fun c10 => ?_)
        · skip
          refine zN_inc4 rfl rfl ?_
          refine zG_s rfl rfl ?_
          -- leaf 3
          exact ih3 _ (zal_s hA (by simp only [decide_eq_false (show ¬ zan p (zTr n lo y) = 0 by omega), Bool.and_false]))
        · skip
          refine zG_s rfl rfl ?_
          -- leaf 4
          rw [zHold_at hp3 (by simp only [c8, decide_eq_true c10, Bool.and_self]) hA, zix_lt hp3]
          exact zG_ret rfl rfl rfl
  exact main3 0 (by omega) _ (fun j hj => absurd hj (by omega))
theorem zcnt_one {w x : Nat} (hw : w < 256) (hx : w.testBit x = true) : zcnt w = 1 ↔ zan w (1 <<< x) = 0 := by
  have h8 := zbit_lt8 hw hx
  have h1 := zcnt_cut w hw x h8 hx
  have h2 := zcnt_0 (zan w (1 <<< x)) (zan_lt _ hw)
  omega
theorem zTw_p (lo hi : Nat → Nat) (x p : Nat) : zTw lo hi x &&& p = zan (lo x &&& hi x &&& p) (1 <<< x) := by
  refine zext (fun i => ?_)
  rw [zTw, Nat.testBit_and, zan_bit, zan_bit, Nat.testBit_and (lo x &&& hi x)]
  cases (lo x &&& hi x).testBit i <;> cases p.testBit i <;> cases (1 <<< x).testBit i <;> rfl
theorem zlk_one {n x p : Nat} {lo : Nat → Nat} (hP : zPre n lo) (hx : x < n) (hb : p.testBit x = true) (hp : p < 256) : decide (zcnt (lo x &&& zTr n lo x &&& p) = 1) = !zLk lo (zTr n lo) x p := by
  have h1 := zcnt_one (w := lo x &&& zTr n lo x &&& p) (x := x) (zand_lt' _ hp) (by rw [Nat.testBit_and, Nat.testBit_and, (hP.rf x hx).1, (hP.rf x hx).2, hb]; rfl)
  rw [zLk, zTw_p]
  by_cases e : zan (lo x &&& zTr n lo x &&& p) (1 <<< x) = 0
  · rw [decide_eq_true (h1.mpr e), decide_eq_false (by omega)]; rfl
  · rw [decide_eq_false (fun c => e (h1.mp c)), decide_eq_true e]; rfl
theorem cr_isAlone {d r s n x p : Nat} {h : zH} {S : zRS} {lo : Nat → Nat} (hS : zRs S s n lo) (hP : zPre n lo) (hx : x < n) (hb : p.testBit x = true) (hp : p < 256) : zCall (d + 2) 187 [.ref r, .int (nI s), .int (nI x), .int (nI p)] (zRh h r S) (some (.int (nI (b2n (!zLk lo (zTr n lo) x p)))), zRh h r S) := by
  have hs := hS.2.1
  rw [← zlk_one hP hx hb hp]
  have hq : lo x &&& zTr n lo x &&& p < 256 := zand_lt' _ hp
  have h9 := zcnt_le (lo x &&& zTr n lo x &&& p)
  refine zG_m (t := tX10_isAlone) (ls0 := [.ref r, .int (nI s), .int (nI x), .int (nI p)]) rfl rfl (zdnR (zdnI (zdnI (zdnI zdn0)))) rfl ?_
  refine zG_s rfl rfl ?_
  refine zG_s rfl rfl ?_
  refine zG_s rfl rfl ?_
  refine zG_s rfl rfl ?_
  refine zG_cV1 rfl rfl zRh_o rfl rfl (cr_alikeTo hS hP.1 (by omega)) ?_
  refine zG_cS1 rfl rfl (cr_size (by omega)) ?_
  refine zG_s rfl rfl ?_
  refine zN_ine rfl (by omega) (by omega) (fun c1 => ?_) (fun c2 => ?_)
  · skip
    refine zG_s rfl rfl ?_
    -- leaf 1
    rw [decide_eq_false c1]
    exact zG_ret rfl rfl rfl
  · skip
    refine zG_s rfl rfl ?_
    refine zG_s rfl rfl ?_
    -- leaf 2
    rw [decide_eq_true c2]
    exact zG_ret rfl rfl rfl
theorem cr_isDown {d r s n x p : Nat} {h : zH} {S : zRS} {lo : Nat → Nat} (hS : zRs S s n lo) (hP : zPre n lo) (hx : x < n) (hb : p.testBit x = true) (hp : p < 256) : zCall (d + 3) 188 [.ref r, .int (nI s), .int (nI x), .int (nI p)] (zRh h r S) (some (.int (nI (b2n (!zLk lo (zTr n lo) x p && zDn n lo (zTr n lo) x p)))), zRh h r S) := by
  have hs := hS.2.1
  have hn := hP.1
  refine zG_m (t := tX10_isDown) (ls0 := [.ref r, .int (nI s), .int (nI x), .int (nI p)]) rfl rfl (zdnR (zdnI (zdnI (zdnI zdn0)))) rfl ?_
  refine zG_s rfl rfl ?_
  refine zG_s rfl rfl ?_
  refine zG_s rfl rfl ?_
  refine zG_s rfl rfl ?_
  refine zG_cV1 rfl rfl zRh_o rfl rfl (cr_isAlone hS hP (by omega) (by assumption) (by omega)) ?_
  first | refine zN_ifb rfl (fun c1 => ?_) (fun c2 => ?_) | refine zN_eq0 rfl (by omega) (fun c1 => ?_) (fun c2 => ?_)
  · skip
    refine zG_s rfl rfl ?_
    -- leaf 1
    rw [c1]
    exact zG_ret rfl rfl rfl
  · skip
    refine zG_s rfl rfl ?_
    refine zG_s rfl rfl ?_
    refine zG_s rfl rfl ?_
    refine zG_s rfl rfl ?_
    refine zG_s rfl rfl ?_
    refine zG_s rfl rfl ?_
    refine zG_cV1 rfl rfl zRh_o rfl rfl (cr_under hS hP.1 (by omega)) ?_
    refine zG_s rfl rfl ?_
    refine zG_cV1 rfl rfl zRh_o rfl rfl (cr_end0 hS hP (zand_lt' _ hp)) ?_
    refine zN_zlt rfl (by omega) (fun c3 => ?_) (fun c4 => ?_)
    · skip
      refine zG_s rfl rfl ?_
      -- leaf 2
      rw [zDn, decide_eq_false c3, Bool.or_false, Bool.not_and_self]
      exact zG_ret rfl rfl rfl
    · skip
      refine zG_s rfl rfl ?_
      refine zG_s rfl rfl ?_
      -- leaf 3
      rw [zDn, decide_eq_true c4, Bool.or_true, Bool.and_true, c2]
      exact zG_ret rfl rfl rfl
theorem cr_isUp {d r s n x p : Nat} {h : zH} {S : zRS} {lo : Nat → Nat} (hS : zRs S s n lo) (hP : zPre n lo) (hx : x < n) (hb : p.testBit x = true) (hp : p < 256) : zCall (d + 3) 189 [.ref r, .int (nI s), .int (nI x), .int (nI p)] (zRh h r S) (some (.int (nI (b2n (!zLk lo (zTr n lo) x p && zUp n lo (zTr n lo) x p)))), zRh h r S) := by
  have hs := hS.2.1
  have hn := hP.1
  refine zG_m (t := tX10_isUp) (ls0 := [.ref r, .int (nI s), .int (nI x), .int (nI p)]) rfl rfl (zdnR (zdnI (zdnI (zdnI zdn0)))) rfl ?_
  refine zG_s rfl rfl ?_
  refine zG_s rfl rfl ?_
  refine zG_s rfl rfl ?_
  refine zG_s rfl rfl ?_
  refine zG_cV1 rfl rfl zRh_o rfl rfl (cr_isAlone hS hP (by omega) (by assumption) (by omega)) ?_
  first | refine zN_ifb rfl (fun c1 => ?_) (fun c2 => ?_) | refine zN_eq0 rfl (by omega) (fun c1 => ?_) (fun c2 => ?_)
  · skip
    refine zG_s rfl rfl ?_
    -- leaf 1
    rw [c1]
    exact zG_ret rfl rfl rfl
  · skip
    refine zG_s rfl rfl ?_
    refine zG_s rfl rfl ?_
    refine zG_s rfl rfl ?_
    refine zG_s rfl rfl ?_
    refine zG_s rfl rfl ?_
    refine zG_s rfl rfl ?_
    refine zG_cV1 rfl rfl zRh_o rfl rfl (cr_over hS hP.1 (by omega)) ?_
    refine zG_s rfl rfl ?_
    refine zG_cV1 rfl rfl zRh_o rfl rfl (cr_end1 hS hP (zand_lt' _ hp)) ?_
    refine zN_zlt rfl (by omega) (fun c3 => ?_) (fun c4 => ?_)
    · skip
      refine zG_s rfl rfl ?_
      -- leaf 2
      rw [zUp, decide_eq_false c3, Bool.or_false, Bool.not_and_self]
      exact zG_ret rfl rfl rfl
    · skip
      refine zG_s rfl rfl ?_
      refine zG_s rfl rfl ?_
      -- leaf 3
      rw [zUp, decide_eq_true c4, Bool.or_true, Bool.and_true, c2]
      exact zG_ret rfl rfl rfl
