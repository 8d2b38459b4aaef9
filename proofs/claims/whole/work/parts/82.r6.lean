theorem zne_of {w x : Nat} (h : w.testBit x = true) : w ≠ 0 := fun e => by
  rw [e, Nat.zero_testBit] at h
  exact absurd h (by decide)
theorem cr_parts {d r s n : Nat} {h : zH} {S : zRS} {lo : Nat → Nat} (hS : zRs S s n lo) (hP : zPre n lo) : zCall (d + 3) 201 [.ref r, .int (nI s)] (zRh h r S) (some (.int (zTold n lo (zTr n lo) 3)), zRh h r S) := by
  have hs := hS.2.1
  have hn := hP.1
  show zCall _ _ _ _ (some (.int (nI (zct (fun p => !(zSeen n lo (zTr n lo) p).testBit p) n))), _)
  generalize hC : (fun p => !(zSeen n lo (zTr n lo) p).testBit p) = C
  have hCx : ∀ p, p < n → C p = decide (zLst (zCmp n lo (zTr n lo) p) = p) := fun p hp => by rw [zpart_first hP hp, ← hC]
  refine zG_m (t := tX10_parts) (ls0 := [.ref r, .int (nI s), .null, .null]) rfl rfl (zdnR (zdnI zdn0)) rfl ?_
  refine zG_s rfl rfl ?_
  refine zN_st2 rfl (fun _ _ _ => rfl) rfl ?_
  refine zG_s rfl rfl ?_
  refine zN_st3 rfl (fun _ _ _ => rfl) rfl ?_
  have main4 : ∀ p, p ≤ n → zGo (d + 2) tX10_parts 4 [.ref r, .int (nI s), .int (nI (zct C p)), .int (nI p)] [] (zRh h r S) (some (.int (nI (zct C n))), zRh h r S) := by
    refine zdown (n) ?_ (fun p hp4 ih4 => ?_)
    · skip
      refine zG_s rfl rfl ?_
      refine zG_s rfl rfl ?_
      refine zN_get rfl zRh_o rfl ?_
      refine zG_s rfl rfl ?_
      refine zR_ald (k := 3) (n := 10) rfl rfl (by omega) hS.1 ?_
      refine zN_ige rfl (by omega) (by omega) (fun c1 => ?_) (fun c2 => absurd c2 (by omega))
      refine zG_s rfl rfl ?_
      -- leaf 1
      exact zG_ret rfl rfl rfl
    · skip
      have hcl := zCmp_lt hP.ok (x := p) (by omega)
      have hle := zLst_le hcl zCmp_me
      have hcx := hCx p hp4
      refine zG_s rfl rfl ?_
      refine zG_s rfl rfl ?_
      refine zN_get rfl zRh_o rfl ?_
      refine zG_s rfl rfl ?_
      refine zR_ald (k := 3) (n := 10) rfl rfl (by omega) hS.1 ?_
      refine zN_ige rfl (by omega) (by omega) (fun c3 => absurd c3 (by omega)) (fun c4 => ?_)
      refine zG_s rfl rfl ?_
      refine zG_s rfl rfl ?_
      refine zG_s rfl rfl ?_
      refine zG_s rfl rfl ?_
      refine zG_cV1 rfl rfl zRh_o rfl rfl (cr_partOf hS hP (by omega)) ?_
      refine zG_cS1 rfl rfl (cr_least hcl (zne_of zCmp_me)) ?_
      refine zG_s rfl rfl ?_
      refine zN_ine rfl (by omega) (by omega) (fun c5 => ?_) (fun c6 => ?_)
      · skip
        refine zG_s rfl rfl ?_
        refine zN_add rfl ?_
        refine zN_st2 rfl (fun _ _ _ => rfl) rfl ?_
        refine zN_inc3 rfl rfl ?_
        refine zG_s rfl rfl ?_
        -- leaf 2
        rw [zct_no (by rw [hcx]; exact decide_eq_false c5)] at ih4
        exact ih4
      · skip
        refine zG_s rfl rfl ?_
        refine zG_s rfl rfl ?_
        refine zN_add rfl ?_
        refine zN_st2 rfl (fun _ _ _ => rfl) rfl ?_
        refine zN_inc3 rfl rfl ?_
        refine zG_s rfl rfl ?_
        -- leaf 3
        rw [zct_yes (by rw [hcx]; exact decide_eq_true c6)] at ih4
        exact ih4
  exact main4 0 (by omega)
def zGr (n : Nat) (lo : Nat → Nat) (x : Nat) : Int32 := if x = 0 then -3 else nI (zmx (zHgt n lo (zTr n lo)) x)
theorem zle_n3 : ∀ h, h < 16 → zc2 .le (nI h) (-3) = false := by decide +kernel
theorem zle_nn : ∀ h, h < 16 → ∀ m, m < 16 → zc2 .le (nI h) (nI m) = decide (h ≤ m) := by decide +kernel
theorem cr_greatest {d r s n : Nat} {h : zH} {S : zRS} {lo : Nat → Nat} (hS : zRs S s n lo) (hP : zPre n lo) : zCall (d + 10) 202 [.ref r, .int (nI s)] (zRh h r S) (some (.int (zTold n lo (zTr n lo) 4)), zRh h r S) := by
  have hs := hS.2.1
  have hn := hP.1
  show zCall _ _ _ _ (some (.int (zGr n lo n)), _)
  refine zG_m (t := tX10_greatestHeight) (ls0 := [.ref r, .int (nI s), .null, .null, .null]) rfl rfl (zdnR (zdnI zdn0)) rfl ?_
  refine zG_s rfl rfl ?_
  refine zN_st2 rfl (fun _ _ _ => rfl) rfl ?_
  refine zG_s rfl rfl ?_
  refine zN_st3 rfl (fun _ _ _ => rfl) rfl ?_
  have main5 : ∀ x, x ≤ n → ∀ x4 : Value, zGo (d + 9) tX10_greatestHeight 5 [.ref r, .int (nI s), .int (zGr n lo x), .int (nI x), x4] [] (zRh h r S) (some (.int (zGr n lo n)), zRh h r S) := by
    refine zdown (n) ?_ (fun x hp5 ih5 => ?_)
    · skip
      intro x4
      refine zG_s rfl rfl ?_
      refine zG_s rfl rfl ?_
      refine zN_get rfl zRh_o rfl ?_
      refine zG_s rfl rfl ?_
      refine zR_ald (k := 3) (n := 10) rfl rfl (by omega) hS.1 ?_
      refine zN_ige rfl (by omega) (by omega) (fun c1 => ?_) (fun c2 => absurd c2 (by omega))
      refine zG_s rfl rfl ?_
      -- leaf 1
      exact zG_ret rfl rfl rfl
    · skip
      intro x4
      have hh := zHgt_lt8 hP hp5
      have hm : zmx (zHgt n lo (zTr n lo)) x ≤ 8 := zmx_le (fun z hz => by have := zHgt_lt8 hP (show z < n by omega); omega)
      refine zG_s rfl rfl ?_
      refine zG_s rfl rfl ?_
      refine zN_get rfl zRh_o rfl ?_
      refine zG_s rfl rfl ?_
      refine zR_ald (k := 3) (n := 10) rfl rfl (by omega) hS.1 ?_
      refine zN_ige rfl (by omega) (by omega) (fun c3 => absurd c3 (by omega)) (fun c4 => ?_)
      refine zG_s rfl rfl ?_
      refine zG_s rfl rfl ?_
      refine zG_s rfl rfl ?_
      refine zG_cV1 rfl rfl zRh_o rfl rfl (cr_heightOf hS hP (by omega)) ?_
      refine zN_st4 rfl (fun _ _ _ => rfl) rfl ?_
      refine zG_s rfl rfl ?_
      refine zG_s rfl rfl ?_
      refine zN_if2 rfl (fun c5 => ?_) (fun c6 => ?_)
      · skip
        refine zG_s rfl rfl ?_
        refine zN_st2 rfl (fun _ _ _ => rfl) rfl ?_
        refine zN_inc3 rfl rfl ?_
        refine zG_s rfl rfl ?_
        -- leaf 2
        have e : zGr n lo (x + 1) = zGr n lo x := by
          unfold zGr at c5 ⊢
          by_cases e : x = 0
          · rw [if_pos e, zle_n3 _ (by omega)] at c5
            exact absurd c5 (by decide)
          · rw [if_neg e, zle_nn _ (by omega) _ (by omega)] at c5
            have c5 := of_decide_eq_true c5
            rw [if_neg e, if_neg (by omega), zmx, Nat.max_eq_left c5]
        rw [e] at ih5
        exact ih5 _
      · skip
        refine zG_s rfl rfl ?_
        refine zG_s rfl rfl ?_
        refine zN_st2 rfl (fun _ _ _ => rfl) rfl ?_
        refine zN_inc3 rfl rfl ?_
        refine zG_s rfl rfl ?_
        -- leaf 3
        have e : zGr n lo (x + 1) = nI (zHgt n lo (zTr n lo) x) := by
          unfold zGr at c6 ⊢
          rw [if_neg (by omega), zmx]
          by_cases e : x = 0
          · subst e
            rw [zmx, Nat.max_eq_right (Nat.zero_le _)]
          · rw [if_neg e, zle_nn _ (by omega) _ (by omega)] at c6
            have c6 := of_decide_eq_false c6
            rw [Nat.max_eq_right (by omega)]
        rw [e] at ih5
        exact ih5 _
  exact main5 0 (by omega) _
theorem cr_openSets {d r s n : Nat} {h : zH} {S : zRS} {lo : Nat → Nat} (hS : zRs S s n lo) (hP : zPre n lo) : zCall (d + 3) 203 [.ref r, .int (nI s)] (zRh h r S) (some (.int (zTold n lo (zTr n lo) 5)), zRh h r S) := by
  have hs := hS.2.1
  have hn := hP.1
  have hpw := zpow_le hn
  show zCall _ _ _ _ (some (.int (nI (zct (fun s => decide (zIns n lo s = s)) (1 <<< n)))), _)
  generalize hC : (fun s => decide (zIns n lo s = s)) = C
  have hCx : ∀ s, C s = decide (zIns n lo s = s) := fun s => by rw [← hC]
  refine zG_m (t := tX10_openSets) (ls0 := [.ref r, .int (nI s), .null, .null]) rfl rfl (zdnR (zdnI zdn0)) rfl ?_
  refine zG_s rfl rfl ?_
  refine zN_st2 rfl (fun _ _ _ => rfl) rfl ?_
  refine zG_s rfl rfl ?_
  refine zN_st3 rfl (fun _ _ _ => rfl) rfl ?_
  have main4 : ∀ p, p ≤ 1 <<< n → zGo (d + 2) tX10_openSets 4 [.ref r, .int (nI s), .int (nI (zct C p)), .int (nI p)] [] (zRh h r S) (some (.int (nI (zct C (1 <<< n)))), zRh h r S) := by
    refine zdown (1 <<< n) ?_ (fun p hp4 ih4 => ?_)
    · skip
      refine zG_s rfl rfl ?_
      refine zG_s rfl rfl ?_
      refine zG_s rfl rfl ?_
      refine zG_cV1 rfl rfl zRh_o rfl rfl (cr_all hS (by omega)) ?_
      refine zN_igt rfl (by omega) (by omega) (fun c1 => ?_) (fun c2 => absurd c2 (by omega))
      refine zG_s rfl rfl ?_
      -- leaf 1
      exact zG_ret rfl rfl rfl
    · skip
      have hcx := hCx p
      have hil : zIns n lo p < 256 := zbits_lt8 _ hn
      refine zG_s rfl rfl ?_
      refine zG_s rfl rfl ?_
      refine zG_s rfl rfl ?_
      refine zG_cV1 rfl rfl zRh_o rfl rfl (cr_all hS (by omega)) ?_
      refine zN_igt rfl (by omega) (by omega) (fun c3 => absurd c3 (by omega)) (fun c4 => ?_)
      refine zG_s rfl rfl ?_
      refine zG_s rfl rfl ?_
      refine zG_s rfl rfl ?_
      refine zG_s rfl rfl ?_
      refine zG_cV1 rfl rfl zRh_o rfl rfl (cr_insideOf hS hP (by omega)) ?_
      refine zG_s rfl rfl ?_
      refine zN_ine rfl (by omega) (by omega) (fun c5 => ?_) (fun c6 => ?_)
      · skip
        refine zG_s rfl rfl ?_
        refine zN_add rfl ?_
        refine zN_st2 rfl (fun _ _ _ => rfl) rfl ?_
        refine zN_inc3 rfl rfl ?_
        refine zG_s rfl rfl ?_
        -- leaf 2
        rw [zct_no (by rw [hcx]; exact decide_eq_false c5)] at ih4
        exact ih4
      · skip
        refine zG_s rfl rfl ?_
        refine zG_s rfl rfl ?_
        refine zN_add rfl ?_
        refine zN_st2 rfl (fun _ _ _ => rfl) rfl ?_
        refine zN_inc3 rfl rfl ?_
        refine zG_s rfl rfl ?_
        -- leaf 3
        rw [zct_yes (by rw [hcx]; exact decide_eq_true c6)] at ih4
        exact ih4
  exact main4 0 (by omega)
theorem cr_isPlain {d r s n : Nat} {h : zH} {S : zRS} {lo : Nat → Nat} (hS : zRs S s n lo) (hP : zPre n lo) : zCall (d + 3) 204 [.ref r, .int (nI s)] (zRh h r S) (some (.int (nI (b2n (decide (zFst n lo (zTr n lo) = 1 <<< n - 1))))), zRh h r S) := by
  have hs := hS.2.1
  have hn := hP.1
  have hpw := zpow_le hn
  rw [← zplain hP]
  refine zG_m (t := tX10_isPlain) (ls0 := [.ref r, .int (nI s), .null, .null]) rfl rfl (zdnR (zdnI zdn0)) rfl ?_
  refine zG_s rfl rfl ?_
  refine zN_st2 rfl (fun _ _ _ => rfl) rfl ?_
  refine zG_s rfl rfl ?_
  refine zN_st3 rfl (fun _ _ _ => rfl) rfl ?_
  have main4 : ∀ x, x ≤ n → zGo (d + 2) tX10_isPlain 4 [.ref r, .int (nI s), .int (nI (b2n (zAl (fun x => !zLk lo (zTr n lo) x (1 <<< n - 1)) x))), .int (nI x)] [] (zRh h r S) (some (.int (nI (b2n (zAl (fun x => !zLk lo (zTr n lo) x (1 <<< n - 1)) n)))), zRh h r S) := by
    refine zdown (n) ?_ (fun x hp4 ih4 => ?_)
    · skip
      refine zG_s rfl rfl ?_
      refine zG_s rfl rfl ?_
      refine zN_get rfl zRh_o rfl ?_
      refine zG_s rfl rfl ?_
      refine zR_ald (k := 3) (n := 10) rfl rfl (by omega) hS.1 ?_
      refine zN_ige rfl (by omega) (by omega) (fun c1 => ?_) (fun c2 => absurd c2 (by omega))
      refine zG_s rfl rfl ?_
      -- leaf 1
      exact zG_retb rfl (fun k => by cases k <;> rfl) rfl
    · skip
      have hab : (1 <<< n - 1).testBit x = true := by rw [zall_bit]; exact decide_eq_true hp4
      refine zG_s rfl rfl ?_
      refine zG_s rfl rfl ?_
      refine zN_get rfl zRh_o rfl ?_
      refine zG_s rfl rfl ?_
      refine zR_ald (k := 3) (n := 10) rfl rfl (by omega) hS.1 ?_
      refine zN_ige rfl (by omega) (by omega) (fun c3 => absurd c3 (by omega)) (fun c4 => ?_)
      refine zG_s rfl rfl ?_
      refine zG_s rfl rfl ?_
      refine zG_s rfl rfl ?_
      refine zG_s rfl rfl ?_
      refine zG_s rfl rfl ?_
      refine zG_s rfl rfl ?_
      refine zG_cV1 rfl rfl zRh_o rfl rfl (cr_all hS (by omega)) ?_
      refine zG_cV1 rfl rfl zRh_o rfl rfl (cr_isAlone hS hP (by omega) (by assumption) (by omega)) ?_
      refine zN_and rfl ?_
      rw [b2n_and]
      refine zN_st2 rfl (fun _ _ _ => rfl) rfl ?_
      refine zN_inc3 rfl rfl ?_
      refine zG_s rfl rfl ?_
      -- leaf 2
      exact ih4
  exact main4 0 (by omega)
theorem cr_firsts {d r s n : Nat} {h : zH} {S : zRS} {lo : Nat → Nat} (hS : zRs S s n lo) (hP : zPre n lo) : zCall (d + 3) 242 [.ref r, .int (nI s)] (zRh h r S) (some (.int (nI (zFst n lo (zTr n lo)))), zRh h r S) := by
  have hs := hS.2.1
  have hn := hP.1
  unfold zFst
  generalize hC : (fun x => decide (lo x &&& zTr n lo x &&& (1 <<< x - 1) = 0)) = C
  have hCx : ∀ x, C x = decide (lo x &&& zTr n lo x &&& (1 <<< x - 1) = 0) := fun x => by rw [← hC]
  refine zG_m (t := tX10_firsts) (ls0 := [.ref r, .int (nI s), .null, .null]) rfl rfl (zdnR (zdnI zdn0)) rfl ?_
  refine zG_s rfl rfl ?_
  refine zN_st2 rfl (fun _ _ _ => rfl) rfl ?_
  refine zG_s rfl rfl ?_
  refine zN_st3 rfl (fun _ _ _ => rfl) rfl ?_
  have main4 : ∀ x, x ≤ n → zGo (d + 2) tX10_firsts 4 [.ref r, .int (nI s), .int (nI (zbits C x)), .int (nI x)] [] (zRh h r S) (some (.int (nI (zbits C n))), zRh h r S) := by
    refine zdown (n) ?_ (fun x hp4 ih4 => ?_)
    · skip
      refine zG_s rfl rfl ?_
      refine zG_s rfl rfl ?_
      refine zN_get rfl zRh_o rfl ?_
      refine zG_s rfl rfl ?_
      refine zR_ald (k := 3) (n := 10) rfl rfl (by omega) hS.1 ?_
      refine zN_ige rfl (by omega) (by omega) (fun c1 => ?_) (fun c2 => absurd c2 (by omega))
      refine zG_s rfl rfl ?_
      -- leaf 1
      exact zG_ret rfl rfl rfl
    · skip
      have hal : lo x &&& zTr n lo x < 256 := zand_lt _ (hP.b hp4)
      have hab : (lo x &&& zTr n lo x).testBit x = true := (zAlk hP hp4).mpr ⟨hp4, (hP.2 x hp4).2.1, (hP.2 x hp4).2.1⟩
      have hcx := (hCx x).trans (zLst_eq hal hab).symm
      have hll := zLst_le hal hab
      refine zG_s rfl rfl ?_
      refine zG_s rfl rfl ?_
      refine zN_get rfl zRh_o rfl ?_
      refine zG_s rfl rfl ?_
      refine zR_ald (k := 3) (n := 10) rfl rfl (by omega) hS.1 ?_
      refine zN_ige rfl (by omega) (by omega) (fun c3 => absurd c3 (by omega)) (fun c4 => ?_)
      refine zG_s rfl rfl ?_
      refine zG_s rfl rfl ?_
      refine zG_s rfl rfl ?_
      refine zG_s rfl rfl ?_
      refine zG_s rfl rfl ?_
      refine zG_s rfl rfl ?_
      refine zG_cV1 rfl rfl zRh_o rfl rfl (cr_all hS (by omega)) ?_
      refine zG_cV1 rfl rfl zRh_o rfl rfl (cr_alikeTo hS hP.1 hp4) ?_
      rw [zAk_all hP hp4]
      refine zG_cS1 rfl rfl (cr_least hal (zne_of hab)) ?_
      refine zG_s rfl rfl ?_
      refine zN_ine rfl (by omega) (by omega) (fun c5 => ?_) (fun c6 => ?_)
      · skip
        refine zG_s rfl rfl ?_
        refine zN_or rfl ?_
        refine zN_st2 rfl (fun _ _ _ => rfl) rfl ?_
        refine zN_inc3 rfl rfl ?_
        refine zG_s rfl rfl ?_
        -- leaf 2
        rw [zbits_no (by rw [hcx]; exact decide_eq_false c5), ← Nat.or_zero (zbits C x)] at ih4
        exact ih4
      · skip
        refine zG_s rfl rfl ?_
        refine zG_s rfl rfl ?_
        refine zN_shl rfl (by omega) ?_
        refine zG_s rfl rfl ?_
        refine zN_or rfl ?_
        refine zN_st2 rfl (fun _ _ _ => rfl) rfl ?_
        refine zN_inc3 rfl rfl ?_
        refine zG_s rfl rfl ?_
        -- leaf 3
        rw [zbits_yes (by rw [hcx]; exact decide_eq_true c6)] at ih4
        exact ih4
  exact main4 0 (by omega)
theorem cr_isChain {d r s n p : Nat} {h : zH} {S : zRS} {lo : Nat → Nat} (hS : zRs S s n lo) (hP : zPre n lo) (hp : p < 256) : zCall (d + 4) 243 [.ref r, .int (nI s), .int (nI p)] (zRh h r S) (some (.int (nI (b2n (decide (p ≠ 0) && zChn n lo (zTr n lo) p)))), zRh h r S) := by
  have hs := hS.2.1
  have hn := hP.1
  have hfl : zFst n lo (zTr n lo) < 256 := zbits_lt8 _ hn
  rw [← zchain_eq hP, ← Bool.and_assoc]
  generalize hB : (decide (p ≠ 0) && decide (zan p (zFst n lo (zTr n lo)) = 0)) = B
  refine zG_m (t := tX10_isChain) (ls0 := [.ref r, .int (nI s), .int (nI p), .null, .null]) rfl rfl (zdnR (zdnI (zdnI zdn0))) rfl ?_
  refine zG_s rfl rfl ?_
  have jn21 : ∀ x3 x4 : Value, zGo (d + 3) tX10_isChain 21 [.ref r, .int (nI s), .int (nI p), x3, x4] [.int (nI (b2n B))] (zRh h r S) (some (.int (nI (b2n (B && zAl (zRch n lo p) n)))), zRh h r S) := by
    intro x3 x4
    refine zN_st3 rfl (fun _ _ _ => rfl) rfl ?_
    refine zG_s rfl rfl ?_
    refine zN_st4 rfl (fun _ _ _ => rfl) rfl ?_
    have main25 : ∀ x, x ≤ n → zGo (d + 3) tX10_isChain 25 [.ref r, .int (nI s), .int (nI p), .int (nI (b2n (B && zAl (zRch n lo p) x))), .int (nI x)] [] (zRh h r S) (some (.int (nI (b2n (B && zAl (zRch n lo p) n)))), zRh h r S) := by
      refine zdown (n) ?_ (fun x hp25 ih25 => ?_)
      · skip
        refine zG_s rfl rfl ?_
        refine zG_s rfl rfl ?_
        refine zN_get rfl zRh_o rfl ?_
        refine zG_s rfl rfl ?_
        refine zR_ald (k := 3) (n := 10) rfl rfl (by omega) hS.1 ?_
        refine zN_ige rfl (by omega) (by omega) (fun c1 => ?_) (fun c2 => absurd c2 (by omega))
        refine zG_s rfl rfl ?_
        -- leaf 1
        exact zG_retb rfl (fun k => by cases k <;> rfl) rfl
      · skip
        have hes : (B && zAl (zRch n lo p) (x + 1)) = ((B && zAl (zRch n lo p) x) && zRch n lo p x) := (Bool.and_assoc ..).symm
        rw [hes] at ih25
        generalize hbb : (B && zAl (zRch n lo p) x) = bb at *
        refine zG_s rfl rfl ?_
        refine zG_s rfl rfl ?_
        refine zN_get rfl zRh_o rfl ?_
        refine zG_s rfl rfl ?_
        refine zR_ald (k := 3) (n := 10) rfl rfl (by omega) hS.1 ?_
        refine zN_ige rfl (by omega) (by omega) (fun c3 => absurd c3 (by omega)) (fun c4 => ?_)
        refine zG_s rfl rfl ?_
        refine zN_ifb rfl (fun c5 => ?_) (fun c6 => ?_)
        · skip
          refine zG_s rfl rfl ?_
          refine zN_st3 rfl (fun _ _ _ => rfl) rfl ?_
          refine zN_inc4 rfl rfl ?_
          refine zG_s rfl rfl ?_
          -- leaf 2
          rw [c5] at ih25
          exact ih25
        · skip
          refine zG_s rfl rfl ?_
          refine zG_s rfl rfl ?_
          refine zG_cS1 rfl rfl (cr_has _ (by omega) (by omega)) ?_
          first | refine zN_ifb rfl (fun c7 => ?_) (fun c8 => ?_) | refine zN_eq0 rfl (by omega) (fun c7 => ?_) (fun c8 => ?_)
          · skip
            refine zG_s rfl rfl ?_
            refine zG_s rfl rfl ?_
            refine zN_st3 rfl (fun _ _ _ => rfl) rfl ?_
            refine zN_inc4 rfl rfl ?_
            refine zG_s rfl rfl ?_
            -- leaf 3
            rw [c6, show zRch n lo p x = true from by rw [zRch, c7]; rfl] at ih25
            exact ih25
          · skip
            refine zG_s rfl rfl ?_
            refine zG_s rfl rfl ?_
            refine zG_s rfl rfl ?_
            refine zN_shl rfl (by omega) ?_
            refine zG_s rfl rfl ?_
            refine zN_not rfl ?_
            refine zN_andn rfl ?_
            refine zG_s rfl rfl ?_
            refine zG_s rfl rfl ?_
            refine zG_s rfl rfl ?_
            refine zG_s rfl rfl ?_
            refine zG_cV1 rfl rfl zRh_o rfl rfl (cr_under hS hP.1 (by omega)) ?_
            refine zG_s rfl rfl ?_
            refine zN_not rfl ?_
            refine zN_andn rfl ?_
            refine zG_s rfl rfl ?_
            refine zG_s rfl rfl ?_
            refine zG_s rfl rfl ?_
            refine zG_s rfl rfl ?_
            refine zG_cV1 rfl rfl zRh_o rfl rfl (cr_over hS hP.1 (by omega)) ?_
            refine zG_s rfl rfl ?_
            refine zN_not rfl ?_
            refine zN_andn rfl ?_
            refine zN_ne0 rfl (zan_lt _ (zan_lt _ (zan_lt _ (by omega)))) (fun c9 => ?_) (fun c10 => ?_)
            · skip
              refine zG_s rfl rfl ?_
              refine zN_st3 rfl (fun _ _ _ => rfl) rfl ?_
              refine zN_inc4 rfl rfl ?_
              refine zG_s rfl rfl ?_
              -- leaf 4
              rw [c6, show zRch n lo p x = false from by rw [zRch, c8, decide_eq_false (by omega)]; rfl] at ih25
              exact ih25
            · skip
              refine zG_s rfl rfl ?_
              refine zG_s rfl rfl ?_
              refine zN_st3 rfl (fun _ _ _ => rfl) rfl ?_
              refine zN_inc4 rfl rfl ?_
              refine zG_s rfl rfl ?_
              -- leaf 5
              rw [c6, show zRch n lo p x = true from by rw [zRch, c8, decide_eq_true (by omega)]; rfl] at ih25
              exact ih25
    have e0 := main25 0 (by omega)
    rw [show (B && zAl (zRch n lo p) 0) = B from Bool.and_true B] at e0
    exact e0
  refine zN_eq0 rfl (by omega) (fun c11 => ?_) (fun c12 => ?_)
  · skip
    refine zG_s rfl rfl ?_
    -- leaf 6
    have e : B = false := by rw [← hB, decide_eq_false (by omega)]; rfl
    rw [e] at jn21 ⊢
    exact jn21 _ _
  · skip
    refine zG_s rfl rfl ?_
    refine zG_s rfl rfl ?_
    refine zG_s rfl rfl ?_
    refine zG_cV1 rfl rfl zRh_o rfl rfl (cr_firsts hS hP) ?_
    refine zG_s rfl rfl ?_
    refine zN_not rfl ?_
    refine zN_andn rfl ?_
    refine zN_ne0 rfl (zan_lt _ (by omega)) (fun c13 => ?_) (fun c14 => ?_)
    · skip
      refine zG_s rfl rfl ?_
      -- leaf 7
      have e : B = false := by rw [← hB, decide_eq_false (p := _ = 0) (by omega), Bool.and_false]
      rw [e] at jn21 ⊢
      exact jn21 _ _
    · skip
      refine zG_s rfl rfl ?_
      refine zG_s rfl rfl ?_
      -- leaf 8
      have e : B = true := by rw [← hB, decide_eq_true (p := p ≠ 0) (by omega), decide_eq_true (p := _ = 0) (by omega)]; rfl
      rw [e] at jn21 ⊢
      exact jn21 _ _
theorem zct_none {Q : Nat → Bool} {a : Nat} : ∀ {b : Nat}, a ≤ b → (∀ i, a ≤ i → i < b → Q i = false) → zct Q b = zct Q a
  | 0, hab, _ => by rw [show a = 0 by omega]
  | b + 1, hab, h => by
    by_cases e : a = b + 1
    · rw [e]
    · rw [zct_no (h b (by omega) (by omega))]
      exact zct_none (by omega) (fun i h1 h2 => h i h1 (by omega))
theorem zCc_big {n s : Nat} {lo : Nat → Nat} (hs : 1 <<< n ≤ s) : zCc n lo (zTr n lo) s = 0 := by
  unfold zCc
  rw [if_neg]
  intro h
  unfold zChn at h
  rw [Bool.and_eq_true, decide_eq_true_eq] at h
  have hsub : ∀ i, n ≤ i → s.testBit i = false := fun i hi => by
    cases q : s.testBit i with
    | false => rfl
    | true =>
      have : (zan s (zFst n lo (zTr n lo))).testBit i = true := by
        rw [zan_bit, q, zFst_bit, decide_eq_false (show ¬ i < n by omega)]; rfl
      rw [h.1, Nat.zero_testBit] at this
      exact absurd this (by decide)
  have : s < 2 ^ n := Nat.lt_pow_two_of_testBit s hsub
  rw [Nat.shiftLeft_eq, Nat.one_mul] at hs
  omega
theorem cr_chainsOf {d r s n k : Nat} {h : zH} {S : zRS} {lo : Nat → Nat} (hS : zRs S s n lo) (hP : zPre n lo) (hk : 1 ≤ k) (hk8 : k < 16) : zCall (d + 5) 244 [.ref r, .int (nI s), .int (nI k)] (zRh h r S) (some (.int (nI (zNum (zCc n lo (zTr n lo)) k))), zRh h r S) := by
  have hs := hS.2.1
  have hn := hP.1
  have hpw := zpow_le hn
  unfold zNum
  generalize hQ : (fun s => decide (1 ≤ s) && decide (zCc n lo (zTr n lo) s = k)) = Q
  have hQx : ∀ s, 1 ≤ s → Q s = (decide (zcnt s = k) && zChn n lo (zTr n lo) s) := fun s hs => by
    rw [← hQ]
    show (decide (1 ≤ s) && decide (zCc n lo (zTr n lo) s = k)) = _
    rw [decide_eq_true hs, Bool.true_and, zCc]
    cases zChn n lo (zTr n lo) s with
    | true => rw [if_pos rfl, Bool.and_true]
    | false => rw [if_neg (by decide), Bool.and_false, decide_eq_false (by omega)]
  have hQ1 : zct Q 1 = 0 := by
    rw [zct_no]
    · rfl
    · rw [← hQ]; rfl
  have hQb : zct Q 256 = zct Q (1 <<< n) := zct_none (by omega) (fun i h1 h2 => by
    rw [← hQ]
    show (decide (1 ≤ i) && decide (zCc n lo (zTr n lo) i = k)) = false
    rw [zCc_big h1, decide_eq_false (show ¬ 0 = k by omega), Bool.and_false])
  rw [hQb]
  refine zG_m (t := tX10_chainsOf) (ls0 := [.ref r, .int (nI s), .int (nI k), .null, .null]) rfl rfl (zdnR (zdnI (zdnI zdn0))) rfl ?_
  refine zG_s rfl rfl ?_
  refine zN_st3 rfl (fun _ _ _ => rfl) rfl ?_
  refine zG_s rfl rfl ?_
  refine zN_st4 rfl (fun _ _ _ => rfl) rfl ?_
  have main5 : ∀ p, p ≤ 1 <<< n → 1 ≤ p → zGo (d + 4) tX10_chainsOf 5 [.ref r, .int (nI s), .int (nI k), .int (nI (zct Q p)), .int (nI p)] [] (zRh h r S) (some (.int (nI (zct Q (1 <<< n)))), zRh h r S) := by
    refine zdown (1 <<< n) ?_ (fun p hp5 ih5 => ?_)
    · skip
      intro hp1
      refine zG_s rfl rfl ?_
      refine zG_s rfl rfl ?_
      refine zG_s rfl rfl ?_
      refine zG_cV1 rfl rfl zRh_o rfl rfl (cr_all hS (by omega)) ?_
      refine zN_igt rfl (by omega) (by omega) (fun c1 => ?_) (fun c2 => absurd c2 (by omega))
      refine zG_s rfl rfl ?_
      -- leaf 1
      exact zG_ret rfl rfl rfl
    · skip
      intro hp1
      have hqx := hQx p hp1
      have hcl := zcnt_le p
      refine zG_s rfl rfl ?_
      refine zG_s rfl rfl ?_
      refine zG_s rfl rfl ?_
      refine zG_cV1 rfl rfl zRh_o rfl rfl (cr_all hS (by omega)) ?_
      refine zN_igt rfl (by omega) (by omega) (fun c3 => absurd c3 (by omega)) (fun c4 => ?_)
      refine zG_s rfl rfl ?_
      refine zG_s rfl rfl ?_
      refine zG_cS1 rfl rfl (cr_size (by omega)) ?_
      refine zG_s rfl rfl ?_
      refine zN_ine rfl (by omega) (by omega) (fun c5 => ?_) (fun c6 => ?_)
      · skip
        refine zG_s rfl rfl ?_
        refine zN_add rfl ?_
        refine zN_st3 rfl (fun _ _ _ => rfl) rfl ?_
        refine zN_inc4 rfl rfl ?_
        refine zG_s rfl rfl ?_
        -- leaf 2
        rw [zct_no (by rw [hqx, decide_eq_false c5]; rfl)] at ih5
        exact ih5 (by omega)
      · skip
        refine zG_s rfl rfl ?_
        refine zG_s rfl rfl ?_
        refine zG_s rfl rfl ?_
        refine zG_cV1 rfl rfl zRh_o rfl rfl (cr_isChain hS hP (by omega)) ?_
        first | refine zN_ifb rfl (fun c7 => ?_) (fun c8 => ?_) | refine zN_eq0 rfl (by omega) (fun c7 => ?_) (fun c8 => ?_)
        · skip
          refine zG_s rfl rfl ?_
          refine zN_add rfl ?_
          refine zN_st3 rfl (fun _ _ _ => rfl) rfl ?_
          refine zN_inc4 rfl rfl ?_
          refine zG_s rfl rfl ?_
          -- leaf 3
          rw [decide_eq_true (show p ≠ 0 by omega), Bool.true_and] at c7
          rw [zct_no (by rw [hqx, c7, Bool.and_false])] at ih5
          exact ih5 (by omega)
        · skip
          refine zG_s rfl rfl ?_
          refine zG_s rfl rfl ?_
          refine zN_add rfl ?_
          refine zN_st3 rfl (fun _ _ _ => rfl) rfl ?_
          refine zN_inc4 rfl rfl ?_
          refine zG_s rfl rfl ?_
          -- leaf 4
          rw [decide_eq_true (show p ≠ 0 by omega), Bool.true_and] at c8
          rw [zct_yes (by rw [hqx, c8, decide_eq_true c6]; rfl)] at ih5
          exact ih5 (by omega)
  have e0 := main5 1 (by omega) (Nat.le_refl 1)
  rw [hQ1] at e0
  exact e0
