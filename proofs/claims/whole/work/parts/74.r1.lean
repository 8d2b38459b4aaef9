def zbt (v a b : Int32) : Bool := !zc2 .lt v a && !zc2 .gt v b
theorem zbt_c {x : Int32} {n : Nat} (hn : n + 1 < 2 ^ 31) : zbt x (nI 0) (nI n) = zin x (n + 1) := by
  unfold zbt
  cases h1 : zc2 .lt x (nI 0) with
  | true => rw [zraw_lt0 (show zc1 .lt x = true from h1)]; rfl
  | false => cases h2 : zc2 .gt x (nI n) with
    | true => rw [zraw_gt hn h2]; rfl
    | false => rw [zraw_in2 hn h1 h2]; rfl
theorem zbt_m {x : Int32} {n : Nat} (hn : n < 2 ^ 31) : zbt x (nI 0) (nI n - nI 1) = zin x n := by
  cases n with
  | zero =>
    unfold zbt
    have e : zin x 0 = false := by
      unfold zin
      cases q : decide (0 ≤ x.toInt) with
      | false => rfl
      | true => exact decide_eq_false (by have := of_decide_eq_true q; omega)
    rw [e]
    cases h1 : zc2 .lt x (nI 0) with
    | true => rfl
    | false =>
      have h2 : ¬ x < 0 := of_decide_eq_false h1
      have h3 : zc2 .gt x (nI 0 - nI 1) = true := by
        refine decide_eq_true (Int32.lt_iff_toInt_lt.mpr ?_)
        rw [Int32.lt_iff_toInt_lt] at h2
        have e1 : (nI 0 - nI 1).toInt = -1 := by decide
        have e2 : (0 : Int32).toInt = 0 := by decide
        omega
      rw [h3]; rfl
  | succ m =>
    rw [show nI (m + 1) - nI 1 = nI m from (pk_sub (by omega)).trans rfl]
    exact zbt_c hn
theorem cr_in {d : Nat} {h : zH} {v a b : Int32} : zCall (d + 1) 166 [.int v, .int a, .int b] h (some (.int (nI (b2n (zbt v a b)))), h) := by
  refine zG_m (t := tX10_in) (ls0 := [.int v, .int a, .int b]) rfl rfl (zdnI (zdnI (zdnI zdn0))) rfl ?_
  refine zG_s rfl rfl ?_
  refine zG_s rfl rfl ?_
  refine zN_if2 rfl (fun c1 => ?_) (fun c2 => ?_)
  · skip
    refine zG_s rfl rfl ?_
    -- leaf 1
    rw [show zbt v a b = false from by unfold zbt; rw [c1]; rfl]
    exact zG_ret rfl rfl rfl
  · skip
    refine zG_s rfl rfl ?_
    refine zG_s rfl rfl ?_
    refine zN_if2 rfl (fun c3 => ?_) (fun c4 => ?_)
    · skip
      refine zG_s rfl rfl ?_
      -- leaf 2
      rw [show zbt v a b = false from by unfold zbt; rw [c2, c3]; rfl]
      exact zG_ret rfl rfl rfl
    · skip
      refine zG_s rfl rfl ?_
      refine zG_s rfl rfl ?_
      -- leaf 3
      rw [show zbt v a b = true from by unfold zbt; rw [c2, c4]; rfl]
      exact zG_ret rfl rfl rfl
theorem cr_inc {d : Nat} {h : zH} {v : Int32} {n : Nat} (hn : n + 1 < 2 ^ 31 := by decide) : zCall (d + 1) 166 [.int v, .int (nI 0), .int (nI n)] h (some (.int (nI (b2n (zin v (n + 1))))), h) := by
  rw [← zbt_c hn]
  exact cr_in
theorem cr_inm {d : Nat} {h : zH} {v : Int32} {n : Nat} (hn : n < 2 ^ 31) : zCall (d + 1) 166 [.int v, .int (nI 0), .int (nI n - nI 1)] h (some (.int (nI (b2n (zin v n)))), h) := by
  rw [← zbt_m hn]
  exact cr_in
theorem cr_ins {d : Nat} {h : zH} {v : Int32} {n : Nat} (hn : n ≤ 8) : zCall (d + 1) 166 [.int v, .int (nI 0), .int (nI (1 <<< n - 1))] h (some (.int (nI (b2n (zin v (1 <<< n))))), h) := by
  have h2 := zpow_le hn
  have e := cr_inc (d := d) (h := h) (v := v) (n := 1 <<< n - 1) (by omega)
  rwa [show 1 <<< n - 1 + 1 = 1 <<< n by omega] at e
theorem cr_has {d : Nat} (h : zH) {s x : Nat} (hs : s < 2 ^ 31) (hx : x < 32) : zCall (d + 1) 167 [.int (nI s), .int (nI x)] h (some (.int (nI (b2n (s.testBit x)))), h) := by
  refine zG_m (t := tX10_has) (ls0 := [.int (nI s), .int (nI x)]) rfl rfl (zdnI (zdnI zdn0)) rfl ?_
  refine zG_s rfl rfl ?_
  refine zG_s rfl rfl ?_
  refine zN_shr rfl (by omega) (by omega) ?_
  refine zG_s rfl rfl ?_
  refine zN_and rfl ?_
  refine zG_s rfl rfl ?_
  rw [ztb1]
  refine zN_ine rfl (by split <;> omega) (by omega) (fun c1 => ?_) (fun c2 => ?_)
  · skip
    refine zG_s rfl rfl ?_
    -- leaf 1
    have e : s.testBit x = false := by
      cases q : s.testBit x with
      | false => rfl
      | true => rw [q] at c1; exact absurd rfl c1
    rw [e]
    exact zG_ret rfl rfl rfl
  · skip
    refine zG_s rfl rfl ?_
    refine zG_s rfl rfl ?_
    -- leaf 2
    have e : s.testBit x = true := by
      cases q : s.testBit x with
      | true => rfl
      | false => rw [q] at c2; exact absurd c2 (by decide)
    rw [e]
    exact zG_ret rfl rfl rfl
theorem cr_hasI {d : Nat} (h : zH) {x : Int32} {y : Nat} (hy : y < 32) : zCall (d + 1) 167 [.int x, .int (nI y)] h (some (.int (nI (b2n (zhb x y)))), h) := by
  refine zG_m (t := tX10_has) (ls0 := [.int x, .int (nI y)]) rfl rfl (zdnI (zdnI zdn0)) rfl ?_
  refine zG_s rfl rfl ?_
  refine zG_s rfl rfl ?_
  refine zG_s rfl rfl ?_
  refine zG_s rfl rfl ?_
  refine zG_s rfl rfl ?_
  show zGoP _ _ _ _ [.int ((x >>> (nI y &&& 31)) &&& nI 1)] _ _
  rw [zhas_i x y hy]
  refine zG_s rfl rfl ?_
  refine zN_ine rfl (by have := b2n_le (zhb x y); omega) (by omega) (fun c1 => ?_) (fun c2 => ?_)
  · skip
    refine zG_s rfl rfl ?_
    -- leaf 1
    have e : zhb x y = false := by
      cases q : zhb x y with
      | false => rfl
      | true => rw [q] at c1; exact absurd rfl c1
    rw [e]
    exact zG_ret rfl rfl rfl
  · skip
    refine zG_s rfl rfl ?_
    refine zG_s rfl rfl ?_
    -- leaf 2
    have e : zhb x y = true := by
      cases q : zhb x y with
      | true => rfl
      | false => rw [q] at c2; exact absurd c2 (by decide)
    rw [e]
    exact zG_ret rfl rfl rfl
theorem cr_size {d : Nat} {h : zH} {s : Nat} (hs : s < 256) : zCall (d + 1) 168 [.int (nI s)] h (some (.int (nI (zcnt s))), h) := by
  refine zG_m (t := tX10_size) (ls0 := [.int (nI s), .null, .null]) rfl rfl (zdnI zdn0) rfl ?_
  have main : ∀ w, w < 256 → ∀ k, k + zcnt w = zcnt s → zGo d tX10_size 4 [.int (nI s), .int (nI k), .int (nI w)] [] h (some (.int (nI (zcnt s))), h) := by
    intro w
    induction w using Nat.strongRecOn with
    | _ w ih =>
      intro hw k e
      refine zG_s rfl rfl ?_
      -- at 5: .ifCond .eq 15
      refine zN_eq0 rfl (by omega) (fun c => ?_) (fun c => ?_)
      · refine zG_s rfl rfl ?_
        -- at 21: .ireturn
        subst c
        rw [← e]
        exact zG_ret rfl rfl rfl
      · have h9 := zcnt_step w hw (by omega)
        refine zN_inc1 rfl rfl ?_
        refine zG_s rfl rfl ?_
        refine zG_s rfl rfl ?_
        refine zG_s rfl rfl ?_
        refine zN_sub rfl (by omega) ?_
        refine zN_and rfl ?_
        refine zN_st2 rfl (fun _ _ _ => rfl) rfl ?_
        refine zG_s rfl rfl ?_
        -- at 4: .iload_n 2
        exact ih _ h9.1 (by omega) (k + 1) (by omega)
  refine zG_s rfl rfl ?_
  refine zN_st1 rfl (fun _ _ _ => rfl) rfl ?_
  refine zG_s rfl rfl ?_
  refine zN_st2 rfl (fun _ _ _ => rfl) rfl ?_
  -- at 4: .iload_n 2
  exact main s hs 0 (by omega)
def zLst (s : Nat) : Nat := zfs (fun i => s.testBit i) 8
theorem zLst_spec {s : Nat} (hs : s < 256) (h0 : s ≠ 0) : zLst s < 8 ∧ s.testBit (zLst s) = true ∧ ∀ j, j < zLst s → s.testBit j = false := by
  obtain ⟨i, hi⟩ := zbit_of h0
  have h8 : i < 8 := zbit_lt8 hs hi
  have hl : zLst s < 8 := by
    refine Classical.byContradiction (fun c => ?_)
    have e : zfs (fun i => s.testBit i) 8 = 8 := by have := zfs_le (fun i => s.testBit i) 8; unfold zLst at c; omega
    have := zfs_no e i h8
    rw [hi] at this
    exact absurd this (by decide)
  exact ⟨hl, zfs_spec (p := fun i => s.testBit i) hl⟩
theorem cr_least {d : Nat} {h : zH} {s : Nat} (hs : s < 256) (h0 : s ≠ 0) : zCall (d + 2) 169 [.int (nI s)] h (some (.int (nI (zLst s))), h) := by
  obtain ⟨hl, hb, hn⟩ := zLst_spec hs h0
  refine zG_m (t := tX10_least) (ls0 := [.int (nI s), .null]) rfl rfl (zdnI zdn0) rfl ?_
  have main : ∀ k, k ≤ zLst s → zGo (d + 1) tX10_least 2 [.int (nI s), .int (nI k)] [] h (some (.int (nI (zLst s))), h) := by
    refine zdown (zLst s) ?_ (fun k hk ih => ?_)
    · refine zG_s rfl rfl ?_
      refine zG_s rfl rfl ?_
      -- at 4: .invokestatic 91
      refine zG_cS1 rfl rfl (cr_has _ (by omega) (by omega)) ?_
      refine zN_ifnb rfl (fun c => ?_) (fun c => absurd hb (by rw [c]; decide))
      refine zG_s rfl rfl ?_
      -- at 17: .ireturn
      exact zG_ret rfl rfl rfl
    · refine zG_s rfl rfl ?_
      refine zG_s rfl rfl ?_
      -- at 4: .invokestatic 91
      refine zG_cS1 rfl rfl (cr_has _ (by omega) (by omega)) ?_
      refine zN_ifnb rfl (fun c => absurd (hn k hk) (by rw [c]; decide)) (fun c => ?_)
      refine zN_inc1 rfl rfl ?_
      refine zG_s rfl rfl ?_
      -- at 2: .iload_n 0
      exact ih
  refine zG_s rfl rfl ?_
  refine zN_st1 rfl (fun _ _ _ => rfl) rfl ?_
  -- at 2: .iload_n 0
  exact main 0 (by omega)
theorem cr_isSpace {d : Nat} {h : zH} {v : Int32} : zCall (d + 2) 170 [.int v] h (some (.int (nI (b2n (zin v 6)))), h) := by
  refine zG_m (t := tX10_isSpace) (ls0 := [.int v]) rfl rfl (zdnI zdn0) rfl ?_
  refine zG_s rfl rfl ?_
  refine zG_s rfl rfl ?_
  refine zG_s rfl rfl ?_
  refine zG_cS1 rfl rfl cr_inc ?_
  -- leaf 1
  exact zG_retb rfl (fun k => by cases k <;> rfl) rfl
theorem cr_isKind {d : Nat} {h : zH} {v : Int32} : zCall (d + 2) 174 [.int v] h (some (.int (nI (b2n (zin v 6)))), h) := by
  refine zG_m (t := tX10_isKind) (ls0 := [.int v]) rfl rfl (zdnI zdn0) rfl ?_
  refine zG_s rfl rfl ?_
  refine zG_s rfl rfl ?_
  refine zG_s rfl rfl ?_
  refine zG_cS1 rfl rfl cr_inc ?_
  -- leaf 1
  exact zG_retb rfl (fun k => by cases k <;> rfl) rfl
theorem cr_isPoint {d r s n : Nat} {h : zH} {S : zRS} {lo : Nat → Nat} {v : Int32} (hS : zRs S s n lo) (hn : n ≤ 8) : zCall (d + 2) 171 [.ref r, .int (nI s), .int v] (zRh h r S) (some (.int (nI (b2n (zin v n)))), zRh h r S) := by
  have hs := hS.2.1
  refine zG_m (t := tX10_isPoint) (ls0 := [.ref r, .int (nI s), .int v]) rfl rfl (zdnR (zdnI (zdnI zdn0))) rfl ?_
  refine zG_s rfl rfl ?_
  refine zG_s rfl rfl ?_
  refine zG_s rfl rfl ?_
  refine zN_get rfl zRh_o rfl ?_
  refine zG_s rfl rfl ?_
  refine zR_ald (k := 3) (n := 10) rfl rfl (by omega) hS.1 ?_
  refine zG_s rfl rfl ?_
  refine zG_s rfl rfl ?_
  refine zG_cS1 rfl rfl (cr_inm (by omega)) ?_
  -- leaf 1
  exact zG_retb rfl (fun k => by cases k <;> rfl) rfl
theorem cr_all {d r s n : Nat} {h : zH} {S : zRS} {lo : Nat → Nat} (hS : zRs S s n lo) (hn : n ≤ 8) : zCall (d + 1) 172 [.ref r, .int (nI s)] (zRh h r S) (some (.int (nI (1 <<< n - 1))), zRh h r S) := by
  have hs := hS.2.1
  have hp := zpow_le hn
  refine zG_m (t := tX10_all) (ls0 := [.ref r, .int (nI s)]) rfl rfl (zdnR (zdnI zdn0)) rfl ?_
  refine zG_s rfl rfl ?_
  refine zG_s rfl rfl ?_
  refine zN_get rfl zRh_o rfl ?_
  refine zG_s rfl rfl ?_
  refine zR_ald (k := 3) (n := 10) rfl rfl (by omega) hS.1 ?_
  refine zN_shl rfl (by omega) ?_
  refine zG_s rfl rfl ?_
  refine zN_sub rfl (by omega) ?_
  -- leaf 1
  exact zG_ret rfl rfl rfl
theorem cr_isSet {d r s n : Nat} {h : zH} {S : zRS} {lo : Nat → Nat} {v : Int32} (hS : zRs S s n lo) (hn : n ≤ 8) : zCall (d + 2) 173 [.ref r, .int (nI s), .int v] (zRh h r S) (some (.int (nI (b2n (zin v (1 <<< n))))), zRh h r S) := by
  have hs := hS.2.1
  refine zG_m (t := tX10_isSet) (ls0 := [.ref r, .int (nI s), .int v]) rfl rfl (zdnR (zdnI (zdnI zdn0))) rfl ?_
  refine zG_s rfl rfl ?_
  refine zG_s rfl rfl ?_
  refine zG_s rfl rfl ?_
  refine zG_s rfl rfl ?_
  refine zG_cV1 rfl rfl zRh_o rfl rfl (cr_all hS (by omega)) ?_
  refine zG_cS1 rfl rfl (cr_ins (by omega)) ?_
  -- leaf 1
  exact zG_retb rfl (fun k => by cases k <;> rfl) rfl
