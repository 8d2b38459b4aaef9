section ZR5L
variable {n : Nat} {lo : Nat → Nat}
theorem zBw_all (hP : zPre n lo) {x : Nat} (hx : x < n) : zBw lo (zTr n lo) x &&& (1 <<< n - 1) = zBw lo (zTr n lo) x := zext (fun i => by
  rw [Nat.testBit_and, zall_bit]
  cases q : (zBw lo (zTr n lo) x).testBit i with
  | false => rfl
  | true => rw [decide_eq_true ((zBw_in hP hx).mp q).1]; rfl)
theorem zAb_all {x : Nat} : zAb lo (zTr n lo) x &&& (1 <<< n - 1) = zAb lo (zTr n lo) x := zext (fun i => by
  rw [Nat.testBit_and, zall_bit, zAb, zan_bit, zTr_bit]
  cases decide (i < n) <;> simp)
theorem zAk_all (hP : zPre n lo) {x : Nat} (hx : x < n) : lo x &&& zTr n lo x &&& (1 <<< n - 1) = lo x &&& zTr n lo x := zext (fun i => by
  rw [Nat.testBit_and, zall_bit]
  cases q : (lo x &&& zTr n lo x).testBit i with
  | false => rfl
  | true => rw [decide_eq_true ((zAlk hP hx).mp q).1]; rfl)
theorem zBw_lt (hP : zPre n lo) {x : Nat} (hx : x < n) : zBw lo (zTr n lo) x < 256 := zan_lt _ (hP.b hx)
theorem zAb_lt (hP : zPre n lo) {x : Nat} : zAb lo (zTr n lo) x < 256 := zan_lt _ hP.h
theorem zle_bv : ∀ h, h < 16 → ∀ m, m < 16 → zc2 .le (nI h) (zbv m) = decide (h + 1 ≤ m) := by decide +kernel
theorem zbv_a1 : ∀ m, m < 16 → zbv m + nI 1 = nI m := by decide +kernel
theorem zIp_lt (hP : zPre n lo) {s : Nat} (hs : s < 256) : ∀ y, y ≤ n → zIp n lo s y < 256
  | 0, _ => hs
  | y + 1, hy => by
    rw [zIp]
    refine zor_lt8 (zIp_lt hP hs y (by omega)) ?_
    split
    · exact zor_lt8 (hP.b (by omega)) hP.h
    · decide
theorem zItp_lt (hP : zPre n lo) {s : Nat} (hs : s < 256) : ∀ k, zit (fun s => zIp n lo s n) k s < 256
  | 0 => hs
  | k + 1 => zIp_lt hP (zItp_lt hP hs k) n (Nat.le_refl _)
theorem b2n_and (a b : Bool) : b2n a &&& b2n b = b2n (a && b) := by cases a <;> cases b <;> rfl
end ZR5L
theorem cr_heightS {d r s n k x : Nat} {h : zH} {S : zRS} {lo : Nat → Nat} (hS : zRs S s n lo) (hP : zPre n lo) (hx : x < n) (hc : zcnt (zBw lo (zTr n lo) x) < k + 1)
    (ih : ∀ x, x < n → zcnt (zBw lo (zTr n lo) x) < k → zCall (d + k + 1) 184 [.ref r, .int (nI s), .int (nI x)] (zRh h r S) (some (.int (nI (zHgt n lo (zTr n lo) x))), zRh h r S)) :
    zCall (d + k + 2) 184 [.ref r, .int (nI s), .int (nI x)] (zRh h r S) (some (.int (nI (zHgt n lo (zTr n lo) x))), zRh h r S) := by
  have hs := hS.2.1
  have hn := hP.1
  have hbl := zBw_lt hP hx
  rw [zHgt_eq hP hx]
  have hFl : ∀ y, y < n → zHgf n lo x y ≤ 8 := fun y hy => by
    unfold zHgf
    have := zHgt_lt8 hP hy
    split <;> omega
  refine zG_m (t := tX10_heightOf) (ls0 := [.ref r, .int (nI s), .int (nI x), .null, .null, .null, .null]) rfl rfl (zdnR (zdnI (zdnI zdn0))) rfl ?_
  refine zG_s rfl rfl ?_
  refine zG_s rfl rfl ?_
  refine zG_s rfl rfl ?_
  refine zG_s rfl rfl ?_
  refine zG_s rfl rfl ?_
  refine zG_cV1 rfl rfl zRh_o rfl rfl (cr_all hS (by omega)) ?_
  refine zG_cV1 rfl rfl zRh_o rfl rfl (cr_under hS hP.1 hx) ?_
  rw [zBw_all hP hx]
  refine zN_st3 rfl (fun _ _ _ => rfl) rfl ?_
  refine zG_s rfl rfl ?_
  refine zN_st4 rfl (fun _ _ _ => rfl) rfl ?_
  refine zG_s rfl rfl ?_
  refine zN_st5 rfl (fun _ _ _ => rfl) rfl ?_
  have main18 : ∀ y, y ≤ n → ∀ x6 : Value, zGo (d + k + 1) tX10_heightOf 18 [.ref r, .int (nI s), .int (nI x), .int (nI (zBw lo (zTr n lo) x)), .int (zbv (zmx (zHgf n lo x) y)), .int (nI y), x6] [] (zRh h r S) (some (.int (nI (zmx (zHgf n lo x) n))), zRh h r S) := by
    refine zdown (n) ?_ (fun y hp18 ih18 => ?_)
    · skip
      intro x6
      have hm := zmx_le (n := n) (fun z hz => hFl z (by omega))
      refine zG_s rfl rfl ?_
      refine zG_s rfl rfl ?_
      refine zN_get rfl zRh_o rfl ?_
      refine zG_s rfl rfl ?_
      refine zR_ald (k := 3) (n := 10) rfl rfl (by omega) hS.1 ?_
      refine zN_ige rfl (by omega) (by omega) (fun c1 => ?_) (fun c2 => absurd c2 (by omega))
      refine zG_s rfl rfl ?_
      refine zG_s rfl rfl ?_
      refine zG_s rfl rfl ?_
      show zGoP _ _ _ _ [.int (zbv (zmx (zHgf n lo x) n) + nI 1)] _ _
      rw [zbv_a1 _ (by omega)]
      -- leaf 1
      exact zG_ret rfl rfl rfl
    · skip
      intro x6
      have hm := zmx_le (n := y) (fun z hz => hFl z (by omega))
      have hh := zHgt_lt8 hP hp18
      refine zG_s rfl rfl ?_
      refine zG_s rfl rfl ?_
      refine zN_get rfl zRh_o rfl ?_
      refine zG_s rfl rfl ?_
      refine zR_ald (k := 3) (n := 10) rfl rfl (by omega) hS.1 ?_
      refine zN_ige rfl (by omega) (by omega) (fun c3 => absurd c3 (by omega)) (fun c4 => ?_)
      refine zG_s rfl rfl ?_
      refine zG_s rfl rfl ?_
      refine zG_cS1 rfl rfl (cr_has _ (by omega) (by omega)) ?_
      first | refine zN_ifb rfl (fun c5 => ?_) (fun c6 => ?_) | refine zN_eq0 rfl (by omega) (fun c5 => ?_) (fun c6 => ?_)
      · skip
        refine zN_inc5 rfl rfl ?_
        refine zG_s rfl rfl ?_
        -- leaf 2
        have e : zmx (zHgf n lo x) (y + 1) = zmx (zHgf n lo x) y := by rw [zmx, zHgf, if_neg (by rw [c5]; decide)]; omega
        rw [e] at ih18
        exact ih18 _
      · skip
        refine zG_s rfl rfl ?_
        refine zG_s rfl rfl ?_
        refine zG_s rfl rfl ?_
        refine zG_cV1 rfl rfl zRh_o rfl rfl (ih y hp18 (by have := zBw_cnt hP hx (by assumption); omega)) ?_
        refine zN_st6 rfl (fun _ _ _ => rfl) rfl ?_
        refine zG_s rfl rfl ?_
        refine zG_s rfl rfl ?_
        refine zN_if2 rfl (fun c7 => ?_) (fun c8 => ?_)
        · skip
          refine zG_s rfl rfl ?_
          refine zN_st4 rfl (fun _ _ _ => rfl) rfl ?_
          refine zN_inc5 rfl rfl ?_
          refine zG_s rfl rfl ?_
          -- leaf 3
          rw [zle_bv _ (by omega) _ (by omega)] at c7
          have c7 := of_decide_eq_true c7
          have e : zmx (zHgf n lo x) (y + 1) = zmx (zHgf n lo x) y := by rw [zmx, zHgf, if_pos c6]; omega
          rw [e] at ih18
          exact ih18 _
        · skip
          refine zG_s rfl rfl ?_
          refine zG_s rfl rfl ?_
          refine zN_st4 rfl (fun _ _ _ => rfl) rfl ?_
          refine zN_inc5 rfl rfl ?_
          refine zG_s rfl rfl ?_
          -- leaf 4
          rw [zle_bv _ (by omega) _ (by omega)] at c8
          have c8 := of_decide_eq_false c8
          have e : zmx (zHgf n lo x) (y + 1) = zHgt n lo (zTr n lo) y + 1 := by rw [zmx, zHgf, if_pos c6]; omega
          rw [e, zbv_s] at ih18
          exact ih18 _
  exact main18 0 (by omega) _
theorem cr_heightK {d r s n : Nat} {h : zH} {S : zRS} {lo : Nat → Nat} (hS : zRs S s n lo) (hP : zPre n lo) : ∀ k x, x < n → zcnt (zBw lo (zTr n lo) x) < k → zCall (d + k + 1) 184 [.ref r, .int (nI s), .int (nI x)] (zRh h r S) (some (.int (nI (zHgt n lo (zTr n lo) x))), zRh h r S)
  | 0, _, _, hc => absurd hc (Nat.not_lt_zero _)
  | k + 1, x, hx, hc => cr_heightS hS hP hx hc (cr_heightK hS hP k)
theorem cr_heightOf {d r s n x : Nat} {h : zH} {S : zRS} {lo : Nat → Nat} (hS : zRs S s n lo) (hP : zPre n lo) (hx : x < n) : zCall (d + 9) 184 [.ref r, .int (nI s), .int (nI x)] (zRh h r S) (some (.int (nI (zHgt n lo (zTr n lo) x))), zRh h r S) := cr_heightK (d := d) hS hP 8 x hx (by have := zBw_c8 hP hx; omega)
theorem cr_partOf {d r s n x : Nat} {h : zH} {S : zRS} {lo : Nat → Nat} (hS : zRs S s n lo) (hP : zPre n lo) (hx : x < n) : zCall (d + 2) 185 [.ref r, .int (nI s), .int (nI x)] (zRh h r S) (some (.int (nI (zCmp n lo (zTr n lo) x))), zRh h r S) := by
  have hs := hS.2.1
  have hn := hP.1
  rw [← zIp_all hP hx]
  refine zG_m (t := tX10_partOf) (ls0 := [.ref r, .int (nI s), .int (nI x), .null, .null, .null]) rfl rfl (zdnR (zdnI (zdnI zdn0))) rfl ?_
  refine zG_s rfl rfl ?_
  refine zG_s rfl rfl ?_
  refine zN_shl rfl (by omega) ?_
  refine zN_st3 rfl (fun _ _ _ => rfl) rfl ?_
  refine zG_s rfl rfl ?_
  refine zN_st4 rfl (fun _ _ _ => rfl) rfl ?_
  have main7 : ∀ k, k ≤ 8 → ∀ x5 : Value, zGo (d + 1) tX10_partOf 7 [.ref r, .int (nI s), .int (nI x), .int (nI (zit (fun s => zIp n lo s n) k (1 <<< x))), .int (nI k), x5] [] (zRh h r S) (some (.int (nI (zit (fun s => zIp n lo s n) 8 (1 <<< x)))), zRh h r S) := by
    refine zdown (8) ?_ (fun k hp7 ih7 => ?_)
    · skip
      intro x5
      refine zG_s rfl rfl ?_
      refine zG_s rfl rfl ?_
      refine zN_ige rfl (by omega) (by omega) (fun c1 => ?_) (fun c2 => absurd c2 (by omega))
      refine zG_s rfl rfl ?_
      -- leaf 1
      exact zG_ret rfl rfl rfl
    · skip
      intro x5
      have hT := zItp_lt hP (s := 1 <<< x) (zsh1_lt (by omega)) k
      generalize hTT : zit (fun s => zIp n lo s n) k (1 <<< x) = T at *
      refine zG_s rfl rfl ?_
      refine zG_s rfl rfl ?_
      refine zN_ige rfl (by omega) (by omega) (fun c3 => absurd c3 (by omega)) (fun c4 => ?_)
      refine zG_s rfl rfl ?_
      refine zN_st5 rfl (fun _ _ _ => rfl) rfl ?_
      have main17 : ∀ y, y ≤ n → zGo (d + 1) tX10_partOf 17 [.ref r, .int (nI s), .int (nI x), .int (nI (zIp n lo T y)), .int (nI k), .int (nI y)] [] (zRh h r S) (some (.int (nI (zit (fun s => zIp n lo s n) 8 (1 <<< x)))), zRh h r S) := by
        refine zdown (n) ?_ (fun y hp17 ih17 => ?_)
        · skip
          refine zG_s rfl rfl ?_
          refine zG_s rfl rfl ?_
          refine zN_get rfl zRh_o rfl ?_
          refine zG_s rfl rfl ?_
          refine zR_ald (k := 3) (n := 10) rfl rfl (by omega) hS.1 ?_
          refine zN_ige rfl (by omega) (by omega) (fun c5 => ?_) (fun c6 => absurd c6 (by omega))
          refine zN_inc4 rfl rfl ?_
          refine zG_s rfl rfl ?_
          -- leaf 2
          rw [show zit (fun s => zIp n lo s n) (k + 1) (1 <<< x) = zIp n lo T n from by rw [zit, hTT]] at ih7
          exact ih7 _
        · skip
          have hI := zIp_lt hP hT y (by omega)
          refine zG_s rfl rfl ?_
          refine zG_s rfl rfl ?_
          refine zN_get rfl zRh_o rfl ?_
          refine zG_s rfl rfl ?_
          refine zR_ald (k := 3) (n := 10) rfl rfl (by omega) hS.1 ?_
          refine zN_ige rfl (by omega) (by omega) (fun c7 => absurd c7 (by omega)) (fun c8 => ?_)
          refine zG_s rfl rfl ?_
          refine zG_s rfl rfl ?_
          refine zG_s rfl rfl ?_
          refine zG_cS1 rfl rfl (cr_has _ (by omega) (by omega)) ?_
          first | refine zN_ifb rfl (fun c9 => ?_) (fun c10 => ?_) | refine zN_eq0 rfl (by omega) (fun c9 => ?_) (fun c10 => ?_)
          · skip
            refine zG_s rfl rfl ?_
            refine zN_or rfl ?_
            refine zN_st3 rfl (fun _ _ _ => rfl) rfl ?_
            refine zN_inc5 rfl rfl ?_
            refine zG_s rfl rfl ?_
            -- leaf 3
            rw [show zIp n lo T (y + 1) = zIp n lo T y ||| 0 from by rw [zIp, if_neg (by rw [c9]; decide)]] at ih17
            exact ih17
          · skip
            refine zG_s rfl rfl ?_
            refine zN_get rfl zRh_o rfl ?_
            refine zG_s rfl rfl ?_
            refine zG_s rfl rfl ?_
            refine zN_mul rfl ?_
            refine zG_s rfl rfl ?_
            refine zN_add rfl ?_
            refine zR_ald (k := 1) (n := 80) rfl rfl (by omega) (hS.2.2 _ (by omega)).1 ?_
            refine zG_s rfl rfl ?_
            refine zN_get rfl zRh_o rfl ?_
            refine zG_s rfl rfl ?_
            refine zG_s rfl rfl ?_
            refine zN_mul rfl ?_
            refine zG_s rfl rfl ?_
            refine zN_add rfl ?_
            refine zR_ald (k := 2) (n := 80) rfl rfl (by omega) (hS.2.2 _ (by omega)).2 ?_
            refine zN_or rfl ?_
            refine zG_s rfl rfl ?_
            refine zN_or rfl ?_
            refine zN_st3 rfl (fun _ _ _ => rfl) rfl ?_
            refine zN_inc5 rfl rfl ?_
            refine zG_s rfl rfl ?_
            -- leaf 4
            rw [show zIp n lo T (y + 1) = zIp n lo T y ||| (lo y ||| zTr n lo y) from by rw [zIp, if_pos c10]] at ih17
            exact ih17
      exact main17 0 (by omega)
  exact main7 0 (by omega) _
theorem cr_insideOf {d r s n p : Nat} {h : zH} {S : zRS} {lo : Nat → Nat} (hS : zRs S s n lo) (hP : zPre n lo) (hp : p < 256) : zCall (d + 2) 196 [.ref r, .int (nI s), .int (nI p)] (zRh h r S) (some (.int (nI (zIns n lo p))), zRh h r S) := by
  have hs := hS.2.1
  have hn := hP.1
  unfold zIns
  generalize hC : (fun x => p.testBit x && decide (zan (lo x) p = 0)) = C
  have hCx : ∀ x, C x = (p.testBit x && decide (zan (lo x) p = 0)) := fun x => by rw [← hC]
  refine zG_m (t := tX10_insideOf) (ls0 := [.ref r, .int (nI s), .int (nI p), .null, .null]) rfl rfl (zdnR (zdnI (zdnI zdn0))) rfl ?_
  refine zG_s rfl rfl ?_
  refine zN_st3 rfl (fun _ _ _ => rfl) rfl ?_
  refine zG_s rfl rfl ?_
  refine zN_st4 rfl (fun _ _ _ => rfl) rfl ?_
  have main5 : ∀ x, x ≤ n → zGo (d + 1) tX10_insideOf 5 [.ref r, .int (nI s), .int (nI p), .int (nI (zbits C x)), .int (nI x)] [] (zRh h r S) (some (.int (nI (zbits C n))), zRh h r S) := by
    refine zdown (n) ?_ (fun x hp5 ih5 => ?_)
    · skip
      refine zG_s rfl rfl ?_
      refine zG_s rfl rfl ?_
      refine zN_get rfl zRh_o rfl ?_
      refine zG_s rfl rfl ?_
      refine zR_ald (k := 3) (n := 10) rfl rfl (by omega) hS.1 ?_
      refine zN_ige rfl (by omega) (by omega) (fun c1 => ?_) (fun c2 => absurd c2 (by omega))
      refine zG_s rfl rfl ?_
      -- leaf 1
      exact zG_ret rfl rfl rfl
    · skip
      have hlx := hP.b hp5
      have hcx := hCx x
      refine zG_s rfl rfl ?_
      refine zG_s rfl rfl ?_
      refine zN_get rfl zRh_o rfl ?_
      refine zG_s rfl rfl ?_
      refine zR_ald (k := 3) (n := 10) rfl rfl (by omega) hS.1 ?_
      refine zN_ige rfl (by omega) (by omega) (fun c3 => absurd c3 (by omega)) (fun c4 => ?_)
      refine zG_s rfl rfl ?_
      refine zG_s rfl rfl ?_
      refine zG_s rfl rfl ?_
      refine zG_cS1 rfl rfl (cr_has _ (by omega) (by omega)) ?_
      first | refine zN_ifb rfl (fun c5 => ?_) (fun c6 => ?_) | refine zN_eq0 rfl (by omega) (fun c5 => ?_) (fun c6 => ?_)
      · skip
        refine zG_s rfl rfl ?_
        refine zN_or rfl ?_
        refine zN_st3 rfl (fun _ _ _ => rfl) rfl ?_
        refine zN_inc4 rfl rfl ?_
        refine zG_s rfl rfl ?_
        -- leaf 2
        rw [zbits_no (by rw [hcx, c5]; rfl), ← Nat.or_zero (zbits C x)] at ih5
        exact ih5
      · skip
        refine zG_s rfl rfl ?_
        refine zN_get rfl zRh_o rfl ?_
        refine zG_s rfl rfl ?_
        refine zG_s rfl rfl ?_
        refine zN_mul rfl ?_
        refine zG_s rfl rfl ?_
        refine zN_add rfl ?_
        refine zR_ald (k := 1) (n := 80) rfl rfl (by omega) (hS.2.2 _ (by omega)).1 ?_
        refine zG_s rfl rfl ?_
        refine zG_s rfl rfl ?_
        refine zN_not rfl ?_
        refine zN_andn rfl ?_
        refine zN_ne0 rfl (zan_lt _ (by omega)) (fun c7 => ?_) (fun c8 => ?_)
        · skip
          refine zG_s rfl rfl ?_
          refine zN_or rfl ?_
          refine zN_st3 rfl (fun _ _ _ => rfl) rfl ?_
          refine zN_inc4 rfl rfl ?_
          refine zG_s rfl rfl ?_
          -- leaf 3
          rw [zbits_no (by rw [hcx, decide_eq_false (by omega), Bool.and_false]), ← Nat.or_zero (zbits C x)] at ih5
          exact ih5
        · skip
          refine zG_s rfl rfl ?_
          refine zG_s rfl rfl ?_
          refine zN_shl rfl (by omega) ?_
          refine zG_s rfl rfl ?_
          refine zN_or rfl ?_
          refine zN_st3 rfl (fun _ _ _ => rfl) rfl ?_
          refine zN_inc4 rfl rfl ?_
          refine zG_s rfl rfl ?_
          -- leaf 4
          rw [zbits_yes (by rw [hcx, c6, decide_eq_true (by omega)]; rfl)] at ih5
          exact ih5
  exact main5 0 (by omega)
theorem cr_closureOf {d r s n p : Nat} {h : zH} {S : zRS} {lo : Nat → Nat} (hS : zRs S s n lo) (hP : zPre n lo) (hp : p < 256) : zCall (d + 2) 197 [.ref r, .int (nI s), .int (nI p)] (zRh h r S) (some (.int (nI (zClo9 n lo p))), zRh h r S) := by
  have hs := hS.2.1
  have hn := hP.1
  unfold zClo9
  generalize hC : (fun x => decide (lo x &&& p ≠ 0)) = C
  have hCx : ∀ x, C x = decide (lo x &&& p ≠ 0) := fun x => by rw [← hC]
  refine zG_m (t := tX10_closureOf) (ls0 := [.ref r, .int (nI s), .int (nI p), .null, .null]) rfl rfl (zdnR (zdnI (zdnI zdn0))) rfl ?_
  refine zG_s rfl rfl ?_
  refine zN_st3 rfl (fun _ _ _ => rfl) rfl ?_
  refine zG_s rfl rfl ?_
  refine zN_st4 rfl (fun _ _ _ => rfl) rfl ?_
  have main5 : ∀ x, x ≤ n → zGo (d + 1) tX10_closureOf 5 [.ref r, .int (nI s), .int (nI p), .int (nI (zbits C x)), .int (nI x)] [] (zRh h r S) (some (.int (nI (zbits C n))), zRh h r S) := by
    refine zdown (n) ?_ (fun x hp5 ih5 => ?_)
    · skip
      refine zG_s rfl rfl ?_
      refine zG_s rfl rfl ?_
      refine zN_get rfl zRh_o rfl ?_
      refine zG_s rfl rfl ?_
      refine zR_ald (k := 3) (n := 10) rfl rfl (by omega) hS.1 ?_
      refine zN_ige rfl (by omega) (by omega) (fun c1 => ?_) (fun c2 => absurd c2 (by omega))
      refine zG_s rfl rfl ?_
      -- leaf 1
      exact zG_ret rfl rfl rfl
    · skip
      have hlx := zand_lt p (hP.b hp5)
      have hcx := hCx x
      refine zG_s rfl rfl ?_
      refine zG_s rfl rfl ?_
      refine zN_get rfl zRh_o rfl ?_
      refine zG_s rfl rfl ?_
      refine zR_ald (k := 3) (n := 10) rfl rfl (by omega) hS.1 ?_
      refine zN_ige rfl (by omega) (by omega) (fun c3 => absurd c3 (by omega)) (fun c4 => ?_)
      refine zG_s rfl rfl ?_
      refine zG_s rfl rfl ?_
      refine zN_get rfl zRh_o rfl ?_
      refine zG_s rfl rfl ?_
      refine zG_s rfl rfl ?_
      refine zN_mul rfl ?_
      refine zG_s rfl rfl ?_
      refine zN_add rfl ?_
      refine zR_ald (k := 1) (n := 80) rfl rfl (by omega) (hS.2.2 _ (by omega)).1 ?_
      refine zG_s rfl rfl ?_
      refine zN_and rfl ?_
      refine zN_eq0 rfl (by omega) (fun c5 => ?_) (fun c6 => ?_)
      · skip
        refine zG_s rfl rfl ?_
        refine zN_or rfl ?_
        refine zN_st3 rfl (fun _ _ _ => rfl) rfl ?_
        refine zN_inc4 rfl rfl ?_
        refine zG_s rfl rfl ?_
        -- leaf 2
        rw [zbits_no (by rw [hcx, decide_eq_false (by omega)]), ← Nat.or_zero (zbits C x)] at ih5
        exact ih5
      · skip
        refine zG_s rfl rfl ?_
        refine zG_s rfl rfl ?_
        refine zN_shl rfl (by omega) ?_
        refine zG_s rfl rfl ?_
        refine zN_or rfl ?_
        refine zN_st3 rfl (fun _ _ _ => rfl) rfl ?_
        refine zN_inc4 rfl rfl ?_
        refine zG_s rfl rfl ?_
        -- leaf 3
        rw [zbits_yes (by rw [hcx, decide_eq_true (by omega)])] at ih5
        exact ih5
  exact main5 0 (by omega)
theorem cr_pairs {d r s n : Nat} {h : zH} {S : zRS} {lo : Nat → Nat} (hS : zRs S s n lo) (hP : zPre n lo) : zCall (d + 2) 199 [.ref r, .int (nI s)] (zRh h r S) (some (.int (nI (zStr n lo))), zRh h r S) := by
  have hs := hS.2.1
  have hn := hP.1
  unfold zStr
  generalize hF : (fun x => zcnt (zan (lo x) (zTr n lo x))) = F
  have hFx : ∀ x, zcnt (zBw lo (zTr n lo) x) = F x := fun x => by rw [← hF]; rfl
  refine zG_m (t := tX10_pairs) (ls0 := [.ref r, .int (nI s), .null, .null]) rfl rfl (zdnR (zdnI zdn0)) rfl ?_
  refine zG_s rfl rfl ?_
  refine zN_st2 rfl (fun _ _ _ => rfl) rfl ?_
  refine zG_s rfl rfl ?_
  refine zN_st3 rfl (fun _ _ _ => rfl) rfl ?_
  have main4 : ∀ x, x ≤ n → zGo (d + 1) tX10_pairs 4 [.ref r, .int (nI s), .int (nI (zsm F x)), .int (nI x)] [] (zRh h r S) (some (.int (nI (zsm F n))), zRh h r S) := by
    refine zdown (n) ?_ (fun x hp4 ih4 => ?_)
    · skip
      refine zG_s rfl rfl ?_
      refine zG_s rfl rfl ?_
      refine zN_get rfl zRh_o rfl ?_
      refine zG_s rfl rfl ?_
      refine zR_ald (k := 3) (n := 10) rfl rfl (by omega) hS.1 ?_
      refine zN_ige rfl (by omega) (by omega) (fun c1 => ?_) (fun c2 => absurd c2 (by omega))
      refine zG_s rfl rfl ?_
      -- leaf 1
      exact zG_ret rfl rfl rfl
    · skip
      refine zG_s rfl rfl ?_
      refine zG_s rfl rfl ?_
      refine zN_get rfl zRh_o rfl ?_
      refine zG_s rfl rfl ?_
      refine zR_ald (k := 3) (n := 10) rfl rfl (by omega) hS.1 ?_
      refine zN_ige rfl (by omega) (by omega) (fun c3 => absurd c3 (by omega)) (fun c4 => ?_)
      refine zG_s rfl rfl ?_
      refine zG_s rfl rfl ?_
      refine zG_s rfl rfl ?_
      refine zG_s rfl rfl ?_
      refine zG_s rfl rfl ?_
      refine zG_s rfl rfl ?_
      refine zG_cV1 rfl rfl zRh_o rfl rfl (cr_all hS (by omega)) ?_
      refine zG_cV1 rfl rfl zRh_o rfl rfl (cr_under hS hP.1 hp4) ?_
      rw [zBw_all hP hp4]
      refine zG_cS1 rfl rfl (cr_size (zBw_lt hP hp4)) ?_
      rw [hFx]
      refine zN_add rfl ?_
      refine zN_st2 rfl (fun _ _ _ => rfl) rfl ?_
      refine zN_inc3 rfl rfl ?_
      refine zG_s rfl rfl ?_
      -- leaf 2
      exact ih4
  exact main4 0 (by omega)
theorem cr_covers {d r s n : Nat} {h : zH} {S : zRS} {lo : Nat → Nat} (hS : zRs S s n lo) (hP : zPre n lo) : zCall (d + 2) 200 [.ref r, .int (nI s)] (zRh h r S) (some (.int (zTold n lo (zTr n lo) 2)), zRh h r S) := by
  have hs := hS.2.1
  have hn := hP.1
  show zCall _ _ _ _ (some (.int (nI (zsm (fun x => zct (fun y => (zan (lo x) (zTr n lo x)).testBit y && decide (zan (lo x) (zTr n lo x) &&& zan (zTr n lo y) (lo y) = 0)) n) n))), _)
  generalize hG : (fun x => fun y => (zan (lo x) (zTr n lo x)).testBit y && decide (zan (lo x) (zTr n lo x) &&& zan (zTr n lo y) (lo y) = 0)) = G
  have hGx : ∀ x y, G x y = ((zBw lo (zTr n lo) x).testBit y && decide (zBw lo (zTr n lo) x &&& zAb lo (zTr n lo) y = 0)) := fun x y => by rw [← hG]; rfl
  have hF : (fun x => zct (fun y => (zan (lo x) (zTr n lo x)).testBit y && decide (zan (lo x) (zTr n lo x) &&& zan (zTr n lo y) (lo y) = 0)) n) = (fun x => zct (G x) n) := by rw [← hG]
  rw [hF]
  refine zG_m (t := tX10_covers) (ls0 := [.ref r, .int (nI s), .null, .null, .null, .null]) rfl rfl (zdnR (zdnI zdn0)) rfl ?_
  refine zG_s rfl rfl ?_
  refine zN_st2 rfl (fun _ _ _ => rfl) rfl ?_
  refine zG_s rfl rfl ?_
  refine zN_st3 rfl (fun _ _ _ => rfl) rfl ?_
  have main4 : ∀ x, x ≤ n → ∀ x4 x5 : Value, zGo (d + 1) tX10_covers 4 [.ref r, .int (nI s), .int (nI (zsm (fun x => zct (G x) n) x)), .int (nI x), x4, x5] [] (zRh h r S) (some (.int (nI (zsm (fun x => zct (G x) n) n))), zRh h r S) := by
    refine zdown (n) ?_ (fun x hp4 ih4 => ?_)
    · skip
      intro x4 x5
      refine zG_s rfl rfl ?_
      refine zG_s rfl rfl ?_
      refine zN_get rfl zRh_o rfl ?_
      refine zG_s rfl rfl ?_
      refine zR_ald (k := 3) (n := 10) rfl rfl (by omega) hS.1 ?_
      refine zN_ige rfl (by omega) (by omega) (fun c1 => ?_) (fun c2 => absurd c2 (by omega))
      refine zG_s rfl rfl ?_
      -- leaf 1
      exact zG_ret rfl rfl rfl
    · skip
      intro x4 x5
      have hbl := zBw_lt hP hp4
      refine zG_s rfl rfl ?_
      refine zG_s rfl rfl ?_
      refine zN_get rfl zRh_o rfl ?_
      refine zG_s rfl rfl ?_
      refine zR_ald (k := 3) (n := 10) rfl rfl (by omega) hS.1 ?_
      refine zN_ige rfl (by omega) (by omega) (fun c3 => absurd c3 (by omega)) (fun c4 => ?_)
      refine zG_s rfl rfl ?_
      refine zG_s rfl rfl ?_
      refine zG_s rfl rfl ?_
      refine zG_s rfl rfl ?_
      refine zG_s rfl rfl ?_
      refine zG_cV1 rfl rfl zRh_o rfl rfl (cr_all hS (by omega)) ?_
      refine zG_cV1 rfl rfl zRh_o rfl rfl (cr_under hS hP.1 hp4) ?_
      rw [zBw_all hP hp4]
      refine zN_st4 rfl (fun _ _ _ => rfl) rfl ?_
      refine zG_s rfl rfl ?_
      refine zN_st5 rfl (fun _ _ _ => rfl) rfl ?_
      have main30 : ∀ y, y ≤ n → zGo (d + 1) tX10_covers 30 [.ref r, .int (nI s), .int (nI (zsm (fun x => zct (G x) n) x + zct (G x) y)), .int (nI x), .int (nI (zBw lo (zTr n lo) x)), .int (nI y)] [] (zRh h r S) (some (.int (nI (zsm (fun x => zct (G x) n) n))), zRh h r S) := by
        refine zdown (n) ?_ (fun y hp30 ih30 => ?_)
        · skip
          refine zG_s rfl rfl ?_
          refine zG_s rfl rfl ?_
          refine zN_get rfl zRh_o rfl ?_
          refine zG_s rfl rfl ?_
          refine zR_ald (k := 3) (n := 10) rfl rfl (by omega) hS.1 ?_
          refine zN_ige rfl (by omega) (by omega) (fun c5 => ?_) (fun c6 => absurd c6 (by omega))
          refine zN_inc3 rfl rfl ?_
          refine zG_s rfl rfl ?_
          -- leaf 2
          exact ih4 _ _
        · skip
          have hgx := hGx x y
          refine zG_s rfl rfl ?_
          refine zG_s rfl rfl ?_
          refine zN_get rfl zRh_o rfl ?_
          refine zG_s rfl rfl ?_
          refine zR_ald (k := 3) (n := 10) rfl rfl (by omega) hS.1 ?_
          refine zN_ige rfl (by omega) (by omega) (fun c7 => absurd c7 (by omega)) (fun c8 => ?_)
          refine zG_s rfl rfl ?_
          refine zG_s rfl rfl ?_
          refine zG_s rfl rfl ?_
          refine zG_cS1 rfl rfl (cr_has _ (by omega) (by omega)) ?_
          first | refine zN_ifb rfl (fun c9 => ?_) (fun c10 => ?_) | refine zN_eq0 rfl (by omega) (fun c9 => ?_) (fun c10 => ?_)
          · skip
            refine zG_s rfl rfl ?_
            refine zN_add rfl ?_
            refine zN_st2 rfl (fun _ _ _ => rfl) rfl ?_
            refine zN_inc5 rfl rfl ?_
            refine zG_s rfl rfl ?_
            -- leaf 3
            rw [zct_no (by rw [hgx, c9]; rfl)] at ih30
            exact ih30
          · skip
            refine zG_s rfl rfl ?_
            refine zG_s rfl rfl ?_
            refine zG_s rfl rfl ?_
            refine zG_s rfl rfl ?_
            refine zG_s rfl rfl ?_
            refine zG_s rfl rfl ?_
            refine zG_cV1 rfl rfl zRh_o rfl rfl (cr_all hS (by omega)) ?_
            refine zG_cV1 rfl rfl zRh_o rfl rfl (cr_over hS hP.1 hp30) ?_
            rw [zAb_all]
            refine zN_and rfl ?_
            refine zN_ne0 rfl (zand_lt _ (by omega)) (fun c11 => ?_) (fun c12 => ?_)
            · skip
              refine zG_s rfl rfl ?_
              refine zN_add rfl ?_
              refine zN_st2 rfl (fun _ _ _ => rfl) rfl ?_
              refine zN_inc5 rfl rfl ?_
              refine zG_s rfl rfl ?_
              -- leaf 4
              rw [zct_no (by rw [hgx, decide_eq_false (by omega), Bool.and_false])] at ih30
              exact ih30
            · skip
              refine zG_s rfl rfl ?_
              refine zG_s rfl rfl ?_
              refine zN_add rfl ?_
              refine zN_st2 rfl (fun _ _ _ => rfl) rfl ?_
              refine zN_inc5 rfl rfl ?_
              refine zG_s rfl rfl ?_
              -- leaf 5
              rw [zct_yes (by rw [hgx, c10, decide_eq_true (by omega)]; rfl)] at ih30
              exact ih30
      exact main30 0 (by omega)
  exact main4 0 (by omega) _ _
