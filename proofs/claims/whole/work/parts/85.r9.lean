theorem zGx_LB {n p : Nat} {lo : Nat → Nat} : zGx n lo 3 0 p = if zLB n lo (zTr n lo) p < n then zLB n lo (zTr n lo) p + 1 else 0 := by
  have h1 : zLB n lo (zTr n lo) p = zfs (fun x => (zGoers n lo (zTr n lo) 3 p).testBit x) n := zfs_cong9 (fun i hi => by
    rw [zGoers, zbits_bit, decide_eq_true hi]; rfl)
  have h2 := zCh_first (p := fun x => zPri lo (zTr n lo) 3 x p) (G := zGoers n lo (zTr n lo) 3 p) n
  rw [← h1] at h2
  exact h2
theorem zRtr_T {n : Nat} {lo : Nat → Nat} (hP : zPre n lo) : ∃ T, T < 8 ∧ ¬ zLB n lo (zTr n lo) (zRtr n lo (zTr n lo) T).1 < n ∧ (∀ j, j < T → zLB n lo (zTr n lo) (zRtr n lo (zTr n lo) j).1 < n) ∧ zRtr n lo (zTr n lo) 8 = zRtr n lo (zTr n lo) T := by
  have hpw := zpow_le hP.1
  generalize hp : (fun j => !decide (zLB n lo (zTr n lo) (zRtr n lo (zTr n lo) j).1 < n)) = P
  have hPx : ∀ j, P j = !decide (zLB n lo (zTr n lo) (zRtr n lo (zTr n lo) j).1 < n) := fun j => by rw [← hp]
  have hf : ∀ j, P j = false → zLB n lo (zTr n lo) (zRtr n lo (zTr n lo) j).1 < n := fun j h => by
    rw [hPx] at h
    by_cases e : zLB n lo (zTr n lo) (zRtr n lo (zTr n lo) j).1 < n
    · exact e
    · rw [decide_eq_false e] at h; exact absurd h (by decide)
  have hlt : zfs P 8 < 8 := by
    refine Classical.byContradiction (fun c => ?_)
    have h1 := zfs_no (show zfs P 8 = 8 by have := zfs_le P 8; omega)
    refine zSts_end (n := n) (s := 1 <<< n - 1) hP.rf (by omega) (fun j hj => ?_)
    rw [← zRtr_fst]
    exact hf j (h1 j hj)
  obtain ⟨s1, s2⟩ := zfs_spec hlt
  have s1 : ¬ zLB n lo (zTr n lo) (zRtr n lo (zTr n lo) (zfs P 8)).1 < n := fun g => by rw [hPx, decide_eq_true g] at s1; exact absurd s1 (by decide)
  refine ⟨zfs P 8, hlt, s1, fun j hj => hf j (s2 j hj), ?_⟩
  have hst : ∀ k, zRtr n lo (zTr n lo) (zfs P 8 + k) = zRtr n lo (zTr n lo) (zfs P 8) := fun k => by
    induction k with
    | zero => rfl
    | succ k ih =>
      show (if zLB n lo (zTr n lo) (zRtr n lo (zTr n lo) (zfs P 8 + k)).1 < n then _ else zRtr n lo (zTr n lo) (zfs P 8 + k)) = _
      rw [ih, if_neg s1]
  have := hst (8 - zfs P 8)
  rwa [show zfs P 8 + (8 - zfs P 8) = 8 by omega] at this
theorem zRtr_im8 {n : Nat} {lo hi : Nat → Nat} (hn : n ≤ 8) : ∀ i p, p < 8 → (zRtr n lo hi i).2 p < 256
  | 0, p, h => by show p < 256; omega
  | i + 1, p, h => by
    have ih := zRtr_im8 (n := n) (lo := lo) (hi := hi) hn i p h
    rw [zRtr]
    split
    · rename_i h1
      show (if (zRtr n lo hi i).2 p = zLB n lo hi (zRtr n lo hi i).1 then zHost n lo hi (zLB n lo hi (zRtr n lo hi i).1) (zRtr n lo hi i).1 else (zRtr n lo hi i).2 p) < 256
      split
      · have := zHost_lt (zhigh (zRtr_lt n lo hi i)) (zLB_bt h1).2
        omega
      · exact ih
    · exact ih
theorem cr_upon {d r s n x p : Nat} {h : zH} {S : zRS} {lo : Nat → Nat} (hS : zRs S s n lo) (hP : zPre n lo) (hx : x < n) (hp : p < 256) (hbt : zBt n lo (zTr n lo) x p = true) : zCall (d + 3) 217 [.ref r, .int (nI s), .int (nI x), .int (nI p)] (zRh h r S) (some (.int (nI (zHost n lo (zTr n lo) x p))), zRh h r S) := by
  have hs := hS.2.1
  have hn := hP.1
  have hw : zTw lo (zTr n lo) x &&& p < 256 := zand_lt' _ hp
  have hwn : ∀ i, (zTw lo (zTr n lo) x &&& p).testBit i = true → i < n := fun i hi => by
    rw [Nat.testBit_and, zTw, zan_bit, Bool.and_eq_true, Bool.and_eq_true] at hi
    exact ((zAlk hP hx).mp hi.1.1).1
  refine zG_m (t := tX10_upon) (ls0 := [.ref r, .int (nI s), .int (nI x), .int (nI p), .null, .null]) rfl rfl (zdnR (zdnI (zdnI (zdnI zdn0)))) rfl ?_
  refine zG_s rfl rfl ?_
  refine zG_s rfl rfl ?_
  refine zG_s rfl rfl ?_
  refine zG_s rfl rfl ?_
  refine zG_cV1 rfl rfl zRh_o rfl rfl (cr_alikeTo hS hP.1 (by omega)) ?_
  refine zG_s rfl rfl ?_
  refine zG_s rfl rfl ?_
  refine zN_shl rfl (by omega) ?_
  refine zG_s rfl rfl ?_
  refine zN_not rfl ?_
  refine zN_andn rfl ?_
  rw [← zTw_p]
  refine zN_st4 rfl (fun _ _ _ => rfl) rfl ?_
  refine zG_s rfl rfl ?_
  refine zN_eq0 rfl (by omega) (fun c1 => ?_) (fun c2 => ?_)
  · skip
    refine zG_s rfl rfl ?_
    refine zG_s rfl rfl ?_
    refine zG_s rfl rfl ?_
    refine zG_s rfl rfl ?_
    refine zG_s rfl rfl ?_
    refine zG_s rfl rfl ?_
    refine zG_cV1 rfl rfl zRh_o rfl rfl (cr_under hS hP.1 (by omega)) ?_
    refine zG_s rfl rfl ?_
    refine zG_cV1 rfl rfl zRh_o rfl rfl (cr_end0 hS hP (zand_lt' _ hp)) ?_
    refine zN_st5 rfl (fun _ _ _ => rfl) rfl ?_
    refine zG_s rfl rfl ?_
    refine zN_zlt rfl (by omega) (fun c3 => ?_) (fun c4 => ?_)
    · skip
      refine zG_s rfl rfl ?_
      refine zG_s rfl rfl ?_
      refine zG_s rfl rfl ?_
      refine zG_s rfl rfl ?_
      refine zG_s rfl rfl ?_
      refine zG_s rfl rfl ?_
      refine zG_cV1 rfl rfl zRh_o rfl rfl (cr_over hS hP.1 (by omega)) ?_
      refine zG_s rfl rfl ?_
      refine zG_cV1 rfl rfl zRh_o rfl rfl (cr_end1 hS hP (zand_lt' _ hp)) ?_
      -- leaf 1
      have hk : zLk lo (zTr n lo) x p = false := by rw [zLk, decide_eq_false (by omega)]
      have hu : zHold n (zTr n lo) (zAb lo (zTr n lo) x &&& p) < n := by
        rw [zBt, zDn, zUp, hk, decide_eq_false c3] at hbt
        exact of_decide_eq_true hbt
      have h0 : ¬ zfs (fun y => (zTw lo (zTr n lo) x &&& p).testBit y) n < n := by
        rw [zfs_none (fun j _ => by rw [c1, Nat.zero_testBit])]
        omega
      rw [zix_lt hu, zHost, if_neg h0, if_neg c3]
      exact zG_ret rfl rfl rfl
    · skip
      refine zG_s rfl rfl ?_
      refine zG_s rfl rfl ?_
      -- leaf 2
      have h0 : ¬ zfs (fun y => (zTw lo (zTr n lo) x &&& p).testBit y) n < n := by
        rw [zfs_none (fun j _ => by rw [c1, Nat.zero_testBit])]
        omega
      rw [zix_lt c4, zHost, if_neg h0, if_pos c4]
      exact zG_ret rfl rfl rfl
  · skip
    refine zG_s rfl rfl ?_
    refine zG_cS1 rfl rfl (cr_least hw (by omega)) ?_
    -- leaf 3
    obtain ⟨l1, l2, l3⟩ := zLst_spec hw (by omega)
    have h0 : zfs (fun y => (zTw lo (zTr n lo) x &&& p).testBit y) n = zLst (zTw lo (zTr n lo) x &&& p) := zfs_at (hwn _ l2) l2 l3
    rw [zHost, h0, if_pos (hwn _ l2)]
    exact zG_ret rfl rfl rfl
theorem zRa_row0 {S1 : zRS} {k m : Nat} {f : Nat → Nat} {w : Int32} (hY : ∀ q, q < m → S1.2.1 k q = nI (f q)) (hw : w = nI (f m)) : ∀ q, q < m + 1 → (zRa S1 k m w).2.1 k q = nI (f q) := fun q hq => by
  by_cases e : q = m
  · rw [e, zRa_at, hw]
  · rw [zRa_ne (Or.inr e)]
    exact hY q (by omega)
theorem cr_retract {d r : Nat} {h : zH} {S : zRS} {s : zST} {a : Int32} (hr : 2 ≤ r) (hI : zRI S s) (hW : zWT s) : zCallP (d + 11) 218 [.ref r, .int a] (zRh h r S) (zROut h r (zo_retract s a)) := by
  refine zG_mP (t := tX10_retract) (ls0 := [.ref r, .int a, .null, .null, .null, .null]) rfl rfl (zdnR (zdnI zdn0)) rfl ?_
  refine zG_s rfl rfl ?_
  refine zG_cS1 rfl rfl cr_isSpace ?_
  refine zN_ifnb rfl (fun c1 => ?_) (fun c2 => ?_)
  · skip
    obtain ⟨i, hi, rfl⟩ := zin_of c1 (by omega)
    have hS0 := hI.sp i hi
    have hP := hW.1 i hi
    have hn8 := hP.1
    have hpw := zpow_le hn8
    have hi10 : i < 10 := by omega
    obtain ⟨T, hT8, hTn, hTl, hTe⟩ := zRtr_T hP
    have hrs : zo_retract s (nI i) = (nI (zMap (zRtr (s.1 i).1 (s.1 i).2 (zTr (s.1 i).1 (s.1 i).2) T).2 (s.1 i).1), s) := by rw [zo_retract, zb_i hi (by omega), hTe]
    generalize hnn : (s.1 i).1 = n at *
    generalize hll : (s.1 i).2 = lo at *
    rw [hrs]
    refine zG_s rfl rfl ?_
    refine zN_st2 rfl (fun _ _ _ => rfl) rfl ?_
    have main11 : ∀ x, x ≤ 8 → ∀ (S1 : zRS) (x3 x4 x5 : Value), zRF (fun k _ => k = 6) S S1 → (∀ q, q < x → S1.2.1 6 q = nI q) → zGoP (d + 10) tX10_retract 11 [.ref r, .int (nI i), .int (nI x), x3, x4, x5] [] (zRh h r S1) (zROut h r (nI (zMap (zRtr n lo (zTr n lo) T).2 n), s)) := by
      refine zdown (8) ?_ (fun x hp11 ih11 => ?_)
      · skip
        intro S1 x3 x4 x5 hF hA
        have hS := hS0.fr hn8 hF (fun k j g1 g2 => by unfold zRsp at g1; omega)
        refine zG_s rfl rfl ?_
        refine zG_s rfl rfl ?_
        refine zN_ige rfl (by omega) (by omega) (fun c3 => ?_) (fun c4 => absurd c4 (by omega))
        refine zG_s rfl rfl ?_
        refine zG_s rfl rfl ?_
        refine zG_cV1 rfl rfl zRh_o rfl rfl (cr_all hS (by omega)) ?_
        refine zN_st2 rfl (fun _ _ _ => rfl) rfl ?_
        refine zG_s rfl rfl ?_
        refine zG_s rfl rfl ?_
        refine zG_s rfl rfl ?_
        refine zG_s rfl rfl ?_
        refine zG_s rfl rfl ?_
        refine zG_cV1 rfl rfl zRh_o rfl rfl (cr_goesAll hS hP (by omega) (by omega) (by omega)) ?_
        refine zN_st3 rfl (fun _ _ _ => rfl) rfl ?_
        have main45 : ∀ i9, i9 ≤ T → ∀ (S1 : zRS) (x4 x5 : Value), zRF (fun k _ => k = 6) S S1 → (∀ q, q < 8 → S1.2.1 6 q = nI ((zRtr n lo (zTr n lo) i9).2 q)) → zGoP (d + 10) tX10_retract 45 [.ref r, .int (nI i), .int (nI (zRtr n lo (zTr n lo) i9).1), .int (zbv (zGx n lo 3 0 (zRtr n lo (zTr n lo) i9).1)), x4, x5] [] (zRh h r S1) (zROut h r (nI (zMap (zRtr n lo (zTr n lo) T).2 n), s)) := by
          refine zdown (T) ?_ (fun i9 hp45 ih45 => ?_)
          · skip
            intro S1 x4 x5 hF hA
            have hS := hS0.fr hn8 hF (fun k j g1 g2 => by unfold zRsp at g1; omega)
            have hgx := (zGx_LB (n := n) (lo := lo) (p := (zRtr n lo (zTr n lo) T).1)).trans (if_neg hTn)
            have hi8 : ∀ q, q < 8 → (zRtr n lo (zTr n lo) T).2 q < 256 := fun q hq => zRtr_im8 hn8 T q hq
            generalize hqq : zRtr n lo (zTr n lo) T = q9 at *
            refine zG_s rfl rfl ?_
            refine zN_ifbv rfl (by omega) (fun c5 => ?_) (fun c6 => absurd c6 (by omega))
            refine zG_s rfl rfl ?_
            refine zN_st4 rfl (fun _ _ _ => rfl) rfl ?_
            refine zG_s rfl rfl ?_
            refine zN_st5 rfl (fun _ _ _ => rfl) rfl ?_
            have main130 : ∀ x, x ≤ n → zGoP (d + 10) tX10_retract 130 [.ref r, .int (nI i), .int (nI q9.1), .int (zbv (zGx n lo 3 0 q9.1)), .int (nI (zor (fun x => q9.2 x <<< (3 * x)) x)), .int (nI x)] [] (zRh h r S1) (zROut h r (nI (zMap q9.2 n), s)) := by
              refine zdown (n) ?_ (fun x hp130 ih130 => ?_)
              · skip
                refine zG_s rfl rfl ?_
                refine zG_s rfl rfl ?_
                refine zN_get rfl zRh_o rfl ?_
                refine zG_s rfl rfl ?_
                refine zR_ald (k := 3) (n := 10) rfl rfl (by omega) hS.1 ?_
                refine zN_ige rfl (by omega) (by omega) (fun c7 => ?_) (fun c8 => absurd c8 (by omega))
                refine zG_s rfl rfl ?_
                -- leaf 1
                exact zG_ret rfl rfl (zRfin rfl (hI.fr hW hF (fun k j g => by unfold zScr; omega)))
              · skip
                refine zG_s rfl rfl ?_
                refine zG_s rfl rfl ?_
                refine zN_get rfl zRh_o rfl ?_
                refine zG_s rfl rfl ?_
                refine zR_ald (k := 3) (n := 10) rfl rfl (by omega) hS.1 ?_
                refine zN_ige rfl (by omega) (by omega) (fun c9 => absurd c9 (by omega)) (fun c10 => ?_)
                refine zG_s rfl rfl ?_
                refine zG_s rfl rfl ?_
                refine zN_get rfl zRh_o rfl ?_
                refine zG_s rfl rfl ?_
                refine zR_ald (k := 6) (n := 8) rfl rfl (by omega) (hA x (by omega)) ?_
                refine zG_s rfl rfl ?_
                refine zG_s rfl rfl ?_
                refine zN_mul rfl ?_
                refine zN_shl rfl (by omega) ?_
                refine zN_or rfl ?_
                refine zN_st4 rfl (fun _ _ _ => rfl) rfl ?_
                refine zN_inc5 rfl rfl ?_
                refine zG_s rfl rfl ?_
                -- leaf 2
                exact ih130
            exact main130 0 (by omega)
          · skip
            intro S1 x4 x5 hF hA
            have hS := hS0.fr hn8 hF (fun k j g1 g2 => by unfold zRsp at g1; omega)
            have bs := zRtr_lt n lo (zTr n lo) i9
            have hlt := hTl i9 hp45
            have hstep : zRtr n lo (zTr n lo) (i9 + 1) = if zLB n lo (zTr n lo) (zRtr n lo (zTr n lo) i9).1 < n then (zan (zRtr n lo (zTr n lo) i9).1 (1 <<< zLB n lo (zTr n lo) (zRtr n lo (zTr n lo) i9).1), fun p => if (zRtr n lo (zTr n lo) i9).2 p = zLB n lo (zTr n lo) (zRtr n lo (zTr n lo) i9).1 then zHost n lo (zTr n lo) (zLB n lo (zTr n lo) (zRtr n lo (zTr n lo) i9).1) (zRtr n lo (zTr n lo) i9).1 else (zRtr n lo (zTr n lo) i9).2 p) else zRtr n lo (zTr n lo) i9 := rfl
            rw [if_pos hlt] at hstep
            have him := zRtr_im (n := n) (lo := lo) (hi := zTr n lo) i9
            have hi8 : ∀ q, q < 8 → (zRtr n lo (zTr n lo) i9).2 q < 256 := fun q hq => zRtr_im8 hn8 i9 q hq
            rw [hstep] at ih45
            clear hstep
            have hbt := zLB_bt hlt
            have hgx := (zGx_LB (n := n) (lo := lo) (p := (zRtr n lo (zTr n lo) i9).1)).trans (if_pos hlt)
            generalize zRtr n lo (zTr n lo) i9 = q9 at *
            obtain ⟨p9, I9⟩ := q9
            simp only at *
            have hhl := zHost_lt (zhigh bs) hbt.2
            generalize zLB n lo (zTr n lo) p9 = y at *
            refine zG_s rfl rfl ?_
            refine zN_ifbv rfl (by omega) (fun c11 => absurd c11 (by omega)) (fun c12 => ?_)
            rw [hgx, zbv_s]
            refine zG_s rfl rfl ?_
            refine zG_s rfl rfl ?_
            refine zG_s rfl rfl ?_
            refine zG_s rfl rfl ?_
            refine zG_cV1 rfl rfl zRh_o rfl rfl (cr_upon hS hP hlt (by omega) hbt.2) ?_
            refine zN_st4 rfl (fun _ _ _ => rfl) rfl ?_
            refine zG_s rfl rfl ?_
            refine zN_st5 rfl (fun _ _ _ => rfl) rfl ?_
            have main61 : ∀ q, q ≤ 8 → ∀ S2 : zRS, zRF (fun k _ => k = 6) S S2 → (∀ q2, q2 < q → S2.2.1 6 q2 = nI (if I9 q2 = y then zHost n lo (zTr n lo) y p9 else I9 q2)) → (∀ q2, q ≤ q2 → q2 < 8 → S2.2.1 6 q2 = nI (I9 q2)) → zGoP (d + 10) tX10_retract 61 [.ref r, .int (nI i), .int (nI p9), .int (nI y), .int (nI (zHost n lo (zTr n lo) y p9)), .int (nI q)] [] (zRh h r S2) (zROut h r (nI (zMap (zRtr n lo (zTr n lo) T).2 n), s)) := by
              refine zdown (8) ?_ (fun q hp61 ih61 => ?_)
              · skip
                intro S2 hF2 hA2 hB2
                have hS := hS0.fr hn8 hF2 (fun k j g1 g2 => by unfold zRsp at g1; omega)
                have hzl := zan_lt (1 <<< y) bs
                refine zG_s rfl rfl ?_
                refine zG_s rfl rfl ?_
                refine zN_ige rfl (by omega) (by omega) (fun c13 => ?_) (fun c14 => absurd c14 (by omega))
                refine zG_s rfl rfl ?_
                refine zG_s rfl rfl ?_
                refine zG_s rfl rfl ?_
                refine zN_shl rfl (by omega) ?_
                refine zG_s rfl rfl ?_
                refine zN_not rfl ?_
                refine zN_andn rfl ?_
                refine zN_st2 rfl (fun _ _ _ => rfl) rfl ?_
                refine zG_s rfl rfl ?_
                refine zG_s rfl rfl ?_
                refine zG_s rfl rfl ?_
                refine zG_s rfl rfl ?_
                refine zG_s rfl rfl ?_
                refine zG_cV1 rfl rfl zRh_o rfl rfl (cr_goesAll hS hP (by omega) (by omega) (by omega)) ?_
                refine zN_st3 rfl (fun _ _ _ => rfl) rfl ?_
                refine zG_s rfl rfl ?_
                -- leaf 3
                exact ih45 _ _ _ hF2 hA2
              · skip
                intro S2 hF2 hA2 hB2
                have hi8q := hi8 q hp61
                refine zG_s rfl rfl ?_
                refine zG_s rfl rfl ?_
                refine zN_ige rfl (by omega) (by omega) (fun c15 => absurd c15 (by omega)) (fun c16 => ?_)
                refine zG_s rfl rfl ?_
                refine zN_get rfl zRh_o rfl ?_
                refine zG_s rfl rfl ?_
                refine zG_s rfl rfl ?_
                refine zN_get rfl zRh_o rfl ?_
                refine zG_s rfl rfl ?_
                refine zR_ald (k := 6) (n := 8) rfl rfl (by omega) (hB2 q (Nat.le_refl _) hp61) ?_
                refine zG_s rfl rfl ?_
                refine zN_ine rfl (by omega) (by omega) (fun c17 => ?_) (fun c18 => ?_)
                · skip
                  refine zG_s rfl rfl ?_
                  refine zN_get rfl zRh_o rfl ?_
                  refine zG_s rfl rfl ?_
                  refine zR_ald (k := 6) (n := 8) rfl rfl (by omega) (hB2 q (Nat.le_refl _) hp61) ?_
                  refine zR_ast (k := 6) (n := 8) rfl rfl (by omega) hr ?_
                  refine zN_inc5 rfl rfl ?_
                  refine zG_s rfl rfl ?_
                  -- leaf 4
                  refine ih61 _ (hF2.a rfl) (zRa_row0 hA2 (by show _ = nI (if I9 q = y then _ else I9 q); rw [if_neg c17])) (fun q2 h1 h2 => ?_)
                  rw [zRa_ne (Or.inr (by omega))]
                  exact hB2 q2 (by omega) h2
                · skip
                  refine zG_s rfl rfl ?_
                  refine zG_s rfl rfl ?_
                  refine zR_ast (k := 6) (n := 8) rfl rfl (by omega) hr ?_
                  refine zN_inc5 rfl rfl ?_
                  refine zG_s rfl rfl ?_
                  -- leaf 5
                  refine ih61 _ (hF2.a rfl) (zRa_row0 hA2 (by show _ = nI (if I9 q = y then _ else I9 q); rw [if_pos c18])) (fun q2 h1 h2 => ?_)
                  rw [zRa_ne (Or.inr (by omega))]
                  exact hB2 q2 (by omega) h2
            exact main61 0 (by omega) _ hF (fun q2 hq => absurd hq (Nat.not_lt_zero q2)) (fun q2 _ hq => hA q2 hq)
        exact main45 0 (by omega) _ _ _ hF hA
      · skip
        intro S1 x3 x4 x5 hF hA
        refine zG_s rfl rfl ?_
        refine zG_s rfl rfl ?_
        refine zN_ige rfl (by omega) (by omega) (fun c19 => absurd c19 (by omega)) (fun c20 => ?_)
        refine zG_s rfl rfl ?_
        refine zN_get rfl zRh_o rfl ?_
        refine zG_s rfl rfl ?_
        refine zG_s rfl rfl ?_
        refine zR_ast (k := 6) (n := 8) rfl rfl (by omega) hr ?_
        refine zN_inc2 rfl rfl ?_
        refine zG_s rfl rfl ?_
        -- leaf 6
        exact ih11 _ _ _ _ (hF.a rfl) (zRa_row0 (f := fun q => q) hA rfl)
    exact main11 0 (by omega) _ _ _ _ zRF.rf (fun q hq => absurd hq (Nat.not_lt_zero q))
  · skip
    refine zG_s rfl rfl ?_
    -- leaf 7
    exact zG_ret rfl rfl (zRfin (by rw [zo_retract, zb_no c2]) hI)
