theorem zLst_ns {n k s m : Nat} {lo c : Nat → Nat} (hl : zClst (zCc n lo (zTr n lo)) k s m c) (h : zCc n lo (zTr n lo) s ≠ k) : zClst (zCc n lo (zTr n lo)) k (s + 1) m c := by
  refine ⟨by rw [hl.1]; exact (zct_no (by rw [decide_eq_false h, Bool.and_false])).symm, fun i hi => ?_⟩
  obtain ⟨a1, a2, a3, a4⟩ := hl.2 i hi
  exact ⟨a1, by omega, a3, a4⟩
theorem zLst_ys {n k s m : Nat} {lo c : Nat → Nat} (hl : zClst (zCc n lo (zTr n lo)) k s m c) (h1 : 1 ≤ s) (h : zCc n lo (zTr n lo) s = k) : zClst (zCc n lo (zTr n lo)) k (s + 1) (m + 1) (zupd c m s) := by
  refine ⟨by rw [hl.1]; exact (zct_yes (by rw [decide_eq_true h, decide_eq_true h1]; rfl)).symm, fun i hi => ?_⟩
  by_cases e : i = m
  · rw [e, zupd_at]
    exact ⟨h1, by omega, h, hl.1.symm⟩
  · rw [zupd_ne _ _ e]
    obtain ⟨a1, a2, a3, a4⟩ := hl.2 i (by omega)
    exact ⟨a1, by omega, a3, a4⟩
theorem zPlc_le {C : Nat → Nat} {k s : Nat} (h1 : 1 ≤ s) : zPlc C k s ≤ s - 1 := by
  have h0 : zPlc C k 1 = 0 := rfl
  have key : ∀ j, zPlc C k (1 + j) ≤ j := fun j => by
    induction j with
    | zero => rw [h0]; exact Nat.le_refl 0
    | succ j ih =>
      have e9 : zPlc C k (1 + (j + 1)) = zPlc C k (1 + j) + b2n (decide (1 ≤ 1 + j) && decide (C (1 + j) = k)) := rfl
      have := b2n_le (decide (1 ≤ 1 + j) && decide (C (1 + j) = k))
      omega
  have := key (s - 1)
  rwa [show 1 + (s - 1) = s by omega] at this
theorem cr_findsChains {d r s n k : Nat} {h : zH} {S : zRS} {lo : Nat → Nat} (hr : 2 ≤ r) (hS : zRs S s n lo) (hP : zPre n lo) (hk : 1 ≤ k) (hk9 : k < 16) : zCallP (d + 5) 247 [.ref r, .int (nI s), .int (nI k)] (zRh h r S) (zRV (.int (nI (zNum (zCc n lo (zTr n lo)) k))) (zRX h r S (fun k2 _ => k2 = 14) (fun S1 => ∃ c, zClst (zCc n lo (zTr n lo)) k 256 (zNum (zCc n lo (zTr n lo)) k) c ∧ ∀ i, i < zNum (zCc n lo (zTr n lo)) k → S1.2.1 14 i = nI (c i)))) := by
  have hs := hS.2.1
  have hn := hP.1
  have hpw := zpow_le hn
  refine zG_mP (t := tX10_findsChains) (ls0 := [.ref r, .int (nI s), .int (nI k), .null, .null]) rfl rfl (zdnR (zdnI (zdnI zdn0))) rfl ?_
  refine zG_s rfl rfl ?_
  refine zN_st3 rfl (fun _ _ _ => rfl) rfl ?_
  refine zG_s rfl rfl ?_
  refine zN_st4 rfl (fun _ _ _ => rfl) rfl ?_
  have main5 : ∀ p, p ≤ (1 <<< n) → ∀ (m : Nat) (c : Nat → Nat) (S1 : zRS), 1 ≤ p → zRF (fun k2 _ => k2 = 14) S S1 → zClst (zCc n lo (zTr n lo)) k p m c → (∀ i, i < m → S1.2.1 14 i = nI (c i)) → zGoP (d + 4) tX10_findsChains 5 [.ref r, .int (nI s), .int (nI k), .int (nI m), .int (nI p)] [] (zRh h r S1) (zRV (.int (nI (zNum (zCc n lo (zTr n lo)) k))) (zRX h r S (fun k2 _ => k2 = 14) (fun S1 => ∃ c, zClst (zCc n lo (zTr n lo)) k 256 (zNum (zCc n lo (zTr n lo)) k) c ∧ ∀ i, i < zNum (zCc n lo (zTr n lo)) k → S1.2.1 14 i = nI (c i)))) := by
    refine zdown ((1 <<< n)) ?_ (fun p hp5 ih5 => ?_)
    · skip
      intro m c S1 hp1 hF hl hA
      have hS := hS.fr hn hF (fun k2 j g1 g2 => by unfold zRsp at g1; omega)
      refine zG_s rfl rfl ?_
      refine zG_s rfl rfl ?_
      refine zG_s rfl rfl ?_
      refine zG_cV1 rfl rfl zRh_o rfl rfl (cr_all hS (by omega)) ?_
      refine zN_igt rfl (by omega) (by omega) (fun c1 => ?_) (fun c2 => absurd c2 (by omega))
      refine zG_s rfl rfl ?_
      -- leaf 1
      have hl2 := zClst_all hn hk hl
      have e : m = zNum (zCc n lo (zTr n lo)) k := hl2.1
      rw [e] at hl2 hA ⊢
      exact zG_ret rfl rfl ⟨rfl, S1, rfl, hF, c, hl2, hA⟩
    · skip
      intro m c S1 hp1 hF hl hA
      have hS := hS.fr hn hF (fun k2 j g1 g2 => by unfold zRsp at g1; omega)
      have hcl := zcnt_le p
      have hml : m < p := by have := zPlc_le (C := zCc n lo (zTr n lo)) (k := k) hp1; rw [hl.1]; omega
      have hck := @zCc_k n k lo p hk
      refine zG_s rfl rfl ?_
      refine zG_s rfl rfl ?_
      refine zG_s rfl rfl ?_
      refine zG_cV1 rfl rfl zRh_o rfl rfl (cr_all hS (by omega)) ?_
      refine zN_igt rfl (by omega) (by omega) (fun c3 => absurd c3 (by omega)) (fun c4 => ?_)
      refine zG_s rfl rfl ?_
      refine zG_cS1 rfl rfl (cr_size (by omega)) ?_
      refine zG_s rfl rfl ?_
      refine zN_ine rfl (by omega) (by omega) (fun c5 => ?_) (fun c6 => ?_)
      · skip
        refine zN_inc4 rfl rfl ?_
        refine zG_s rfl rfl ?_
        -- leaf 2
        exact ih5 m c S1 (by omega) hF (zLst_ns hl (fun g => c5 (hck.mp g).2)) hA
      · skip
        refine zG_s rfl rfl ?_
        refine zG_s rfl rfl ?_
        refine zG_s rfl rfl ?_
        refine zG_cV1 rfl rfl zRh_o rfl rfl (cr_isChain hS hP (by omega)) ?_
        first | refine zN_ifb rfl (fun c7 => ?_) (fun c8 => ?_) | refine zN_eq0 rfl (by omega) (fun c7 => ?_) (fun c8 => ?_)
        · skip
          refine zN_inc4 rfl rfl ?_
          refine zG_s rfl rfl ?_
          -- leaf 3
          rw [decide_eq_true (show p ≠ 0 by omega), Bool.true_and] at c7
          exact ih5 m c S1 (by omega) hF (zLst_ns hl (fun g => by rw [(hck.mp g).1] at c7; cases c7)) hA
        · skip
          refine zG_s rfl rfl ?_
          refine zN_get rfl zRh_o rfl ?_
          refine zG_s rfl rfl ?_
          refine zG_s rfl rfl ?_
          refine zR_ast (k := 14) (n := 256) rfl rfl (by omega) hr ?_
          refine zN_inc3 rfl rfl ?_
          refine zN_inc4 rfl rfl ?_
          refine zG_s rfl rfl ?_
          -- leaf 4
          rw [decide_eq_true (show p ≠ 0 by omega), Bool.true_and] at c8
          refine ih5 (m + 1) (zupd c m p) _ (by omega) (hF.a rfl) (zLst_ys hl hp1 (hck.mpr ⟨c8, c6⟩)) (fun i hi => ?_)
          by_cases e : i = m
          · rw [e, zRa_at, zupd_at]
          · rw [zRa_ne (Or.inr e), zupd_ne _ _ e]; exact hA i (by omega)
  exact main5 1 (by omega) 0 (fun _ => 0) S (Nat.le_refl 1) zRF.rf ⟨rfl, fun i hi => absurd hi (Nat.not_lt_zero i)⟩ (fun i hi => absurd hi (Nat.not_lt_zero i))
def zRrP (k j : Nat) : Prop := k = 14 ∨ k = 15
theorem cr_rankOf {d r s n k : Nat} {h : zH} {S : zRS} {lo : Nat → Nat} (hr : 2 ≤ r) (hS : zRs S s n lo) (hP : zPre n lo) (hn7 : n ≤ 7) (hk9 : k < 9) : zCallP (d + 6) 248 [.ref r, .int (nI s), .int (nI k)] (zRh h r S) (zRV (.int (nI (zRkC (zCc n lo (zTr n lo)) k))) (zRX h r S zRrP (fun _ => True))) := by
  have hs := hS.2.1
  have hn := hP.1
  have hpw := zpow_le hn
  refine zG_mP (t := tX10_rankOf) (ls0 := [.ref r, .int (nI s), .int (nI k), .null, .null, .null, .null, .null, .null, .null, .null]) rfl rfl (zdnR (zdnI (zdnI zdn0))) rfl ?_
  have jn15 : ∀ (m : Nat) (c : Nat → Nat) (S1 : zRS), m ≤ 63 → zRF zRrP S S1 → (m = 0 → zRkC (zCc n lo (zTr n lo)) k = 0) → (0 < m → 1 ≤ k ∧ zClst (zCc n lo (zTr n lo)) k 256 m c ∧ ∀ i, i < m → S1.2.1 14 i = nI (c i)) → zGoP (d + 5) tX10_rankOf 15 [.ref r, .int (nI s), .int (nI k), .null, .null, .null, .null, .null, .null, .null, .null] [.int (nI m)] (zRh h r S1) (zRV (.int (nI (zRkC (zCc n lo (zTr n lo)) k))) (zRX h r S zRrP (fun _ => True))) := by
    intro m c S1 hm63 hF hm0 hm1
    refine zN_st3 rfl (fun _ _ _ => rfl) rfl ?_
    refine zG_s rfl rfl ?_
    refine zN_st4 rfl (fun _ _ _ => rfl) rfl ?_
    refine zG_s rfl rfl ?_
    refine zN_st5 rfl (fun _ _ _ => rfl) rfl ?_
    have main22 : ∀ p, p ≤ (1 <<< n) → ∀ (rk : Nat) (x6 x7 x8 x9 x10 : Value) (S2 : zRS), 1 ≤ p → zRF zRrP S S2 → (rk = if m = 0 then 0 else (zR2 (zCc n lo (zTr n lo)) k p).1) → (0 < m → (∀ i, i < m → S2.2.1 14 i = nI (c i)) ∧ ∀ i, i < rk → S2.2.2 15 i = nL ((zR2 (zCc n lo (zTr n lo)) k p).2 i)) → zGoP (d + 5) tX10_rankOf 22 [.ref r, .int (nI s), .int (nI k), .int (nI m), .int (nI rk), .int (nI p), x6, x7, x8, x9, x10] [] (zRh h r S2) (zRV (.int (nI (zRkC (zCc n lo (zTr n lo)) k))) (zRX h r S zRrP (fun _ => True))) := by
      refine zdown ((1 <<< n)) ?_ (fun p hp22 ih22 => ?_)
      · skip
        intro rk x6 x7 x8 x9 x10 S2 hp1 hF hrk hA
        have hS := hS.fr hn hF (fun k2 j g1 g2 => by unfold zRsp at g1; unfold zRrP at g2; omega)
        refine zG_s rfl rfl ?_
        refine zG_s rfl rfl ?_
        refine zG_s rfl rfl ?_
        refine zG_cV1 rfl rfl zRh_o rfl rfl (cr_all hS (by omega)) ?_
        refine zN_igt rfl (by omega) (by omega) (fun c1 => ?_) (fun c2 => absurd c2 (by omega))
        refine zG_s rfl rfl ?_
        -- leaf 1
        have e : rk = zRkC (zCc n lo (zTr n lo)) k := by
          by_cases g : m = 0
          · rw [hrk, if_pos g, hm0 g]
          · rw [hrk, if_neg g, zR2_rank hn7 (hm1 (by omega)).1 hk9]
        exact zG_ret rfl rfl ⟨by rw [e], S2, rfl, hF, trivial⟩
      · skip
        intro rk x6 x7 x8 x9 x10 S2 hp1 hF hrk hA
        have hS := hS.fr hn hF (fun k2 j g1 g2 => by unfold zRsp at g1; unfold zRrP at g2; omega)
        have hcl := zcnt_le p
        refine zG_s rfl rfl ?_
        refine zG_s rfl rfl ?_
        refine zG_s rfl rfl ?_
        refine zG_cV1 rfl rfl zRh_o rfl rfl (cr_all hS (by omega)) ?_
        refine zN_igt rfl (by omega) (by omega) (fun c3 => absurd c3 (by omega)) (fun c4 => ?_)
        refine zG_s rfl rfl ?_
        refine zN_le0 rfl (by omega) (fun c5 => ?_) (fun c6 => ?_)
        · skip
          refine zG_s rfl rfl ?_
          -- leaf 2
          have e : rk = zRkC (zCc n lo (zTr n lo)) k := by rw [hrk, if_pos (by omega), hm0 (by omega)]
          exact zG_ret rfl rfl ⟨by rw [e], S2, rfl, hF, trivial⟩
        · skip
          rw [if_neg (show ¬ m = 0 by omega)] at hrk
          obtain ⟨hk1, hl, -⟩ := hm1 (by omega)
          obtain ⟨hA14, hA15⟩ := hA (by omega)
          have hck := @zCc_k n (k + 1) lo p (by omega)
          have hr2 := zR2_le (lo := lo) hn7 hk1 hk9 (show p ≤ 256 by omega)
          have hr3 := zR2_lt (lo := lo) hn7 hk1 hk9 p (by omega)
          have hr4 := zPlc_up (zCc n lo (zTr n lo)) (k + 1) (show p ≤ 256 by omega)
          have hr5 : zPlc (zCc n lo (zTr n lo)) (k + 1) 256 ≤ 63 := zCc_num (lo := lo) (hi := zTr n lo) hn7 (show 1 ≤ k + 1 by omega) (show k + 1 < 10 by omega)
          generalize hq9 : zR2 (zCc n lo (zTr n lo)) k p = q9 at *
          refine zG_s rfl rfl ?_
          refine zG_cS1 rfl rfl (cr_size (by omega)) ?_
          refine zG_s rfl rfl ?_
          refine zG_s rfl rfl ?_
          refine zN_add rfl ?_
          refine zN_ine rfl (by omega) (by omega) (fun c7 => ?_) (fun c8 => ?_)
          · skip
            refine zN_inc5 rfl rfl ?_
            refine zG_s rfl rfl ?_
            -- leaf 3
            have hz : zRw2 (zCc n lo (zTr n lo)) k p (zR2 (zCc n lo (zTr n lo)) k p) = 0 := by rw [zRw2, if_neg (fun g => c7 (hck.mp g.2).2)]
            have e := zR2_s hz
            rw [hq9] at e
            exact ih22 rk _ _ _ _ _ S2 (by omega) hF (by rw [if_neg (by omega), e]; exact hrk) (fun _ => ⟨hA14, by rw [e]; exact hA15⟩)
          · skip
            refine zG_s rfl rfl ?_
            refine zG_s rfl rfl ?_
            refine zG_s rfl rfl ?_
            refine zG_cV1 rfl rfl zRh_o rfl rfl (cr_isChain hS hP (by omega)) ?_
            first | refine zN_ifb rfl (fun c9 => ?_) (fun c10 => ?_) | refine zN_eq0 rfl (by omega) (fun c9 => ?_) (fun c10 => ?_)
            · skip
              refine zN_inc5 rfl rfl ?_
              refine zG_s rfl rfl ?_
              -- leaf 4
              rw [decide_eq_true (show p ≠ 0 by omega), Bool.true_and] at c9
              have hz : zRw2 (zCc n lo (zTr n lo)) k p (zR2 (zCc n lo (zTr n lo)) k p) = 0 := by rw [zRw2, if_neg (fun g => by rw [(hck.mp g.2).1] at c9; cases c9)]
              have e := zR2_s hz
              rw [hq9] at e
              exact ih22 rk _ _ _ _ _ S2 (by omega) hF (by rw [if_neg (by omega), e]; exact hrk) (fun _ => ⟨hA14, by rw [e]; exact hA15⟩)
            · skip
              rw [decide_eq_true (show p ≠ 0 by omega), Bool.true_and] at c10
              have hCp := hck.mpr ⟨c10, c8⟩
              have hbd : zBnd (zPlc (zCc n lo (zTr n lo)) k) p < 2 ^ 63 := zor_ltb (fun x hx => by
                split
                · next e3 =>
                  obtain ⟨-, b2, b3, b4⟩ := zCc_clo hk1 p (by omega) hCp x e3
                  have h5 := zPlc_lt b2 b3 b4
                  have h6 : zNum (zCc n lo (zTr n lo)) k = m := hl.1.symm
                  rw [Nat.one_shiftLeft]
                  exact Nat.pow_lt_pow_right (by decide) (by omega)
                · exact Nat.two_pow_pos 63)
              refine zG_s (st' := .long (nL 0) :: _) rfl rfl ?_
              refine zN_stl6 rfl (fun _ _ _ => rfl) rfl ?_
              refine zG_s rfl rfl ?_
              refine zN_st8 rfl (fun _ _ _ => rfl) rfl ?_
              have main63 : ∀ i, i ≤ m → zGoP (d + 5) tX10_rankOf 63 [.ref r, .int (nI s), .int (nI k), .int (nI m), .int (nI rk), .int (nI p), .long (nL (zbits (fun j => decide (zan (c j) p = 0)) i)), .null, .int (nI i), x9, x10] [] (zRh h r S2) (zRV (.int (nI (zRkC (zCc n lo (zTr n lo)) k))) (zRX h r S zRrP (fun _ => True))) := by
                refine zdown (m) ?_ (fun i hp63 ih63 => ?_)
                · skip
                  rw [zrow_eq hk1 hl (by omega) hCp]
                  refine zG_s rfl rfl ?_
                  refine zG_s rfl rfl ?_
                  refine zN_ige rfl (by omega) (by omega) (fun c11 => ?_) (fun c12 => absurd c12 (by omega))
                  refine zG_s rfl rfl ?_
                  refine zN_st8 rfl (fun _ _ _ => rfl) rfl ?_
                  have main106 : ∀ j, j ≤ rk → ∀ x9 x10 : Value, zGoP (d + 5) tX10_rankOf 106 [.ref r, .int (nI s), .int (nI k), .int (nI m), .int (nI rk), .int (nI p), .long (nL (zRdg zT2 q9.2 j (zBnd (zPlc (zCc n lo (zTr n lo)) k) p))), .null, .int (nI j), x9, x10] [] (zRh h r S2) (zRV (.int (nI (zRkC (zCc n lo (zTr n lo)) k))) (zRX h r S zRrP (fun _ => True))) := by
                    refine zdown (rk) ?_ (fun j hp106 ih106 => ?_)
                    · skip
                      intro x9 x10
                      refine zG_s rfl rfl ?_
                      refine zG_s rfl rfl ?_
                      refine zN_ige rfl (by omega) (by omega) (fun c13 => ?_) (fun c14 => absurd c14 (by omega))
                      refine zG_s rfl rfl ?_
                      refine zG_s (st' := .long (nL 0) :: _) rfl rfl ?_
                      refine zG_s rfl rfl ?_
                      refine zN_lc0 rfl (by have := zRdg_lt (t := zT2) (b := 63) (B := q9.2) (r := rk) (fun i hi => hr3 i (by omega)) hbd; omega) (fun c15 => ?_) (fun c16 => ?_)
                      · skip
                        refine zN_inc5 rfl rfl ?_
                        refine zG_s rfl rfl ?_
                        -- leaf 5
                        have hz : zRw2 (zCc n lo (zTr n lo)) k p (zR2 (zCc n lo (zTr n lo)) k p) = 0 := by rw [zRw2, if_pos ⟨hp1, hCp⟩, hq9, ← hrk]; exact c15
                        have e := zR2_s hz
                        rw [hq9] at e
                        exact ih22 rk _ _ _ _ _ S2 (by omega) hF (by rw [if_neg (by omega), e]; exact hrk) (fun _ => ⟨hA14, by rw [e]; exact hA15⟩)
                      · skip
                        refine zG_s rfl rfl ?_
                        refine zN_get rfl zRh_o rfl ?_
                        refine zG_s rfl rfl ?_
                        refine zG_s rfl rfl ?_
                        refine zR_lst (k := 15) (n := 64) rfl rfl (by omega) hr ?_
                        refine zN_inc4 rfl rfl ?_
                        refine zN_inc5 rfl rfl ?_
                        refine zG_s rfl rfl ?_
                        -- leaf 6
                        have ew : zRw2 (zCc n lo (zTr n lo)) k p q9 = zRdg zT2 q9.2 rk (zBnd (zPlc (zCc n lo (zTr n lo)) k) p) := by rw [zRw2, if_pos ⟨hp1, hCp⟩, ← hrk]
                        have hz : zRw2 (zCc n lo (zTr n lo)) k p (zR2 (zCc n lo (zTr n lo)) k p) ≠ 0 := by rw [hq9, ew]; exact c16
                        have e := zR2_a hz
                        rw [hq9] at e
                        refine ih22 (rk + 1) _ _ _ _ _ _ (by omega) (hF.l (Or.inr rfl)) (by rw [if_neg (by omega), e, hrk]) (fun _ => ⟨hA14, fun i hi => ?_⟩)
                        rw [e]
                        show (zRl S2 15 rk _).2.2 15 i = nL (zupd q9.2 q9.1 (zRw2 (zCc n lo (zTr n lo)) k p q9) i)
                        by_cases g : i = rk
                        · rw [g, zRl_at, ← hrk, zupd_at, ew]
                        · rw [zRl_ne (Or.inr g), zupd_ne _ _ (by omega)]; exact hA15 i (by omega)
                    · skip
                      intro x9 x10
                      have hw1 := zRdg_lt (t := zT2) (b := 63) (B := q9.2) (r := j) (fun i hi => hr3 i (by omega)) hbd
                      have hw2 := Nat.xor_lt_two_pow hw1 (hr3 j (by omega))
                      refine zG_s rfl rfl ?_
                      refine zG_s rfl rfl ?_
                      refine zN_ige rfl (by omega) (by omega) (fun c17 => absurd c17 (by omega)) (fun c18 => ?_)
                      refine zG_s rfl rfl ?_
                      refine zG_s rfl rfl ?_
                      refine zN_get rfl zRh_o rfl ?_
                      refine zG_s rfl rfl ?_
                      refine zR_lld (k := 15) (n := 64) rfl rfl (by omega) (hA15 j hp106) ?_
                      refine zN_lxor rfl ?_
                      refine zN_stl9 rfl (fun _ _ _ => rfl) rfl ?_
                      refine zG_s rfl rfl ?_
                      refine zG_s (st' := .long (nL 0) :: _) rfl rfl ?_
                      refine zG_s rfl rfl ?_
                      refine zN_if rfl (fun g => by rw [zlc_lt0 hw2] at g; cases g) (fun c20 => ?_)
                      refine zG_s rfl rfl ?_
                      refine zG_s rfl rfl ?_
                      refine zG_s rfl rfl ?_
                      refine zN_if rfl (fun c21 => ?_) (fun c22 => ?_)
                      · skip
                        refine zG_s rfl rfl ?_
                        refine zN_stl6 rfl (fun _ _ _ => rfl) rfl ?_
                        refine zN_inc8 rfl rfl ?_
                        refine zG_s rfl rfl ?_
                        -- leaf 7
                        rw [zlc_ge hw2 hw1] at c21
                        have e : zRdg zT2 q9.2 (j + 1) (zBnd (zPlc (zCc n lo (zTr n lo)) k) p) = zRdg zT2 q9.2 j (zBnd (zPlc (zCc n lo (zTr n lo)) k) p) := by rw [zRdg, if_neg (fun g => by have a1 := of_decide_eq_true c21; have a2 := of_decide_eq_true (show decide (zRdg zT2 q9.2 j (zBnd (zPlc (zCc n lo (zTr n lo)) k) p) ^^^ q9.2 j < zRdg zT2 q9.2 j (zBnd (zPlc (zCc n lo (zTr n lo)) k) p)) = true from g); omega)]
                        rw [e] at ih106
                        exact ih106 _ _
                      · skip
                        refine zG_s rfl rfl ?_
                        refine zG_s rfl rfl ?_
                        refine zN_stl6 rfl (fun _ _ _ => rfl) rfl ?_
                        refine zN_inc8 rfl rfl ?_
                        refine zG_s rfl rfl ?_
                        -- leaf 8
                        rw [zlc_ge hw2 hw1] at c22
                        have e : zRdg zT2 q9.2 (j + 1) (zBnd (zPlc (zCc n lo (zTr n lo)) k) p) = zRdg zT2 q9.2 j (zBnd (zPlc (zCc n lo (zTr n lo)) k) p) ^^^ q9.2 j := by rw [zRdg, if_pos (show zT2 _ _ = true from decide_eq_true (by have := of_decide_eq_false c22; omega))]
                        rw [e] at ih106
                        exact ih106 _ _
                  exact main106 0 (Nat.zero_le _) _ _
                · skip
                  refine zG_s rfl rfl ?_
                  refine zG_s rfl rfl ?_
                  refine zN_ige rfl (by omega) (by omega) (fun c23 => absurd c23 (by omega)) (fun c24 => ?_)
                  refine zG_s rfl rfl ?_
                  refine zG_s rfl rfl ?_
                  refine zN_get rfl zRh_o rfl ?_
                  refine zG_s rfl rfl ?_
                  refine zR_ald (k := 14) (n := 256) rfl rfl (by omega) (hA14 i hp63) ?_
                  have hci := (hl.2 i hp63).2.1
                  refine zG_s rfl rfl ?_
                  refine zG_s rfl rfl ?_
                  refine zN_not rfl ?_
                  refine zN_andn rfl ?_
                  refine zN_ne0 rfl (by have := zan_lt (a := c i) p hci; omega) (fun c25 => ?_) (fun c26 => ?_)
                  · skip
                    refine zG_s (st' := .long (nL 0) :: _) rfl rfl ?_
                    refine zN_lor rfl ?_
                    refine zN_stl6 rfl (fun _ _ _ => rfl) rfl ?_
                    refine zN_inc8 rfl rfl ?_
                    refine zG_s rfl rfl ?_
                    -- leaf 9
                    rw [zbits_no (show decide (zan (c i) p = 0) = false from decide_eq_false (by omega)), ← Nat.or_zero (zbits _ i)] at ih63
                    exact ih63
                  · skip
                    refine zG_s (st' := .long (nL 1) :: _) rfl rfl ?_
                    refine zG_s rfl rfl ?_
                    refine zN_lshl rfl (by omega) ?_
                    refine zG_s rfl rfl ?_
                    refine zN_lor rfl ?_
                    refine zN_stl6 rfl (fun _ _ _ => rfl) rfl ?_
                    refine zN_inc8 rfl rfl ?_
                    refine zG_s rfl rfl ?_
                    -- leaf 10
                    rw [zbits_yes (show decide (zan (c i) p = 0) = true from decide_eq_true (by omega))] at ih63
                    exact ih63
              exact main63 0 (by omega)
    exact main22 1 (by omega) 0 _ _ _ _ _ S1 (Nat.le_refl 1) hF (by split <;> rfl) (fun g => ⟨(hm1 g).2.2, fun i hi => absurd hi (Nat.not_lt_zero i)⟩)
  refine zG_s rfl rfl ?_
  refine zG_s rfl rfl ?_
  refine zN_ige rfl (by omega) (by omega) (fun c27 => ?_) (fun c28 => ?_)
  · skip
    refine zG_s rfl rfl ?_
    refine zG_s rfl rfl ?_
    refine zG_s rfl rfl ?_
    refine zG_cQV rfl rfl zRh_o rfl rfl (cr_findsChains hr hS hP (by omega) (by omega)) (fun h1 hB => ?_)
    obtain ⟨S1, rfl, hF1, c, hl1, hA1⟩ := hB
    -- leaf 11
    exact jn15 (zNum (zCc n lo (zTr n lo)) k) c S1 (zCc_num hn7 (by omega) (by omega)) (hF1.mono (fun k2 j g => Or.inl g)) (fun g => by rw [zRkC_p (by omega)]; exact zRk_none (by omega) g 256 (Nat.le_refl _)) (fun _ => ⟨by omega, hl1, hA1⟩)
  · skip
    refine zG_s rfl rfl ?_
    refine zG_s rfl rfl ?_
    -- leaf 12
    exact jn15 0 (fun _ => 0) S (by omega) zRF.rf (fun _ => by rw [show k = 0 by omega]; rfl) (fun g => absurd g (by omega))
