/-- what is told, and how much it counts -/
def zRtl (S : zRS) (T : Nat → Bool) (C : Nat → Nat) : Prop := ∀ p, p < 256 → S.2.1 16 p = nI (b2n (T p)) ∧ C p = (if T p then zcnt p else 0) ∧ (p = 0 → T p = false)
theorem zRtl.tot {S : zRS} {T : Nat → Bool} {C : Nat → Nat} (h : zRtl S T C) : zct T 256 = zTot C := zct_cong (fun p hp => by
  obtain ⟨-, h2, h3⟩ := h p hp
  by_cases e : p = 0
  · rw [h3 e, decide_eq_false (show ¬ 1 ≤ p by omega)]; rfl
  · rw [h2, decide_eq_true (show 1 ≤ p by omega)]
    cases g : T p with
    | false => rfl
    | true =>
      have := zcnt_0 p hp
      rw [if_pos rfl, decide_eq_true (show 0 < zcnt p by omega)]; rfl)
theorem cr_toldSets {d r : Nat} {h : zH} {S : zRS} {T : Nat → Bool} {C : Nat → Nat} (hT : zRtl S T C) : zCall (d + 1) 250 [.ref r] (zRh h r S) (some (.int (nI (zTot C))), zRh h r S) := by
  rw [← hT.tot]
  refine zG_m (t := tX10_toldSets) (ls0 := [.ref r, .null, .null]) rfl rfl (zdnR zdn0) rfl ?_
  refine zG_s rfl rfl ?_
  refine zN_st1 rfl (fun _ _ _ => rfl) rfl ?_
  refine zG_s rfl rfl ?_
  refine zN_st2 rfl (fun _ _ _ => rfl) rfl ?_
  have main4 : ∀ p, p ≤ 256 → zGo (d) tX10_toldSets 4 [.ref r, .int (nI (zct T p)), .int (nI p)] [] (zRh h r S) (some (.int (nI (zct T 256))), zRh h r S) := by
    refine zdown (256) ?_ (fun p hp4 ih4 => ?_)
    · skip
      refine zG_s rfl rfl ?_
      refine zG_s rfl rfl ?_
      refine zN_ige rfl (by omega) (by omega) (fun c1 => ?_) (fun c2 => absurd c2 (by omega))
      refine zG_s rfl rfl ?_
      -- leaf 1
      exact zG_ret rfl rfl rfl
    · skip
      have hcl := zct_le T p
      refine zG_s rfl rfl ?_
      refine zG_s rfl rfl ?_
      refine zN_ige rfl (by omega) (by omega) (fun c3 => absurd c3 (by omega)) (fun c4 => ?_)
      refine zG_s rfl rfl ?_
      refine zG_s rfl rfl ?_
      refine zN_get rfl zRh_o rfl ?_
      refine zG_s rfl rfl ?_
      refine zR_bld (k := 16) (n := 256) rfl rfl (by omega) (hT p hp4).1 ?_
      first | refine zN_ifb rfl (fun c5 => ?_) (fun c6 => ?_) | refine zN_eq0 rfl (by omega) (fun c5 => ?_) (fun c6 => ?_)
      · skip
        refine zG_s rfl rfl ?_
        refine zN_add rfl ?_
        refine zN_st1 rfl (fun _ _ _ => rfl) rfl ?_
        refine zN_inc2 rfl rfl ?_
        refine zG_s rfl rfl ?_
        -- leaf 2
        rw [zct_no (by assumption)] at ih4
        exact ih4
      · skip
        refine zG_s rfl rfl ?_
        refine zG_s rfl rfl ?_
        refine zN_add rfl ?_
        refine zN_st1 rfl (fun _ _ _ => rfl) rfl ?_
        refine zN_inc2 rfl rfl ?_
        refine zG_s rfl rfl ?_
        -- leaf 3
        rw [zct_yes (by assumption)] at ih4
        exact ih4
  exact main4 0 (by omega)
def zRbsP (t k j : Nat) : Prop := k = 14 ∨ zRsp t k j
theorem cr_becomesBig {d r t : Nat} {h : zH} {S : zRS} {T : Nat → Bool} {C : Nat → Nat} (hT : zRtl S T C) (hb : 8 < zTot C) : zCall (d + 2) 251 [.ref r, .int (nI t)] (zRh h r S) (some (.int (-2)), zRh h r S) := by
  have htl : zTot C ≤ 256 := zct_le _ _
  refine zG_m (t := tX10_becomesSets) (ls0 := [.ref r, .int (nI t), .null, .null, .null]) rfl rfl (zdnR (zdnI zdn0)) rfl ?_
  refine zG_s rfl rfl ?_
  refine zG_cV1 rfl rfl zRh_o rfl rfl (cr_toldSets hT) ?_
  refine zG_s rfl rfl ?_
  refine zN_ile (y := 8) rfl (by omega) (by omega) (fun q => absurd q (by omega)) (fun c2 => ?_)
  refine zG_s rfl rfl ?_
  -- leaf 1
  exact zG_ret rfl rfl rfl
theorem cr_becomesSets {d r t : Nat} {h : zH} {S : zRS} {T : Nat → Bool} {C : Nat → Nat} (hr : 2 ≤ r) (hT : zRtl S T C) (hb : zTot C ≤ 8) (ht : t < 10) : zCallP (d + 4) 251 [.ref r, .int (nI t)] (zRh h r S) (zRV (.int (nI (zFk C 8).1)) (zRX h r S (zRbsP t) (fun S1 => zRs S1 t (zFk C 8).1 (zSubL (zFk C 8).1 (zFk C 8).2)))) := by
  refine zG_mP (t := tX10_becomesSets) (ls0 := [.ref r, .int (nI t), .null, .null, .null]) rfl rfl (zdnR (zdnI zdn0)) rfl ?_
  refine zG_s rfl rfl ?_
  refine zG_cV1 rfl rfl zRh_o rfl rfl (cr_toldSets hT) ?_
  refine zG_s rfl rfl ?_
  refine zN_ile (y := 8) rfl (by omega) (by omega) (fun c1 => ?_) (fun q => absurd q (by omega))
  refine zG_s rfl rfl ?_
  refine zN_st2 rfl (fun _ _ _ => rfl) rfl ?_
  refine zG_s rfl rfl ?_
  refine zN_st3 rfl (fun _ _ _ => rfl) rfl ?_
  have main16 : ∀ K, K ≤ 8 → ∀ (x4 : Value) (S1 : zRS), zRF (fun k2 _ => k2 = 14) S S1 → (∀ i, i < (zFk C K).1 → S1.2.1 14 i = nI ((zFk C K).2 i)) → zGoP (d + 3) tX10_becomesSets 16 [.ref r, .int (nI t), .int (nI (zFk C K).1), .int (nI (K + 1)), x4] [] (zRh h r S1) (zRV (.int (nI (zFk C 8).1)) (zRX h r S (zRbsP t) (fun S1 => zRs S1 t (zFk C 8).1 (zSubL (zFk C 8).1 (zFk C 8).2)))) := by
    refine zdown (8) ?_ (fun K hp16 ih16 => ?_)
    · skip
      intro x4 S1 hF hA
      have hn8 := zFk_le C 8
      have hch := zFk_ch C 8
      generalize hnn : (zFk C 8).1 = n at *
      generalize hcc : (zFk C 8).2 = c at *
      refine zG_s rfl rfl ?_
      refine zG_s rfl rfl ?_
      refine zN_igt rfl (by omega) (by omega) (fun c3 => ?_) (fun c4 => absurd c4 (by omega))
      refine zG_s rfl rfl ?_
      refine zG_s rfl rfl ?_
      refine zG_s rfl rfl ?_
      refine zG_cQN rfl rfl zRh_o rfl rfl (cr_empties hr ht hn8) (fun h1 hB => ?_)
      obtain ⟨S2, rfl, hF2, hS2⟩ := hB
      have hA : ∀ i, i < n → S2.2.1 14 i = nI (c i) := fun i hi => (hF2.2.1 14 i (by unfold zRsp; omega)).trans (hA i hi)
      have hF : zRF (zRbsP t) S S2 := (hF.mono (fun k2 j g => Or.inl g)).tr (hF2.mono (fun k2 j g => Or.inr g))
      refine zG_s rfl rfl ?_
      refine zN_st3 rfl (fun _ _ _ => rfl) rfl ?_
      have main83 : ∀ x, x ≤ n → ∀ (x4 : Value) (S3 : zRS), zRF (zRrw 1 t) S2 S3 → (∀ q, q < n → S3.2.1 1 (8 * t + q) = nI (if q < x then zSubL n c q else 1 <<< q)) → zGoP (d + 3) tX10_becomesSets 83 [.ref r, .int (nI t), .int (nI n), .int (nI x), x4] [] (zRh h r S3) (zRV (.int (nI n)) (zRX h r S (zRbsP t) (fun S1 => zRs S1 t n (zSubL n c)))) := by
        refine zdown (n) ?_ (fun x hp83 ih83 => ?_)
        · skip
          intro x4 S3 hF3 hL
          refine zG_s rfl rfl ?_
          refine zG_s rfl rfl ?_
          refine zN_ige rfl (by omega) (by omega) (fun c5 => ?_) (fun c6 => absurd c6 (by omega))
          refine zG_s rfl rfl ?_
          refine zG_s rfl rfl ?_
          refine zG_cQN rfl rfl zRh_o rfl rfl (cr_turns (lo := zSubL n c) hr ht hn8 ((hF3.2.1 3 t (zRrw.m (Or.inl rfl))).trans hS2.1) (fun q hq => by rw [hL q hq, if_pos hq]) (fun q hq => zbits_lt8 _ hn8)) (fun h4 hB => ?_)
          obtain ⟨S5, rfl, hF5, hS5⟩ := hB
          refine zG_s rfl rfl ?_
          -- leaf 1
          exact zG_ret rfl rfl ⟨rfl, S5, rfl, (hF.tr (hF3.mono (fun k2 j g => Or.inr (zRrw.sp (Or.inl rfl) _ _ g)))).tr (hF5.mono (fun k2 j g => Or.inr (zRrw.sp (Or.inr rfl) _ _ g))), hS5⟩
        · skip
          intro x4 S3 hF3 hL
          refine zG_s rfl rfl ?_
          refine zG_s rfl rfl ?_
          refine zN_ige rfl (by omega) (by omega) (fun c7 => absurd c7 (by omega)) (fun c8 => ?_)
          refine zG_s rfl rfl ?_
          refine zN_st4 rfl (fun _ _ _ => rfl) rfl ?_
          have main91 : ∀ y, y ≤ n → ∀ S4 : zRS, zRF (zRrw 1 t) S2 S4 → (∀ q, q < n → S4.2.1 1 (8 * t + q) = nI (if q < x then zSubL n c q else if q = x then zSubP c x y else 1 <<< q)) → zGoP (d + 3) tX10_becomesSets 91 [.ref r, .int (nI t), .int (nI n), .int (nI x), .int (nI y)] [] (zRh h r S4) (zRV (.int (nI n)) (zRX h r S (zRbsP t) (fun S1 => zRs S1 t n (zSubL n c)))) := by
            refine zdown (n) ?_ (fun y hp91 ih91 => ?_)
            · skip
              intro S4 hF4 hL4
              refine zG_s rfl rfl ?_
              refine zG_s rfl rfl ?_
              refine zN_ige rfl (by omega) (by omega) (fun c9 => ?_) (fun c10 => absurd c10 (by omega))
              refine zN_inc3 rfl rfl ?_
              refine zG_s rfl rfl ?_
              -- leaf 2
              refine ih83 _ S4 hF4 (fun q hq => ?_)
              rw [hL4 q hq]
              by_cases g : q = x
              · rw [if_neg (by omega), if_pos g, if_pos (by omega), g, zSubP_n (by omega)]
              · by_cases g2 : q < x
                · rw [if_pos g2, if_pos (by omega)]
                · rw [if_neg g2, if_neg g, if_neg (by omega)]
            · skip
              intro S4 hF4 hL4
              refine zG_s rfl rfl ?_
              refine zG_s rfl rfl ?_
              refine zN_ige rfl (by omega) (by omega) (fun c11 => absurd c11 (by omega)) (fun c12 => ?_)
              refine zG_s rfl rfl ?_
              refine zN_get rfl zRh_o rfl ?_
              refine zG_s rfl rfl ?_
              refine zG_s rfl rfl ?_
              refine zN_mul rfl ?_
              refine zG_s rfl rfl ?_
              refine zN_add rfl ?_
              refine zG_s rfl rfl ?_
              refine zR_ald (k := 1) (n := 80) (w := nI (zSubP c x y)) rfl rfl (by omega) (by rw [hL4 x (by omega), if_neg (by omega), if_pos rfl]) ?_
              refine zG_s rfl rfl ?_
              refine zN_get rfl zRh_o rfl ?_
              refine zG_s rfl rfl ?_
              refine zR_ald (k := 14) (n := 256) rfl rfl (by omega) ((hF4.2.1 14 y (zRrw.no (by decide))).trans (hA y (by omega))) ?_
              have hcy := hch y
              refine zG_s rfl rfl ?_
              refine zN_get rfl zRh_o rfl ?_
              refine zG_s rfl rfl ?_
              refine zR_ald (k := 14) (n := 256) rfl rfl (by omega) ((hF4.2.1 14 x (zRrw.no (by decide))).trans (hA x (by omega))) ?_
              refine zG_s rfl rfl ?_
              refine zN_not rfl ?_
              refine zN_andn rfl ?_
              refine zN_ne0 rfl (by have := zan_lt (c x) hcy; omega) (fun c13 => ?_) (fun c14 => ?_)
              · skip
                refine zG_s rfl rfl ?_
                refine zN_or rfl ?_
                refine zR_ast (k := 1) (n := 80) rfl rfl (by omega) hr ?_
                refine zN_inc4 rfl rfl ?_
                refine zG_s rfl rfl ?_
                -- leaf 3
                have e : zSubP c x (y + 1) = zSubP c x y := by unfold zSubP; rw [zbits_no (show decide (zan (c y) (c x) = 0) = false from decide_eq_false (by omega))]
                refine ih91 _ (hF4.a ⟨rfl, by omega, by omega⟩) (fun q hq => ?_)
                by_cases g : q = x
                · rw [g, zRa_at, if_neg (by omega), if_pos rfl, e, Nat.or_zero]
                · rw [zRa_ne (Or.inr (by omega)), hL4 q hq]
                  by_cases g2 : q < x
                  · rw [if_pos g2, if_pos g2]
                  · rw [if_neg g2, if_neg g2, if_neg g, if_neg g]
              · skip
                refine zG_s rfl rfl ?_
                refine zG_s rfl rfl ?_
                refine zN_shl rfl (by omega) ?_
                refine zG_s rfl rfl ?_
                refine zN_or rfl ?_
                refine zR_ast (k := 1) (n := 80) rfl rfl (by omega) hr ?_
                refine zN_inc4 rfl rfl ?_
                refine zG_s rfl rfl ?_
                -- leaf 4
                have e : zSubP c x (y + 1) = zSubP c x y ||| 1 <<< y := by unfold zSubP; rw [zbits_yes (show decide (zan (c y) (c x) = 0) = true from decide_eq_true (by omega)), Nat.or_assoc]
                refine ih91 _ (hF4.a ⟨rfl, by omega, by omega⟩) (fun q hq => ?_)
                by_cases g : q = x
                · rw [g, zRa_at, if_neg (by omega), if_pos rfl, e]
                · rw [zRa_ne (Or.inr (by omega)), hL4 q hq]
                  by_cases g2 : q < x
                  · rw [if_pos g2, if_pos g2]
                  · rw [if_neg g2, if_neg g2, if_neg g, if_neg g]
          refine main91 0 (Nat.zero_le _) S3 hF3 (fun q hq => ?_)
          rw [hL q hq]
          by_cases g : q = x
          · rw [if_neg (by omega), if_neg (by omega), if_pos g, g]
            show nI (1 <<< x) = nI (1 <<< x ||| 0)
            rw [Nat.or_zero]
          · rw [if_neg g]
      exact main83 0 (by omega) _ _ zRF.rf (fun q hq => by rw [if_neg (Nat.not_lt_zero q)]; exact (hS2.2.2 q hq).1)
    · skip
      intro x4 S1 hF hA
      refine zG_s rfl rfl ?_
      refine zG_s rfl rfl ?_
      refine zN_igt rfl (by omega) (by omega) (fun c15 => absurd c15 (by omega)) (fun c16 => ?_)
      refine zG_s rfl rfl ?_
      refine zN_st4 rfl (fun _ _ _ => rfl) rfl ?_
      have main25 : ∀ p, p ≤ 256 → ∀ S2 : zRS, 1 ≤ p → zRF (fun k2 _ => k2 = 14) S S2 → (∀ i, i < (zFs C (K + 1) (zFk C K).1 (zFk C K).2 p).1 → S2.2.1 14 i = nI ((zFs C (K + 1) (zFk C K).1 (zFk C K).2 p).2 i)) → zGoP (d + 3) tX10_becomesSets 25 [.ref r, .int (nI t), .int (nI (zFs C (K + 1) (zFk C K).1 (zFk C K).2 p).1), .int (nI (K + 1)), .int (nI p)] [] (zRh h r S2) (zRV (.int (nI (zFk C 8).1)) (zRX h r S (zRbsP t) (fun S1 => zRs S1 t (zFk C 8).1 (zSubL (zFk C 8).1 (zFk C 8).2)))) := by
        refine zdown (256) ?_ (fun p hp25 ih25 => ?_)
        · skip
          intro S2 hp1 hF hA
          refine zG_s rfl rfl ?_
          refine zG_s rfl rfl ?_
          refine zN_ige rfl (by omega) (by omega) (fun c17 => ?_) (fun c18 => absurd c18 (by omega))
          refine zN_inc3 rfl rfl ?_
          refine zG_s rfl rfl ?_
          -- leaf 5
          rw [show zFk C (K + 1) = zFs C (K + 1) (zFk C K).1 (zFk C K).2 256 from rfl] at ih16
          exact ih16 _ S2 hF hA
        · skip
          intro S2 hp1 hF hA
          have hTp := hT p hp25
          have hcl := zcnt_le p
          have hlt : (zFs C (K + 1) (zFk C K).1 (zFk C K).2 p).1 ≤ 8 := zFs_le (zFk_le C K) p
          have hcap := (zFs_num (c0 := (zFk C K).2) hb (show 1 ≤ K + 1 by omega) (zFk_num hb K) p (by omega)).2 hp25 hp1
          refine zG_s rfl rfl ?_
          refine zG_s rfl rfl ?_
          refine zN_ige rfl (by omega) (by omega) (fun c19 => absurd c19 (by omega)) (fun c20 => ?_)
          refine zG_s rfl rfl ?_
          refine zN_get rfl zRh_o rfl ?_
          refine zG_s rfl rfl ?_
          refine zR_bld (k := 16) (n := 256) rfl rfl (by omega) ((hF.2.1 16 p (by omega)).trans hTp.1) ?_
          first | refine zN_ifb rfl (fun c21 => ?_) (fun c22 => ?_) | refine zN_eq0 rfl (by omega) (fun c21 => ?_) (fun c22 => ?_)
          · skip
            refine zN_inc4 rfl rfl ?_
            refine zG_s rfl rfl ?_
            -- leaf 6
            have hz : C p ≠ K + 1 := by rw [hTp.2.1, if_neg (by rw [c21]; decide)]; omega
            rw [zFs_n hz] at ih25
            exact ih25 S2 (by omega) hF hA
          · skip
            refine zG_s rfl rfl ?_
            refine zG_cS1 rfl rfl (cr_size (by omega)) ?_
            refine zG_s rfl rfl ?_
            refine zN_ine rfl (by omega) (by omega) (fun c23 => ?_) (fun c24 => ?_)
            · skip
              refine zN_inc4 rfl rfl ?_
              refine zG_s rfl rfl ?_
              -- leaf 7
              have hz : C p ≠ K + 1 := by rw [hTp.2.1, if_pos c22]; exact c23
              rw [zFs_n hz] at ih25
              exact ih25 S2 (by omega) hF hA
            · skip
              refine zG_s rfl rfl ?_
              refine zN_get rfl zRh_o rfl ?_
              refine zG_s rfl rfl ?_
              refine zG_s rfl rfl ?_
              refine zR_ast (k := 14) (n := 256) rfl rfl (by omega) hr ?_
              refine zN_inc2 rfl rfl ?_
              refine zN_inc4 rfl rfl ?_
              refine zG_s rfl rfl ?_
              -- leaf 8
              have hz : C p = K + 1 := by rw [hTp.2.1, if_pos c22]; exact c24
              rw [zFs_y ⟨hp1, hz, hcap hz⟩] at ih25
              refine ih25 _ (by omega) (hF.a rfl) (fun i hi => ?_)
              have hi : i < (zFs C (K + 1) (zFk C K).1 (zFk C K).2 p).1 + 1 := hi
              show (zRa S2 14 (zFs C (K + 1) (zFk C K).1 (zFk C K).2 p).1 (nI p)).2.1 14 i = nI (zupd (zFs C (K + 1) (zFk C K).1 (zFk C K).2 p).2 (zFs C (K + 1) (zFk C K).1 (zFk C K).2 p).1 p i)
              by_cases g : i = (zFs C (K + 1) (zFk C K).1 (zFk C K).2 p).1
              · rw [g, zRa_at, zupd_at]
              · rw [zRa_ne (Or.inr g), zupd_ne _ _ g]; exact hA i (by omega)
      have e0 := main25 1 (by omega) S1 (Nat.le_refl 1) hF (by rw [zFs_1]; exact hA)
      rw [zFs_1] at e0
      exact e0
  exact main16 0 (Nat.zero_le _) _ _ zRF.rf (fun i hi => absurd hi (Nat.not_lt_zero i))
