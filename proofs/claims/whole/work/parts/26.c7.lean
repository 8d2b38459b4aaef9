theorem zix_ge0 {k n : Nat} (hn : n < 2 ^ 31) : zc1 .ge (zix k n) = decide (k < n) := by
  unfold zix
  by_cases h : k < n
  · rw [if_pos h, decide_eq_true h]
    exact decide_eq_true (nI_pos' (by omega))
  · rw [if_neg h, decide_eq_false h]
    decide
/-- behind a call of Going: the answer, nothing but its cells changed, its rows as they were but for what is known of shrinking -/
def zGq (h : zH) (g n : Nat) (lo hi : Nat → Nat) (ec : Int32) (fl fh fb fa ft rw en im : Nat → Int32) (v : Option Value) : zR → Prop := fun q => q.1 = v ∧ zFr (zgS g) h q.2 ∧ ∃ sh2, zG0 q.2 g n ec fl fh fb fa ft sh2 rw en im ∧ zMemo n lo hi sh2
theorem ct_shrinks {d : Nat} {h : zH} {g n s : Nat} {ec : Int32} {lo hi : Nat → Nat} {fl fh fb fa ft sh rw en im : Nat → Int32} (hg : 2 ≤ g) (hG : zG0 h g n ec fl fh fb fa ft sh rw en im) (hV : zGv n lo hi fl fh fb fa ft) (hO : zOk n lo hi) (hR : zRfl n lo hi) (hM : zMemo n lo hi sh) (hs : s < 1 <<< n) : zCallP (d + 4) 28 [.ref g, .int (nI s)] h (zGq h g n lo hi ec fl fh fb fa ft rw en im (some (.int (nI (b2n (zShr n lo hi s)))))) := by
  have hn := hO.1
  have b0 := zpow_le hn
  generalize hQ : zGq h g n lo hi ec fl fh fb fa ft rw en im (some (.int (nI (b2n (zShr n lo hi s))))) = Q
  have fin : ∀ (T : Nat) (h1 : zH) (sh1 : Nat → Int32), T < 1 <<< n → zFr (zgS g) h h1 → zG0 h1 g n ec fl fh fb fa ft sh1 rw en im → zMemo n lo hi sh1 → zShr n lo hi T = zShr n lo hi s → sh1 T ≠ nI 0 → ∀ (z3 z4 : Value), zGoP (d + 3) tX3_shrinks 68 [.ref g, .int (nI s), .int (nI T), z3, z4] [] h1 Q := by
    intro T h1 sh1 hT hF1 hG1 hM1 hS1 hne z3 z4
    have e1 : sh1 T = nI (if zShr n lo hi s then 2 else 1) := by
      rcases hM1 T hT with e | e
      · exact absurd e hne
      · rw [e, hS1]
    have hG2 := hG1.p_sh (q := upd sh1 s (nI (if zShr n lo hi s then 2 else 1)))
    have hM2 : zMemo n lo hi (upd sh1 s (nI (if zShr n lo hi s then 2 else 1))) := by
      intro j hj
      by_cases e : j = s
      · subst e; right; exact upd_at _ _ _
      · rw [upd_ne _ _ e]; exact hM1 j hj
    have hF2 : zFr (zgS g) h (zset h1 (g + 6) (.inl (0, 256, .inl (upd sh1 s (nI (if zShr n lo hi s then 2 else 1)))))) := hF1.set (zgS_in (by omega))
    refine zG_s rfl rfl ?_
    refine zN_get rfl hG1.o rfl ?_
    refine zG_s rfl rfl ?_
    refine zG_s rfl rfl ?_
    refine zN_get rfl hG1.o rfl ?_
    refine zG_s rfl rfl ?_
    refine zN_ald rfl hG1.sh (by omega) (by omega) e1 ?_
    refine zN_ast rfl hG1.sh (by omega) (by omega) (zble_of hg) ?_
    refine zG_s rfl rfl ?_
    refine zN_get rfl hG2.o rfl ?_
    refine zG_s rfl rfl ?_
    refine zN_ald rfl hG2.sh (by omega) (by omega) (upd_at _ _ _) ?_
    refine zG_s rfl rfl ?_
    cases hb : zShr n lo hi s with
    | true =>
      refine zN_ine rfl (by decide) (by decide) (fun c => absurd rfl c) (fun c => ?_)
      refine zG_s rfl rfl ?_
      refine zG_s rfl rfl ?_
      rw [hb] at hG2 hM2 hF2
      refine zG_ret rfl rfl ?_
      rw [← hQ, hb]
      exact ⟨rfl, hF2, _, hG2, hM2⟩
    | false =>
      refine zN_ine rfl (by decide) (by decide) (fun c => ?_) (fun c => absurd c (by decide))
      refine zG_s rfl rfl ?_
      rw [hb] at hG2 hM2 hF2
      refine zG_ret rfl rfl ?_
      rw [← hQ, hb]
      exact ⟨rfl, hF2, _, hG2, hM2⟩
  refine zG_mP (t := tX3_shrinks) (ls0 := [.ref g, .int (nI s), .null, .null, .null]) rfl rfl (zdnR (zdnI zdn0)) rfl ?_
  refine zG_s rfl rfl ?_
  refine zN_st2 rfl (fun _ _ _ => rfl) rfl ?_
  refine zG_s rfl rfl ?_
  refine zN_st3 rfl (fun _ _ _ => rfl) rfl ?_
  -- at 4: .iload_n 3
  have main : ∀ i, i ≤ 8 → ∀ (T : Nat) (h1 : zH) (sh1 : Nat → Int32) (z : Value), T ≤ s → zFr (zgS g) h h1 → zG0 h1 g n ec fl fh fb fa ft sh1 rw en im → zMemo n lo hi sh1 → zShr n lo hi T = zShr n lo hi s → ((T = zit (zSt n lo hi) i s ∧ ∀ j, j < i → zLB n lo hi (zit (zSt n lo hi) j s) < n) ∨ sh1 T ≠ nI 0) → zGoP (d + 3) tX3_shrinks 4 [.ref g, .int (nI s), .int (nI T), .int (nI i), z] [] h1 Q := by
    refine zdown 8 ?_ (fun i hi8 ih => ?_)
    · intro T h1 sh1 z hT hF1 hG1 hM1 hS1 hC
      have b1 : T < 1 <<< n := Nat.lt_of_le_of_lt hT hs
      have hne : sh1 T ≠ nI 0 := by
        rcases hC with ⟨-, hC⟩ | hC
        · exact absurd hC (zSts_end hR (by omega))
        · exact hC
      refine zG_s rfl rfl ?_
      refine zG_s rfl rfl ?_
      -- at 7: .if_icmp .ge 61
      refine zN_ige rfl (by omega) (by omega) (fun c => ?_) (fun c => absurd c (by omega))
      exact fin T h1 sh1 b1 hF1 hG1 hM1 hS1 hne _ _
    · intro T h1 sh1 z hT hF1 hG1 hM1 hS1 hC
      have b1 : T < 1 <<< n := Nat.lt_of_le_of_lt hT hs
      refine zG_s rfl rfl ?_
      refine zG_s rfl rfl ?_
      -- at 7: .if_icmp .ge 61
      refine zN_ige rfl (by omega) (by omega) (fun c => absurd c (by omega)) (fun c => ?_)
      refine zG_s rfl rfl ?_
      refine zN_get rfl hG1.o rfl ?_
      refine zG_s rfl rfl ?_
      refine zN_ald rfl hG1.sh (by omega) (by omega) rfl ?_
      -- at 16: .ifCond .ne 52
      refine zN_if rfl (fun c1 => ?_) (fun c1 => ?_)
      · have hne : sh1 T ≠ nI 0 := of_decide_eq_true c1
        exact fin T h1 sh1 b1 hF1 hG1 hM1 hS1 hne _ _
      · have c1 : decide (¬ sh1 T = 0) = false := c1
        have h0 : sh1 T = nI 0 := Decidable.not_not.mp (of_decide_eq_false c1)
        have hA : T = zit (zSt n lo hi) i s ∧ ∀ j, j < i → zLB n lo hi (zit (zSt n lo hi) j s) < n := by
          rcases hC with hC | hC
          · exact hC
          · exact absurd h0 hC
        refine zG_s rfl rfl ?_
        refine zG_s rfl rfl ?_
        -- at 21: .invokevirtual 76
        refine zG_cV1 rfl rfl hG1.o rfl rfl (ct_leastBeat hG1 hV hO (by omega)) ?_
        refine zN_st4 rfl (fun _ _ _ => rfl) rfl ?_
        refine zG_s rfl rfl ?_
        -- at 28: .ifCond .ge 25
        refine zN_if rfl (fun c2 => ?_) (fun c2 => ?_)
        · rw [zix_ge0 (by omega)] at c2
          have c2 := of_decide_eq_true c2
          have c3 := c2
          rw [show zLB n lo hi T = zLB n lo hi T from rfl] at c3
          rw [show zix (zLB n lo hi T) n = nI (zLB n lo hi T) from if_pos c2]
          generalize hx : zLB n lo hi T = x at c2 c3 ⊢
          refine zG_s rfl rfl ?_
          refine zG_s rfl rfl ?_
          refine zG_s rfl rfl ?_
          refine zN_shl rfl (by omega) ?_
          refine zG_s rfl rfl ?_
          refine zN_not rfl ?_
          refine zN_andn rfl ?_
          refine zN_st2 rfl (fun _ _ _ => rfl) rfl ?_
          refine zN_inc3 rfl rfl ?_
          refine zG_s rfl rfl ?_
          -- at 4: .iload_n 3
          have e1 : zan T (1 <<< x) = zSt n lo hi T := by rw [zSt, hx, if_pos c2]
          rw [e1]
          refine ih _ h1 sh1 _ (Nat.le_trans (zSt_le n lo hi T) hT) hF1 hG1 hM1 ?_ (Or.inl ⟨?_, ?_⟩)
          · rw [← hS1]
            exact zShr_it hR (by omega) 1
          · rw [zit, ← hA.1]
          · intro j hj
            by_cases e : j = i
            · subst e; rw [← hA.1, hx]; exact c2
            · exact hA.2 j (by omega)
        · rw [zix_ge0 (by omega)] at c2
          have c2 := of_decide_eq_false c2
          have e9 : zShr n lo hi T = decide (zcnt T = 1) := zShr_end c2
          have b2 := zcnt_le T
          have go : ∀ w : Int32, w = nI (if zShr n lo hi T then 2 else 1) → zGoP (d + 3) tX3_shrinks 50 [.ref g, .int (nI s), .int (nI T), .int (nI i), .int (zix (zLB n lo hi T) n)] [] (zset h1 (g + 6) (.inl (0, 256, .inl (upd sh1 T w)))) Q := by
            intro w hw
            refine zG_s rfl rfl ?_
            refine zN_inc3 rfl rfl ?_
            refine zG_s rfl rfl ?_
            -- at 4: .iload_n 3
            refine ih T _ (upd sh1 T w) _ hT (hF1.set (zgS_in (by omega))) hG1.p_sh ?_ hS1 (Or.inr ?_)
            · intro j hj
              by_cases e : j = T
              · subst e; right; rw [upd_at, hw]
              · rw [upd_ne _ _ e]; exact hM1 j hj
            · rw [upd_at, hw]
              split <;> decide
          refine zG_s rfl rfl ?_
          refine zN_get rfl hG1.o rfl ?_
          refine zG_s rfl rfl ?_
          refine zG_s rfl rfl ?_
          -- at 37: .invokestatic 79
          refine zG_cS1 rfl rfl (ct_bitCount (by omega)) ?_
          refine zG_s rfl rfl ?_
          -- at 41: .if_icmp .ne 7
          refine zN_ine rfl (by omega) (by omega) (fun c5 => ?_) (fun c5 => ?_)
          · refine zG_s rfl rfl ?_
            refine zN_ast rfl hG1.sh (by omega) (by omega) (zble_of hg) ?_
            -- at 50: .goto 12
            exact go _ (by rw [e9, decide_eq_false c5]; rfl)
          · refine zG_s rfl rfl ?_
            refine zG_s rfl rfl ?_
            refine zN_ast rfl hG1.sh (by omega) (by omega) (zble_of hg) ?_
            -- at 50: .goto 12
            exact go _ (by rw [e9, decide_eq_true c5]; rfl)
  exact main 0 (by omega) s h sh .null (Nat.le_refl s) zFr.rf hG hM rfl (Or.inl ⟨rfl, fun j hj => absurd hj (by omega)⟩)
