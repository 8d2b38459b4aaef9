theorem zWx_0 {s : Nat} {f : Nat → Nat} : ∀ x, zWx 0 s f x = f
  | 0 => rfl
  | x + 1 => by rw [zWx, Nat.zero_testBit, if_neg (by decide)]; exact zWx_0 x
theorem zAl_0 {n G : Nat} (hG : ∀ y, G.testBit y = true → y < n) (h : zAl (fun y => !G.testBit y) n = true) : G = 0 := by
  refine Classical.byContradiction (fun c => ?_)
  obtain ⟨y, hy⟩ := zbit_of c
  have h1 : (!G.testBit y) = true := zAl_iff.mp h y (hG y hy)
  rw [hy] at h1
  exact absurd h1 (by decide)
def zRwy (k j : Nat) : Prop := k = 8 ∨ k = 9 ∨ (k = 0 ∧ (j = 12 ∨ j = 13))
theorem zRwy_sp {s : Nat} : ∀ k j, zRsp s k j → ¬ zRwy k j := fun k j h => by unfold zRsp at h; unfold zRwy; omega
theorem cr_goesWays {d r s n k : Nat} {h : zH} {S : zRS} {lo : Nat → Nat} (hr : 2 ≤ r) (hS : zRs S s n lo) (hP : zPre n lo) (hk : k < 6) : zCallP (d + 10) 214 [.ref r, .int (nI s), .int (nI k)] (zRh h r S) (zRN (zRX h r S zRwy (fun S1 => S1.1 12 = nI (zW n lo (zTr n lo) k (1 <<< n)).2.2.2 ∧ S1.1 13 = nI (zW n lo (zTr n lo) k (1 <<< n)).2.2.1 ∧ ∀ i, i < (zW n lo (zTr n lo) k (1 <<< n)).2.2.1 → S1.2.1 9 i = nI ((zW n lo (zTr n lo) k (1 <<< n)).2.1 i)))) := by
  have hn := hP.1
  have hs := hS.2.1
  have b0 := zpow_le hn
  have hS0 := hS
  generalize hQ : zRN (zRX h r S zRwy (fun S1 => S1.1 12 = nI (zW n lo (zTr n lo) k (1 <<< n)).2.2.2 ∧ S1.1 13 = nI (zW n lo (zTr n lo) k (1 <<< n)).2.2.1 ∧ ∀ i, i < (zW n lo (zTr n lo) k (1 <<< n)).2.2.1 → S1.2.1 9 i = nI ((zW n lo (zTr n lo) k (1 <<< n)).2.1 i))) = Q
  refine zG_mP (t := tX10_goesWays) (ls0 := [.ref r, .int (nI s), .int (nI k), .null, .null, .null]) rfl rfl (zdnR (zdnI (zdnI zdn0))) rfl ?_
  refine zG_s rfl rfl ?_
  refine zN_st3 rfl (fun _ _ _ => rfl) rfl ?_
  have main2 : ∀ t, t ≤ 256 → ∀ S1 : zRS, zRF zRwy S S1 → (∀ j, j < t → S1.2.1 8 j = nI 0) → zGoP (d + 9) tX10_goesWays 2 [.ref r, .int (nI s), .int (nI k), .int (nI t), .null, .null] [] (zRh h r S1) Q := by
    refine zdown (256) ?_ (fun t hp2 ih2 => ?_)
    · skip
      intro S1 hF hA
      have hS := hS0.fr hn hF zRwy_sp
      have hF2 : zRF zRwy S (zRi (zRi (zRa S1 8 (1 <<< n - 1) (nI 1)) 12 (nI 0)) 13 (nI 0)) := ((hF.a (Or.inl rfl)).i (Or.inr (Or.inr ⟨rfl, Or.inl rfl⟩))).i (Or.inr (Or.inr ⟨rfl, Or.inr rfl⟩))
      have hS2 := hS0.fr hn hF2 zRwy_sp
      refine zG_s rfl rfl ?_
      refine zG_s rfl rfl ?_
      refine zN_ige rfl (by omega) (by omega) (fun c1 => ?_) (fun c2 => absurd c2 (by omega))
      refine zG_s rfl rfl ?_
      refine zN_get rfl zRh_o rfl ?_
      refine zG_s rfl rfl ?_
      refine zG_s rfl rfl ?_
      refine zG_cV1 rfl rfl zRh_o rfl rfl (cr_all hS (by omega)) ?_
      refine zG_s rfl rfl ?_
      refine zR_ast (k := 8) (n := 256) rfl rfl (by omega) hr ?_
      refine zG_s rfl rfl ?_
      refine zG_s rfl rfl ?_
      refine zR_put rfl rfl rfl (fun _ => rfl) ?_
      refine zG_s rfl rfl ?_
      refine zG_s rfl rfl ?_
      refine zR_put rfl rfl rfl (fun _ => rfl) ?_
      refine zG_s rfl rfl ?_
      refine zG_s rfl rfl ?_
      refine zG_cV1 rfl rfl zRh_o rfl rfl (cr_all hS2 hn) ?_
      rw [show nI (1 <<< n - 1) = zbv (1 <<< n - 0) by unfold zbv; rw [if_neg (by omega)]; rfl]
      refine zN_st3 rfl (fun _ _ _ => rfl) rfl ?_
      have main49 : ∀ j, j ≤ 1 <<< n → ∀ (S1 : zRS) (x4 x5 : Value), zRF zRwy S S1 → S1.1 12 = nI (zW n lo (zTr n lo) k j).2.2.2 → S1.1 13 = nI (zW n lo (zTr n lo) k j).2.2.1 → (∀ t, t < 256 → S1.2.1 8 t = nI ((zW n lo (zTr n lo) k j).1 t)) → (∀ i, i < (zW n lo (zTr n lo) k j).2.2.1 → S1.2.1 9 i = nI ((zW n lo (zTr n lo) k j).2.1 i)) → zok1 [.ref r, .int (nI s), .int (nI k), .int (zbv (1 <<< n - j)), x4, x5] 5 = true → zGoP (d + 9) tX10_goesWays 49 [.ref r, .int (nI s), .int (nI k), .int (zbv (1 <<< n - j)), x4, x5] [] (zRh h r S1) Q := by
        refine zdown (1 <<< n) ?_ (fun j hp49 ih49 => ?_)
        · skip
          intro S1 x4 x5 hF h12 h13 hrw hen e5
          refine zG_s rfl rfl ?_
          refine zN_ifbv rfl (by omega) (fun c3 => ?_) (fun c4 => absurd c4 (by omega))
          try rw [zbv_s]
          -- leaf 1
          rw [← hQ]
          exact zG_ret rfl rfl ⟨rfl, S1, rfl, hF, h12, h13, hen⟩
        · skip
          intro S1 x4 x5 hF h12 h13 hrw hen e5
          have hS := hS0.fr hn hF zRwy_sp
          obtain ⟨c, hc⟩ : ∃ c, 1 <<< n - j = c + 1 := ⟨1 <<< n - j - 1, by omega⟩
          have hcj : c = 1 <<< n - 1 - j := by omega
          have hcj2 : c = 1 <<< n - (j + 1) := by omega
          have hB := zW_bd (k := k) (lo := lo) (hi := zTr n lo) hn j hp49
          have hW : zW n lo (zTr n lo) k (j + 1) = if zWx (zWg n lo (zTr n lo) k (zW n lo (zTr n lo) k j).1 c) c (zW n lo (zTr n lo) k j).1 n c ≠ 0 ∧ zWg n lo (zTr n lo) k (zW n lo (zTr n lo) k j).1 c = 0 then (zWx (zWg n lo (zTr n lo) k (zW n lo (zTr n lo) k j).1 c) c (zW n lo (zTr n lo) k j).1 n, zupd (zW n lo (zTr n lo) k j).2.1 (zW n lo (zTr n lo) k j).2.2.1 c, (zW n lo (zTr n lo) k j).2.2.1 + 1, (zW n lo (zTr n lo) k j).2.2.2 + zWx (zWg n lo (zTr n lo) k (zW n lo (zTr n lo) k j).1 c) c (zW n lo (zTr n lo) k j).1 n c) else (zWx (zWg n lo (zTr n lo) k (zW n lo (zTr n lo) k j).1 c) c (zW n lo (zTr n lo) k j).1 n, (zW n lo (zTr n lo) k j).2) := by rw [hcj]; rfl
          have he := zW_ec n lo (zTr n lo) k j
          rw [← hcj2] at ih49
          rw [hc] at e5 ⊢
          generalize zW n lo (zTr n lo) k j = q at *
          obtain ⟨f, E, m, T⟩ := q
          simp only at *
          have hself : ∀ x, zWx (zWg n lo (zTr n lo) k f c) c f x c = f c := fun x => zWx_self zWg_in
          have bc := zBd_lt hB (s := c) (by omega) (by omega)
          refine zG_s rfl rfl ?_
          refine zN_ifbv rfl (by omega) (fun c5 => absurd c5 (by omega)) (fun c6 => ?_)
          try rw [zbv_s]
          refine zG_s rfl rfl ?_
          refine zN_get rfl zRh_o rfl ?_
          refine zG_s rfl rfl ?_
          refine zR_ald (k := 8) (n := 256) rfl rfl (by omega) (hrw c (by omega)) ?_
          refine zN_le0 rfl (by omega) (fun c7 => ?_) (fun c8 => ?_)
          · skip
            refine zG_s rfl rfl ?_
            rw [show nI c + -1 = zbv c from zbv_dec]
            refine zG_s rfl rfl ?_
            -- leaf 2
            have hg0 : zWg n lo (zTr n lo) k f c = 0 := if_pos c7
            rw [hg0, zWx_0] at hW
            rw [hW, if_neg (fun g => g.1 c7)] at ih49
            exact ih49 _ _ _ hF h12 h13 hrw hen e5
          · skip
            have hG : zWg n lo (zTr n lo) k f c = zGoers n lo (zTr n lo) k c := if_neg (by omega)
            rw [hG] at hW hself
            have hGb : ∀ x, x < n → (zGoers n lo (zTr n lo) k c).testBit x = (c.testBit x && zMay n lo (zTr n lo) k x c) := fun x hx => by rw [zGoers, zbits_bit, decide_eq_true hx]; rfl
            have hGn : ∀ y, (zGoers n lo (zTr n lo) k c).testBit y = true → y < n := fun y hy => (zGoers_in y hy).1
            generalize zGoers n lo (zTr n lo) k c = G at *
            refine zG_s rfl rfl ?_
            refine zN_st4 rfl (fun _ _ _ => rfl) rfl ?_
            refine zG_s rfl rfl ?_
            refine zN_st5 rfl (fun _ _ _ => rfl) rfl ?_
            have main68 : ∀ x, x ≤ n → ∀ S2 : zRS, zRF zRwy S S2 → S2.1 12 = nI T → S2.1 13 = nI m → (∀ t, t < 256 → S2.2.1 8 t = nI (zWx G c f x t)) → (∀ i, i < m → S2.2.1 9 i = nI (E i)) → zGoP (d + 9) tX10_goesWays 68 [.ref r, .int (nI s), .int (nI k), .int (nI c), .int (nI (b2n (zAl (fun y => !G.testBit y) x))), .int (nI x)] [] (zRh h r S2) Q := by
              refine zdown (n) ?_ (fun x hp68 ih68 => ?_)
              · skip
                intro S2 hF2 h12 h13 hrw hen
                have hS := hS0.fr hn hF2 zRwy_sp
                refine zG_s rfl rfl ?_
                refine zG_s rfl rfl ?_
                refine zN_get rfl zRh_o rfl ?_
                refine zG_s rfl rfl ?_
                refine zR_ald (k := 3) (n := 10) rfl rfl (by omega) hS.1 ?_
                refine zN_ige rfl (by omega) (by omega) (fun c9 => ?_) (fun c10 => absurd c10 (by omega))
                refine zG_s rfl rfl ?_
                refine zN_ifb rfl (fun c11 => ?_) (fun c12 => ?_)
                · skip
                  refine zG_s rfl rfl ?_
                  rw [show nI c + -1 = zbv c from zbv_dec]
                  refine zG_s rfl rfl ?_
                  -- leaf 3
                  have hg0 : G ≠ 0 := fun e => by
                    rw [e, zAl_iff.mpr (fun i _ => by rw [Nat.zero_testBit]; rfl)] at c11
                    exact absurd c11 (by decide)
                  rw [hW, if_neg (fun g => hg0 g.2)] at ih49
                  exact ih49 _ _ _ hF2 h12 h13 hrw hen rfl
                · skip
                  refine zG_s rfl rfl ?_
                  refine zG_s rfl rfl ?_
                  refine zN_get rfl zRh_o rfl ?_
                  rw [h12]
                  refine zG_s rfl rfl ?_
                  refine zN_get rfl zRh_o rfl ?_
                  refine zG_s rfl rfl ?_
                  refine zR_ald (k := 8) (n := 256) rfl rfl (by omega) (hrw c (by omega)) ?_
                  rw [hself]
                  refine zN_add rfl ?_
                  refine zR_put rfl rfl rfl (fun _ => rfl) ?_
                  refine zG_s rfl rfl ?_
                  refine zN_get rfl zRh_o rfl ?_
                  refine zG_s rfl rfl ?_
                  refine zN_get rfl zRh_o rfl ?_
                  rw [show (zRi S2 12 (nI (T + f c))).1 13 = nI m from h13]
                  refine zG_s rfl rfl ?_
                  refine zR_ast (k := 9) (n := 256) rfl rfl (by omega) hr ?_
                  refine zG_s rfl rfl ?_
                  refine zG_s rfl rfl ?_
                  refine zN_get rfl zRh_o rfl ?_
                  rw [show (zRa (zRi S2 12 (nI (T + f c))) 9 m (nI c)).1 13 = nI m from h13]
                  refine zG_s rfl rfl ?_
                  refine zN_add rfl ?_
                  refine zR_put rfl rfl rfl (fun _ => rfl) ?_
                  refine zG_s rfl rfl ?_
                  rw [show nI c + -1 = zbv c from zbv_dec]
                  refine zG_s rfl rfl ?_
                  -- leaf 4
                  rw [hW, if_pos ⟨by rw [hself]; omega, zAl_0 hGn c12⟩, hself] at ih49
                  refine ih49 _ _ _ (((hF2.i (Or.inr (Or.inr ⟨rfl, Or.inl rfl⟩))).a (Or.inr (Or.inl rfl))).i (Or.inr (Or.inr ⟨rfl, Or.inr rfl⟩))) rfl rfl (fun t ht => ?_) (fun i hi => ?_) rfl
                  · show (zRa (zRi S2 12 (nI (T + f c))) 9 m (nI c)).2.1 8 t = _
                    rw [zRa_ne (Or.inl (by decide))]
                    exact hrw t ht
                  · show (zRa (zRi S2 12 (nI (T + f c))) 9 m (nI c)).2.1 9 i = nI (zupd E m c i)
                    by_cases e : i = m
                    · rw [e, zRa_at, zupd_at]
                    · rw [zRa_ne (Or.inr e), zupd_ne _ _ e]
                      exact hen i (by have hi : i < m + 1 := hi; omega)
              · skip
                intro S2 hF2 h12 h13 hrw hen
                have hS := hS0.fr hn hF2 zRwy_sp
                have lz := zan_le c (1 <<< x)
                have hgb := hGb x hp68
                refine zG_s rfl rfl ?_
                refine zG_s rfl rfl ?_
                refine zN_get rfl zRh_o rfl ?_
                refine zG_s rfl rfl ?_
                refine zR_ald (k := 3) (n := 10) rfl rfl (by omega) hS.1 ?_
                refine zN_ige rfl (by omega) (by omega) (fun c13 => absurd c13 (by omega)) (fun c14 => ?_)
                refine zG_s rfl rfl ?_
                refine zG_s rfl rfl ?_
                refine zG_cS1 rfl rfl (cr_has _ (by omega) (by omega)) ?_
                first | refine zN_ifb rfl (fun c15 => ?_) (fun c16 => ?_) | refine zN_eq0 rfl (by omega) (fun c15 => ?_) (fun c16 => ?_)
                · skip
                  refine zN_inc5 rfl rfl ?_
                  refine zG_s rfl rfl ?_
                  -- leaf 5
                  have hg0 : G.testBit x = false := by rw [hgb, c15]; rfl
                  rw [show zWx G c f (x + 1) = zWx G c f x from by rw [zWx, if_neg (by rw [hg0]; decide)], show zAl (fun y => !G.testBit y) (x + 1) = zAl (fun y => !G.testBit y) x from by show (zAl _ x && !G.testBit x) = _; rw [hg0]; exact Bool.and_true _] at ih68
                  exact ih68 _ hF2 h12 h13 hrw hen
                · skip
                  refine zG_s rfl rfl ?_
                  refine zG_s rfl rfl ?_
                  refine zG_s rfl rfl ?_
                  refine zG_s rfl rfl ?_
                  refine zG_s rfl rfl ?_
                  refine zG_cV1 rfl rfl zRh_o rfl rfl (cr_mayGo hS hP hk hp68 (by assumption) (by omega)) ?_
                  first | refine zN_ifb rfl (fun c17 => ?_) (fun c18 => ?_) | refine zN_eq0 rfl (by omega) (fun c17 => ?_) (fun c18 => ?_)
                  · skip
                    refine zN_inc5 rfl rfl ?_
                    refine zG_s rfl rfl ?_
                    -- leaf 6
                    have hg0 : G.testBit x = false := by rw [hgb, c17, Bool.and_false]
                    rw [show zWx G c f (x + 1) = zWx G c f x from by rw [zWx, if_neg (by rw [hg0]; decide)], show zAl (fun y => !G.testBit y) (x + 1) = zAl (fun y => !G.testBit y) x from by show (zAl _ x && !G.testBit x) = _; rw [hg0]; exact Bool.and_true _] at ih68
                    exact ih68 _ hF2 h12 h13 hrw hen
                  · skip
                    refine zG_s rfl rfl ?_
                    refine zN_get rfl zRh_o rfl ?_
                    refine zG_s rfl rfl ?_
                    refine zG_s rfl rfl ?_
                    refine zG_s rfl rfl ?_
                    refine zN_shl rfl (by omega) ?_
                    refine zG_s rfl rfl ?_
                    refine zN_not rfl ?_
                    refine zN_andn rfl ?_
                    refine zG_s rfl rfl ?_
                    refine zR_ald (k := 8) (n := 256) rfl rfl (by omega) (hrw _ (by omega)) ?_
                    refine zG_s rfl rfl ?_
                    refine zN_get rfl zRh_o rfl ?_
                    refine zG_s rfl rfl ?_
                    refine zR_ald (k := 8) (n := 256) rfl rfl (by omega) (hrw c (by omega)) ?_
                    refine zN_add rfl ?_
                    refine zR_ast (k := 8) (n := 256) rfl rfl (by omega) hr ?_
                    refine zG_s rfl rfl ?_
                    refine zN_st4 rfl (fun _ _ _ => rfl) rfl ?_
                    refine zN_inc5 rfl rfl ?_
                    refine zG_s rfl rfl ?_
                    -- leaf 7
                    have hg1 : G.testBit x = true := by rw [hgb, c16, c18]; rfl
                    rw [show zWx G c f (x + 1) = zupd (zWx G c f x) (zan c (1 <<< x)) (zWx G c f x (zan c (1 <<< x)) + zWx G c f x c) from by rw [zWx, if_pos hg1], show zAl (fun y => !G.testBit y) (x + 1) = false from by show (zAl _ x && !G.testBit x) = _; rw [hg1]; exact Bool.and_false _] at ih68
                    refine ih68 _ (hF2.a (Or.inl rfl)) h12 h13 (fun t ht => ?_) (fun i hi => ?_)
                    · by_cases e : t = zan c (1 <<< x)
                      · rw [e, zRa_at, zupd_at]
                      · rw [zRa_ne (Or.inr e), zupd_ne _ _ e]
                        exact hrw t ht
                    · rw [zRa_ne (Or.inl (by decide))]
                      exact hen i hi
            exact main68 0 (by omega) _ hF h12 h13 hrw hen
      refine main49 0 (by omega) _ _ _ hF2 rfl rfl (fun t ht => ?_) (fun i hi => absurd hi (Nat.not_lt_zero i)) rfl
      show (zRa S1 8 (1 <<< n - 1) (nI 1)).2.1 8 t = nI (if t = 1 <<< n - 1 then 1 else 0)
      by_cases e : t = 1 <<< n - 1
      · rw [if_pos e, e]; exact zRa_at
      · rw [if_neg e, zRa_ne (Or.inr e)]; exact hA t ht
    · skip
      intro S1 hF hA
      refine zG_s rfl rfl ?_
      refine zG_s rfl rfl ?_
      refine zN_ige rfl (by omega) (by omega) (fun c19 => absurd c19 (by omega)) (fun c20 => ?_)
      refine zG_s rfl rfl ?_
      refine zN_get rfl zRh_o rfl ?_
      refine zG_s rfl rfl ?_
      refine zG_s rfl rfl ?_
      refine zR_ast (k := 8) (n := 256) rfl rfl (by omega) hr ?_
      refine zN_inc3 rfl rfl ?_
      refine zG_s rfl rfl ?_
      -- leaf 8
      exact ih2 _ (hF.a (Or.inl rfl)) (zRa_row0 (f := fun _ => 0) hA rfl)
  exact main2 0 (by omega) _ zRF.rf (fun j hj => absurd hj (Nat.not_lt_zero j))
