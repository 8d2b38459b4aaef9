abbrev zRX (h : zH) (r : Nat) (S : zRS) (P : Nat → Nat → Prop) (Q : zRS → Prop) : zH → Prop := fun h1 => ∃ S1, h1 = zRh h r S1 ∧ zRF P S S1 ∧ Q S1
def zRrw (k s : Nat) (k2 j : Nat) : Prop := k2 = k ∧ 8 * s ≤ j ∧ j < 8 * s + 8
theorem zRrw.sp {k s : Nat} (hk : k = 1 ∨ k = 2) : ∀ a b, zRrw k s a b → zRsp s a b := fun a b h => by
  obtain ⟨h1, h2, h3⟩ := h
  refine Or.inl ⟨?_, h2, h3⟩
  omega
theorem zRrw.m {k s : Nat} (hk : k = 1 ∨ k = 2) {t : Nat} : ¬ zRrw k s 3 t := fun h => by
  obtain ⟨h1, h2, h3⟩ := h
  omega
theorem zRrw.no {k k2 s j : Nat} (hk : k2 ≠ k) : ¬ zRrw k s k2 j := fun h => by
  obtain ⟨h1, h2, h3⟩ := h
  omega
theorem zRa_row {S1 : zRS} {k b m : Nat} {f : Nat → Nat} {w : Int32} (hY : ∀ x, x < m → S1.2.1 k (b + x) = nI (f x)) (hw : w = nI (f m)) : ∀ x, x < m + 1 → (zRa S1 k (b + m) w).2.1 k (b + x) = nI (f x) := fun x hx => by
  by_cases e : x = m
  · rw [e, zRa_at, hw]
  · rw [zRa_ne (Or.inr (by omega))]
    exact hY x (by omega)
theorem zRa_rw2 {S1 : zRS} {k k2 b m : Nat} {f : Nat → Nat} {c : Nat → Prop} {w : Int32} (hY : ∀ x, c x → S1.2.1 k2 (b + x) = nI (f x)) (hk : k2 ≠ k) : ∀ x, c x → (zRa S1 k m w).2.1 k2 (b + x) = nI (f x) := fun x hx => by
  rw [zRa_ne (Or.inl hk)]
  exact hY x hx
theorem cr_turns {d r s n : Nat} {h : zH} {S : zRS} {lo : Nat → Nat} (hr : 2 ≤ r) (hs : s < 10) (hn : n ≤ 8) (hN : S.2.1 3 s = nI n) (hL : ∀ x, x < n → S.2.1 1 (8 * s + x) = nI (lo x)) (hb : ∀ x, x < n → lo x < 256) : zCallP (d + 2) 175 [.ref r, .int (nI s)] (zRh h r S) (zRN (zRX h r S (zRrw 2 s) (fun S1 => zRs S1 s n lo))) := by
  refine zG_mP (t := tX10_turns) (ls0 := [.ref r, .int (nI s), .null, .null, .null]) rfl rfl (zdnR (zdnI zdn0)) rfl ?_
  refine zG_s rfl rfl ?_
  refine zN_st2 rfl (fun _ _ _ => rfl) rfl ?_
  have main2 : ∀ y, y ≤ n → ∀ (S1 : zRS) (x3 x4 : Value), zRF (zRrw 2 s) S S1 → (∀ x, x < y → S1.2.1 2 (8 * s + x) = nI (zTr n lo x)) → zGoP (d + 1) tX10_turns 2 [.ref r, .int (nI s), .int (nI y), x3, x4] [] (zRh h r S1) (zRN (zRX h r S (zRrw 2 s) (fun S1 => zRs S1 s n lo))) := by
    refine zdown (n) ?_ (fun y hp2 ih2 => ?_)
    · skip
      intro S1 x3 x4 hF hY
      have hN1 := (hF.2.1 3 s (zRrw.m (Or.inr rfl))).trans hN
      have hL1 : ∀ x, x < n → S1.2.1 1 (8 * s + x) = nI (lo x) := fun x hx => (hF.2.1 1 _ (zRrw.no (by decide))).trans (hL x hx)
      refine zG_s rfl rfl ?_
      refine zG_s rfl rfl ?_
      refine zN_get rfl zRh_o rfl ?_
      refine zG_s rfl rfl ?_
      refine zR_ald (k := 3) (n := 10) rfl rfl (by omega) hN1 ?_
      refine zN_ige rfl (by omega) (by omega) (fun c1 => ?_) (fun c2 => absurd c2 (by omega))
      -- leaf 1
      exact zG_ret rfl rfl ⟨rfl, S1, rfl, hF, hN1, hs, fun x hx => ⟨hL1 x hx, hY x hx⟩⟩
    · skip
      intro S1 x3 x4 hF hY
      have hN1 := (hF.2.1 3 s (zRrw.m (Or.inr rfl))).trans hN
      have hL1 : ∀ x, x < n → S1.2.1 1 (8 * s + x) = nI (lo x) := fun x hx => (hF.2.1 1 _ (zRrw.no (by decide))).trans (hL x hx)
      refine zG_s rfl rfl ?_
      refine zG_s rfl rfl ?_
      refine zN_get rfl zRh_o rfl ?_
      refine zG_s rfl rfl ?_
      refine zR_ald (k := 3) (n := 10) rfl rfl (by omega) hN1 ?_
      refine zN_ige rfl (by omega) (by omega) (fun c3 => absurd c3 (by omega)) (fun c4 => ?_)
      refine zG_s rfl rfl ?_
      refine zN_st3 rfl (fun _ _ _ => rfl) rfl ?_
      refine zG_s rfl rfl ?_
      refine zN_st4 rfl (fun _ _ _ => rfl) rfl ?_
      have main17 : ∀ x, x ≤ n → zGoP (d + 1) tX10_turns 17 [.ref r, .int (nI s), .int (nI y), .int (nI (zbits (fun x => (lo x).testBit y) x)), .int (nI x)] [] (zRh h r S1) (zRN (zRX h r S (zRrw 2 s) (fun S1 => zRs S1 s n lo))) := by
        refine zdown (n) ?_ (fun x hp17 ih17 => ?_)
        · skip
          refine zG_s rfl rfl ?_
          refine zG_s rfl rfl ?_
          refine zN_get rfl zRh_o rfl ?_
          refine zG_s rfl rfl ?_
          refine zR_ald (k := 3) (n := 10) rfl rfl (by omega) hN1 ?_
          refine zN_ige rfl (by omega) (by omega) (fun c5 => ?_) (fun c6 => absurd c6 (by omega))
          refine zG_s rfl rfl ?_
          refine zN_get rfl zRh_o rfl ?_
          refine zG_s rfl rfl ?_
          refine zG_s rfl rfl ?_
          refine zN_mul rfl ?_
          refine zG_s rfl rfl ?_
          refine zN_add rfl ?_
          refine zG_s rfl rfl ?_
          refine zR_ast (k := 2) (n := 80) rfl rfl (by omega) hr ?_
          refine zN_inc2 rfl rfl ?_
          refine zG_s rfl rfl ?_
          -- leaf 2
          exact ih2 _ _ _ (hF.a ⟨rfl, by omega, by omega⟩) (zRa_row hY rfl)
        · skip
          have hbx := hb x (by omega)
          refine zG_s rfl rfl ?_
          refine zG_s rfl rfl ?_
          refine zN_get rfl zRh_o rfl ?_
          refine zG_s rfl rfl ?_
          refine zR_ald (k := 3) (n := 10) rfl rfl (by omega) hN1 ?_
          refine zN_ige rfl (by omega) (by omega) (fun c7 => absurd c7 (by omega)) (fun c8 => ?_)
          refine zG_s rfl rfl ?_
          refine zG_s rfl rfl ?_
          refine zN_get rfl zRh_o rfl ?_
          refine zG_s rfl rfl ?_
          refine zG_s rfl rfl ?_
          refine zN_mul rfl ?_
          refine zG_s rfl rfl ?_
          refine zN_add rfl ?_
          refine zR_ald (k := 1) (n := 80) rfl rfl (by omega) (hL1 x (by omega)) ?_
          refine zG_s rfl rfl ?_
          refine zG_cS1 rfl rfl (cr_has _ (by omega) (by omega)) ?_
          first | refine zN_ifb rfl (fun c9 => ?_) (fun c10 => ?_) | refine zN_eq0 rfl (by omega) (fun c9 => ?_) (fun c10 => ?_)
          · skip
            refine zG_s rfl rfl ?_
            refine zN_or rfl ?_
            refine zN_st3 rfl (fun _ _ _ => rfl) rfl ?_
            refine zN_inc4 rfl rfl ?_
            refine zG_s rfl rfl ?_
            -- leaf 3
            rw [Nat.or_zero]
            rw [zbits_no (by assumption)] at ih17
            exact ih17
          · skip
            refine zG_s rfl rfl ?_
            refine zG_s rfl rfl ?_
            refine zN_shl rfl (by omega) ?_
            refine zG_s rfl rfl ?_
            refine zN_or rfl ?_
            refine zN_st3 rfl (fun _ _ _ => rfl) rfl ?_
            refine zN_inc4 rfl rfl ?_
            refine zG_s rfl rfl ?_
            -- leaf 4
            rw [zbits_yes (by assumption)] at ih17
            exact ih17
      exact main17 0 (by omega)
  exact main2 0 (by omega) _ _ _ zRF.rf (fun x hx => absurd hx (by omega))
theorem zDisc_lt {n x : Nat} (hx : x < 8) : zDisc x < 256 := zsh1_lt hx
theorem cr_empties {d r s n : Nat} {h : zH} {S : zRS} (hr : 2 ≤ r) (hs : s < 10) (hn : n ≤ 8) : zCallP (d + 1) 176 [.ref r, .int (nI s), .int (nI n)] (zRh h r S) (zRN (zRX h r S (zRsp s) (fun S1 => zRs S1 s n zDisc))) := by
  refine zG_mP (t := tX10_empties) (ls0 := [.ref r, .int (nI s), .int (nI n), .null]) rfl rfl (zdnR (zdnI (zdnI zdn0))) rfl ?_
  refine zG_s rfl rfl ?_
  refine zN_get rfl zRh_o rfl ?_
  refine zG_s rfl rfl ?_
  refine zG_s rfl rfl ?_
  refine zR_ast (k := 3) (n := 10) rfl rfl (by omega) hr ?_
  refine zG_s rfl rfl ?_
  refine zN_st3 rfl (fun _ _ _ => rfl) rfl ?_
  have main9 : ∀ x, x ≤ 8 → ∀ S1 : zRS, zRF (zRsp s) S S1 → S1.2.1 3 s = nI n → (∀ i, i < x → S1.2.1 1 (8 * s + i) = nI (zDisc i)) → (∀ i, i < x → S1.2.1 2 (8 * s + i) = nI (zDisc i)) → zGoP (d) tX10_empties 9 [.ref r, .int (nI s), .int (nI n), .int (nI x)] [] (zRh h r S1) (zRN (zRX h r S (zRsp s) (fun S1 => zRs S1 s n zDisc))) := by
    refine zdown (8) ?_ (fun x hp9 ih9 => ?_)
    · skip
      intro S1 hF hN1 hA hB
      refine zG_s rfl rfl ?_
      refine zG_s rfl rfl ?_
      refine zN_ige rfl (by omega) (by omega) (fun c1 => ?_) (fun c2 => absurd c2 (by omega))
      -- leaf 1
      exact zG_ret rfl rfl ⟨rfl, S1, rfl, hF, hN1, hs, fun x hx => ⟨hA x (by omega), by rw [zTr_disc hx]; exact hB x (by omega)⟩⟩
    · skip
      intro S1 hF hN1 hA hB
      refine zG_s rfl rfl ?_
      refine zG_s rfl rfl ?_
      refine zN_ige rfl (by omega) (by omega) (fun c3 => absurd c3 (by omega)) (fun c4 => ?_)
      refine zG_s rfl rfl ?_
      refine zN_get rfl zRh_o rfl ?_
      refine zG_s rfl rfl ?_
      refine zG_s rfl rfl ?_
      refine zN_mul rfl ?_
      refine zG_s rfl rfl ?_
      refine zN_add rfl ?_
      refine zG_s rfl rfl ?_
      refine zG_s rfl rfl ?_
      refine zN_shl rfl (by omega) ?_
      refine zR_ast (k := 1) (n := 80) rfl rfl (by omega) hr ?_
      refine zG_s rfl rfl ?_
      refine zN_get rfl zRh_o rfl ?_
      refine zG_s rfl rfl ?_
      refine zG_s rfl rfl ?_
      refine zN_mul rfl ?_
      refine zG_s rfl rfl ?_
      refine zN_add rfl ?_
      refine zG_s rfl rfl ?_
      refine zG_s rfl rfl ?_
      refine zN_shl rfl (by omega) ?_
      refine zR_ast (k := 2) (n := 80) rfl rfl (by omega) hr ?_
      refine zN_inc3 rfl rfl ?_
      refine zG_s rfl rfl ?_
      -- leaf 2
      refine ih9 _ ((hF.a (Or.inl ⟨Or.inl rfl, by omega, by omega⟩)).a (Or.inl ⟨Or.inr rfl, by omega, by omega⟩)) ?_ ?_ ?_
      · rw [zRa_ne (Or.inl (by decide)), zRa_ne (Or.inl (by decide))]; exact hN1
      · exact zRa_rw2 (zRa_row hA rfl) (by decide)
      · exact zRa_row (zRa_rw2 hB (by decide)) rfl
  exact main9 0 (by omega) _ (zRF.rf.a (Or.inr ⟨rfl, rfl⟩)) zRa_at (fun i hi => absurd hi (by omega)) (fun i hi => absurd hi (by omega))
theorem cr_copies {d r s t n : Nat} {h : zH} {S : zRS} {lo : Nat → Nat} (hr : 2 ≤ r) (hS : zRs S s n lo) (hn : n ≤ 8) (ht : t < 10) (hst : s ≠ t) : zCallP (d + 1) 177 [.ref r, .int (nI s), .int (nI t)] (zRh h r S) (zRN (zRX h r S (zRsp t) (fun S1 => zRs S1 t n lo))) := by
  have hs := hS.2.1
  refine zG_mP (t := tX10_copies) (ls0 := [.ref r, .int (nI s), .int (nI t), .null]) rfl rfl (zdnR (zdnI (zdnI zdn0))) rfl ?_
  refine zG_s rfl rfl ?_
  refine zN_get rfl zRh_o rfl ?_
  refine zG_s rfl rfl ?_
  refine zG_s rfl rfl ?_
  refine zN_get rfl zRh_o rfl ?_
  refine zG_s rfl rfl ?_
  refine zR_ald (k := 3) (n := 10) rfl rfl (by omega) hS.1 ?_
  refine zR_ast (k := 3) (n := 10) rfl rfl (by omega) hr ?_
  refine zG_s rfl rfl ?_
  refine zN_st3 rfl (fun _ _ _ => rfl) rfl ?_
  have main14 : ∀ x, x ≤ 8 → ∀ S1 : zRS, zRF (zRsp t) S S1 → S1.2.1 3 t = nI n → (∀ i, i < x → S1.2.1 1 (8 * t + i) = S.2.1 1 (8 * s + i)) → (∀ i, i < x → S1.2.1 2 (8 * t + i) = S.2.1 2 (8 * s + i)) → zGoP (d) tX10_copies 14 [.ref r, .int (nI s), .int (nI t), .int (nI x)] [] (zRh h r S1) (zRN (zRX h r S (zRsp t) (fun S1 => zRs S1 t n lo))) := by
    refine zdown (8) ?_ (fun x hp14 ih14 => ?_)
    · skip
      intro S1 hF hN1 hA hB
      refine zG_s rfl rfl ?_
      refine zG_s rfl rfl ?_
      refine zN_ige rfl (by omega) (by omega) (fun c1 => ?_) (fun c2 => absurd c2 (by omega))
      -- leaf 1
      exact zG_ret rfl rfl ⟨rfl, S1, rfl, hF, hN1, ht, fun x hx => ⟨(hA x (by omega)).trans (hS.2.2 x hx).1, (hB x (by omega)).trans (hS.2.2 x hx).2⟩⟩
    · skip
      intro S1 hF hN1 hA hB
      refine zG_s rfl rfl ?_
      refine zG_s rfl rfl ?_
      refine zN_ige rfl (by omega) (by omega) (fun c3 => absurd c3 (by omega)) (fun c4 => ?_)
      refine zG_s rfl rfl ?_
      refine zN_get rfl zRh_o rfl ?_
      refine zG_s rfl rfl ?_
      refine zG_s rfl rfl ?_
      refine zN_mul rfl ?_
      refine zG_s rfl rfl ?_
      refine zN_add rfl ?_
      refine zG_s rfl rfl ?_
      refine zN_get rfl zRh_o rfl ?_
      refine zG_s rfl rfl ?_
      refine zG_s rfl rfl ?_
      refine zN_mul rfl ?_
      refine zG_s rfl rfl ?_
      refine zN_add rfl ?_
      refine zR_ald (k := 1) (n := 80) rfl rfl (by omega) (hF.2.1 1 _ (by unfold zRsp; omega)) ?_
      refine zR_ast (k := 1) (n := 80) rfl rfl (by omega) hr ?_
      refine zG_s rfl rfl ?_
      refine zN_get rfl zRh_o rfl ?_
      refine zG_s rfl rfl ?_
      refine zG_s rfl rfl ?_
      refine zN_mul rfl ?_
      refine zG_s rfl rfl ?_
      refine zN_add rfl ?_
      refine zG_s rfl rfl ?_
      refine zN_get rfl zRh_o rfl ?_
      refine zG_s rfl rfl ?_
      refine zG_s rfl rfl ?_
      refine zN_mul rfl ?_
      refine zG_s rfl rfl ?_
      refine zN_add rfl ?_
      refine zR_ald (k := 2) (n := 80) rfl rfl (by omega) ((zRa_ne (Or.inl (by decide))).trans (hF.2.1 2 _ (by unfold zRsp; omega))) ?_
      refine zR_ast (k := 2) (n := 80) rfl rfl (by omega) hr ?_
      refine zN_inc3 rfl rfl ?_
      refine zG_s rfl rfl ?_
      -- leaf 2
      refine ih14 _ ((hF.a (Or.inl ⟨Or.inl rfl, by omega, by omega⟩)).a (Or.inl ⟨Or.inr rfl, by omega, by omega⟩)) ?_ ?_ ?_
      · rw [zRa_ne (Or.inl (by decide)), zRa_ne (Or.inl (by decide))]; exact hN1
      · intro i hi
        rw [zRa_ne (Or.inl (by decide))]
        by_cases e : i = x
        · rw [e, zRa_at]
        · rw [zRa_ne (Or.inr (by omega))]; exact hA i (by omega)
      · intro i hi
        by_cases e : i = x
        · rw [e, zRa_at]
        · rw [zRa_ne (Or.inr (by omega)), zRa_ne (Or.inl (by decide))]; exact hB i (by omega)
  exact main14 0 (by omega) _ (zRF.rf.a (Or.inr ⟨rfl, rfl⟩)) zRa_at (fun i hi => absurd hi (by omega)) (fun i hi => absurd hi (by omega))
theorem cr_nests {d r s n x y : Nat} {h : zH} {S : zRS} {lo : Nat → Nat} (hr : 2 ≤ r) (hS : zRs S s n lo) (hP : zPre n lo) (hx : x < n) (hy : y < n) : zCallP (d + 3) 179 [.ref r, .int (nI s), .int (nI x), .int (nI y)] (zRh h r S) (zRV (.int (nI (zNew n lo x y))) (zRX h r S (zRsp s) (fun S1 => zRs S1 s n (zNst lo x y)))) := by
  have hs := hS.2.1
  have hn := hP.1
  have hly := hP.b hy
  have hlx : zTr n lo x < 256 := zbits_lt8 _ hn
  generalize hFF : (fun p => if (lo p).testBit x then zcnt (zan (lo y) (lo p)) else 0) = F
  have hz : zNew n lo x y = zsm F n := by rw [← hFF]; rfl
  rw [hz]
  refine zG_mP (t := tX10_nests) (ls0 := [.ref r, .int (nI s), .int (nI x), .int (nI y), .null, .null, .null, .null]) rfl rfl (zdnR (zdnI (zdnI (zdnI zdn0)))) rfl ?_
  refine zG_s rfl rfl ?_
  refine zN_get rfl zRh_o rfl ?_
  refine zG_s rfl rfl ?_
  refine zG_s rfl rfl ?_
  refine zN_mul rfl ?_
  refine zG_s rfl rfl ?_
  refine zN_add rfl ?_
  refine zR_ald (k := 1) (n := 80) rfl rfl (by omega) (hS.2.2 _ (by omega)).1 ?_
  refine zN_st4 rfl (fun _ _ _ => rfl) rfl ?_
  refine zG_s rfl rfl ?_
  refine zN_get rfl zRh_o rfl ?_
  refine zG_s rfl rfl ?_
  refine zG_s rfl rfl ?_
  refine zN_mul rfl ?_
  refine zG_s rfl rfl ?_
  refine zN_add rfl ?_
  refine zR_ald (k := 2) (n := 80) rfl rfl (by omega) (hS.2.2 _ (by omega)).2 ?_
  refine zN_st5 rfl (fun _ _ _ => rfl) rfl ?_
  refine zG_s rfl rfl ?_
  refine zN_st6 rfl (fun _ _ _ => rfl) rfl ?_
  refine zG_s rfl rfl ?_
  refine zN_st7 rfl (fun _ _ _ => rfl) rfl ?_
  have main32 : ∀ p, p ≤ n → ∀ S1 : zRS, zRF (zRrw 1 s) S S1 → (∀ i, i < p → S1.2.1 1 (8 * s + i) = nI (zNst lo x y i)) → (∀ i, p ≤ i → i < n → S1.2.1 1 (8 * s + i) = nI (lo i)) → zGoP (d + 2) tX10_nests 32 [.ref r, .int (nI s), .int (nI x), .int (nI y), .int (nI (lo y)), .int (nI (zTr n lo x)), .int (nI (zsm F p)), .int (nI p)] [] (zRh h r S1) (zRV (.int (nI (zsm F n))) (zRX h r S (zRsp s) (fun S1 => zRs S1 s n (zNst lo x y)))) := by
    refine zdown (n) ?_ (fun p hp32 ih32 => ?_)
    · skip
      intro S1 hF hA hB
      have hN1 := (hF.2.1 3 s (zRrw.m (Or.inl rfl))).trans hS.1
      refine zG_s rfl rfl ?_
      refine zG_s rfl rfl ?_
      refine zN_get rfl zRh_o rfl ?_
      refine zG_s rfl rfl ?_
      refine zR_ald (k := 3) (n := 10) rfl rfl (by omega) hN1 ?_
      refine zN_ige rfl (by omega) (by omega) (fun c1 => ?_) (fun c2 => absurd c2 (by omega))
      refine zG_s rfl rfl ?_
      refine zG_s rfl rfl ?_
      refine zG_cQN rfl rfl zRh_o rfl rfl (cr_turns hr hs hn hN1 hA (fun i hi => (hP.nst hy).b hi)) (fun h1 hB => ?_)
      obtain ⟨S2, rfl, hF2, hS2⟩ := hB
      refine zG_s rfl rfl ?_
      -- leaf 1
      exact zG_ret rfl rfl ⟨rfl, S2, rfl, (hF.mono (zRrw.sp (Or.inl rfl))).tr (hF2.mono (zRrw.sp (Or.inr rfl))), hS2⟩
    · skip
      intro S1 hF hA hB
      have hN1 := (hF.2.1 3 s (zRrw.m (Or.inl rfl))).trans hS.1
      have hlp := hP.b hp32
      have eb : (zTr n lo x).testBit p = (lo p).testBit x := by rw [zTr_bit, decide_eq_true hp32]; rfl
      refine zG_s rfl rfl ?_
      refine zG_s rfl rfl ?_
      refine zN_get rfl zRh_o rfl ?_
      refine zG_s rfl rfl ?_
      refine zR_ald (k := 3) (n := 10) rfl rfl (by omega) hN1 ?_
      refine zN_ige rfl (by omega) (by omega) (fun c3 => absurd c3 (by omega)) (fun c4 => ?_)
      refine zG_s rfl rfl ?_
      refine zG_s rfl rfl ?_
      refine zG_cS1 rfl rfl (cr_has _ (by omega) (by omega)) ?_
      first | refine zN_ifb rfl (fun c5 => ?_) (fun c6 => ?_) | refine zN_eq0 rfl (by omega) (fun c5 => ?_) (fun c6 => ?_)
      · skip
        refine zN_inc7 rfl rfl ?_
        refine zG_s rfl rfl ?_
        -- leaf 2
        have e1 : zsm F (p + 1) = zsm F p := by rw [zsm, ← hFF]; show _ + (if (lo p).testBit x = true then _ else 0) = _; rw [← eb, c5]; rfl
        have e2 : zNst lo x y p = lo p := by unfold zNst; rw [← eb, c5]; rfl
        rw [e1] at ih32
        refine ih32 S1 hF (fun i hi => ?_) (fun i h1 h2 => hB i (by omega) h2)
        by_cases e : i = p
        · rw [e, e2]; exact hB p (Nat.le_refl _) hp32
        · exact hA i (by omega)
      · skip
        refine zG_s rfl rfl ?_
        refine zG_s rfl rfl ?_
        refine zG_s rfl rfl ?_
        refine zN_get rfl zRh_o rfl ?_
        refine zG_s rfl rfl ?_
        refine zG_s rfl rfl ?_
        refine zN_mul rfl ?_
        refine zG_s rfl rfl ?_
        refine zN_add rfl ?_
        refine zR_ald (k := 1) (n := 80) rfl rfl (by omega) (hB p (by omega) hp32) ?_
        refine zG_s rfl rfl ?_
        refine zN_not rfl ?_
        refine zN_andn rfl ?_
        refine zG_cS1 rfl rfl (cr_size (zan_lt _ hly)) ?_
        refine zN_add rfl ?_
        refine zN_st6 rfl (fun _ _ _ => rfl) rfl ?_
        refine zG_s rfl rfl ?_
        refine zN_get rfl zRh_o rfl ?_
        refine zG_s rfl rfl ?_
        refine zG_s rfl rfl ?_
        refine zN_mul rfl ?_
        refine zG_s rfl rfl ?_
        refine zN_add rfl ?_
        refine zG_s rfl rfl ?_
        refine zR_ald (k := 1) (n := 80) rfl rfl (by omega) (hB p (by omega) hp32) ?_
        refine zG_s rfl rfl ?_
        refine zN_or rfl ?_
        refine zR_ast (k := 1) (n := 80) rfl rfl (by omega) hr ?_
        refine zN_inc7 rfl rfl ?_
        refine zG_s rfl rfl ?_
        -- leaf 3
        have e1 : zsm F (p + 1) = zsm F p + zcnt (zan (lo y) (lo p)) := by rw [zsm, ← hFF]; show _ + (if (lo p).testBit x = true then _ else 0) = _; rw [← eb, c6]; rfl
        have e2 : zNst lo x y p = lo p ||| lo y := by unfold zNst; rw [← eb, c6]; rfl
        rw [e1] at ih32
        refine ih32 _ (hF.a ⟨rfl, by omega, by omega⟩) (zRa_row hA (by rw [e2])) (fun i h1 h2 => ?_)
        rw [zRa_ne (Or.inr (by omega))]
        exact hB i (by omega) h2
  exact main32 0 (by omega) _ zRF.rf (fun i hi => absurd hi (by omega)) (fun i _ hi => (hS.2.2 i hi).1)
