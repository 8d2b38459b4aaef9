def zRkp (k j : Nat) : Prop := k = 4 ∨ k = 5 ∨ (k = 0 ∧ (j = 6 ∨ j = 7))
theorem cr_keep {d r : Nat} {h : zH} {S : zRS} {s : zST} (hr : 2 ≤ r) (hI : zRI S s) (hW : zWT s) : zCallP (d + 1) 288 [.ref r] (zRh h r S) (zROut h r (zo_keep s)) := by
  refine zG_mP (t := tX10_keep) (ls0 := [.ref r, .null, .null]) rfl rfl (zdnR zdn0) rfl ?_
  refine zG_s rfl rfl ?_
  refine zN_st1 rfl (fun _ _ _ => rfl) rfl ?_
  have main2 : ∀ i, i ≤ 6 → ∀ (S1 : zRS) (x2 : Value), zRF zRkp S S1 → (∀ q, q < i → S1.2.1 5 q = S.2.1 3 q ∧ ∀ x, x < 8 → S1.2.1 4 (8 * q + x) = S.2.1 1 (8 * q + x)) → zGoP (d) tX10_keep 2 [.ref r, .int (nI i), x2] [] (zRh h r S1) (zROut h r (zo_keep s)) := by
    refine zdown (6) ?_ (fun i hp2 ih2 => ?_)
    · skip
      intro S1 x2 hF hA
      have h5 : S1.1 5 = s.2.2.1.1 := (hF.1 5 (by unfold zRkp; omega)).trans hI.z.1
      refine zG_s rfl rfl ?_
      refine zG_s rfl rfl ?_
      refine zN_ige rfl (by omega) (by omega) (fun c1 => ?_) (fun c2 => absurd c2 (by omega))
      refine zG_s rfl rfl ?_
      refine zG_s rfl rfl ?_
      refine zN_get rfl zRh_o rfl ?_
      rw [h5]
      refine zR_put rfl rfl rfl (fun _ => rfl) ?_
      refine zG_s rfl rfl ?_
      refine zG_s rfl rfl ?_
      refine zR_put rfl rfl rfl (fun _ => rfl) ?_
      refine zG_s rfl rfl ?_
      -- leaf 1
      have hF2 : zRF zRkp S (zRi (zRi S1 6 s.2.2.1.1) 7 (nI 1)) := (hF.i (Or.inr (Or.inr ⟨rfl, Or.inl rfl⟩))).i (Or.inr (Or.inr ⟨rfl, Or.inr rfl⟩))
      refine zG_ret rfl rfl (zRfin rfl ⟨hI.sp.fr (fun i hi => (hW.1 i hi).1) hF2 (fun k j g => by unfold zRkp; omega), fun i hi => ⟨(hA i hi).1.trans (hI.sp i hi).1, fun x hx => ?_⟩, ⟨h5, fun _ => rfl, rfl⟩, hI.tp.fr hF2 (by unfold zRkp; omega) (fun j => by unfold zRkp; omega), hI.sh.fr hF2 (fun k j g1 g2 => by unfold zRkp; omega), hI.hv.fr hF2 (fun k j g1 g2 => by unfold zRkp; omega), hI.tr.fr hF2 (by unfold zRkp; omega) (fun j => by unfold zRkp; omega)⟩)
      have hn := (hW.1 i hi).1
      have hx : x < (s.1 i).1 := hx
      exact ((hA i hi).2 x (by omega)).trans ((hI.sp i hi).2.2 x hx).1
    · skip
      intro S1 x2 hF hA
      refine zG_s rfl rfl ?_
      refine zG_s rfl rfl ?_
      refine zN_ige rfl (by omega) (by omega) (fun c3 => absurd c3 (by omega)) (fun c4 => ?_)
      refine zG_s rfl rfl ?_
      refine zN_get rfl zRh_o rfl ?_
      refine zG_s rfl rfl ?_
      refine zG_s rfl rfl ?_
      refine zN_get rfl zRh_o rfl ?_
      refine zG_s rfl rfl ?_
      refine zR_ald (k := 3) (n := 10) rfl rfl (by omega) (hF.2.1 3 i (by unfold zRkp; omega)) ?_
      refine zR_ast (k := 5) (n := 6) rfl rfl (by omega) hr ?_
      refine zG_s rfl rfl ?_
      refine zN_st2 rfl (fun _ _ _ => rfl) rfl ?_
      have main22 : ∀ x, x ≤ 8 → ∀ S2 : zRS, zRF zRkp S S2 → S2.2.1 5 i = S.2.1 3 i → (∀ q, q < i → S2.2.1 5 q = S.2.1 3 q ∧ ∀ x, x < 8 → S2.2.1 4 (8 * q + x) = S.2.1 1 (8 * q + x)) → (∀ y, y < x → S2.2.1 4 (8 * i + y) = S.2.1 1 (8 * i + y)) → zGoP (d) tX10_keep 22 [.ref r, .int (nI i), .int (nI x)] [] (zRh h r S2) (zROut h r (zo_keep s)) := by
        refine zdown (8) ?_ (fun x hp22 ih22 => ?_)
        · skip
          intro S2 hF hm hA hB
          refine zG_s rfl rfl ?_
          refine zG_s rfl rfl ?_
          refine zN_ige rfl (by omega) (by omega) (fun c5 => ?_) (fun c6 => absurd c6 (by omega))
          refine zN_inc1 rfl rfl ?_
          refine zG_s rfl rfl ?_
          -- leaf 2
          refine ih2 _ _ hF (fun q hq => ?_)
          by_cases e : q = i
          · rw [e]; exact ⟨hm, hB⟩
          · exact hA q (by omega)
        · skip
          intro S2 hF hm hA hB
          refine zG_s rfl rfl ?_
          refine zG_s rfl rfl ?_
          refine zN_ige rfl (by omega) (by omega) (fun c7 => absurd c7 (by omega)) (fun c8 => ?_)
          refine zG_s rfl rfl ?_
          refine zN_get rfl zRh_o rfl ?_
          refine zG_s rfl rfl ?_
          refine zG_s rfl rfl ?_
          refine zN_mul rfl ?_
          refine zG_s rfl rfl ?_
          refine zN_add rfl ?_
          refine zG_s rfl rfl ?_
          refine zN_get rfl zRh_o rfl ?_
          refine zG_s rfl rfl ?_
          refine zG_s rfl rfl ?_
          refine zN_mul rfl ?_
          refine zG_s rfl rfl ?_
          refine zN_add rfl ?_
          refine zR_ald (k := 1) (n := 80) rfl rfl (by omega) (hF.2.1 1 _ (by unfold zRkp; omega)) ?_
          refine zR_ast (k := 4) (n := 48) rfl rfl (by omega) hr ?_
          refine zN_inc2 rfl rfl ?_
          refine zG_s rfl rfl ?_
          -- leaf 3
          refine ih22 _ (hF.a (Or.inl rfl)) (by rw [zRa_ne (Or.inl (by decide))]; exact hm) (fun q hq => ?_) (fun y hy => ?_)
          · have h1 := hA q hq
            exact ⟨by rw [zRa_ne (Or.inl (by decide))]; exact h1.1, fun y hy => by rw [zRa_ne (Or.inr (by omega))]; exact h1.2 y hy⟩
          · by_cases e : y = x
            · rw [e, zRa_at]
            · rw [zRa_ne (Or.inr (by omega))]; exact hB y (by omega)
      refine main22 0 (by omega) _ (hF.a (Or.inr (Or.inl rfl))) zRa_at (fun q hq => ?_) (fun y hy => absurd hy (Nat.not_lt_zero y))
      have h1 := hA q hq
      exact ⟨by rw [zRa_ne (Or.inr (by omega))]; exact h1.1, fun x hx => by rw [zRa_ne (Or.inl (by decide))]; exact h1.2 x hx⟩
  exact main2 0 (by omega) _ _ zRF.rf (fun q hq => absurd hq (Nat.not_lt_zero q))
