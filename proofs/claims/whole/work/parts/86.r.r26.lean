def zRag (k j : Nat) : Prop := (k = 1 ∨ k = 2) ∧ j < 48 ∨ k = 3 ∧ j < 6
theorem cr_again {d r : Nat} {h : zH} {S : zRS} {s : zST} (hr : 2 ≤ r) (hI : zRI S s) (hW : zWT s) : zCallP (d + 3) 289 [.ref r] (zRh h r S) (zROut h r (zo_again s)) := by
  refine zG_mP (t := tX10_again) (ls0 := [.ref r, .null, .null]) rfl rfl (zdnR zdn0) rfl ?_
  refine zG_s rfl rfl ?_
  refine zN_get rfl zRh_o rfl ?_
  rw [hI.z.2.2]
  refine zN_ifnb rfl (fun c1 => ?_) (fun c2 => ?_)
  · skip
    refine zG_s rfl rfl ?_
    refine zN_st1 rfl (fun _ _ _ => rfl) rfl ?_
    have main12 : ∀ i, i ≤ 6 → ∀ (S1 : zRS) (x2 : Value), zRF zRag S S1 → (∀ q, q < i → zRs S1 q (s.2.1 q).1 (s.2.1 q).2) → zGoP (d + 2) tX10_again 12 [.ref r, .int (nI i), x2] [] (zRh h r S1) (zROut h r (zo_again s)) := by
      refine zdown (6) ?_ (fun i hp12 ih12 => ?_)
      · skip
        intro S1 x2 hF hA
        have h6 : S1.1 6 = s.2.2.1.2.1 := (hF.1 6 (by unfold zRag; omega)).trans (hI.z.2.1 c1)
        have a1 : zr_kp S1 s.2.1 := hI.kp.fr hF (fun k j g => by unfold zRag; omega)
        have a2 : zr_tp S1 s.2.2.2.1 := hI.tp.fr hF (by unfold zRag; omega) (fun j => by unfold zRag; omega)
        have a3 : zr_sh S1 s.2.2.2.2.1 := hI.sh.fr hF (fun k j g1 g2 => by unfold zRag; omega)
        have a4 : zr_hv S1 s.2.2.2.2.2.1 := hI.hv.fr hF (fun k j g1 g2 => by unfold zRag; omega)
        have a5 : zr_tr S1 s.2.2.2.2.2.2 := hI.tr.fr hF (by unfold zRag; omega) (fun j => by unfold zRag; omega)
        have a6 : S1.1 7 = nI (b2n true) := ((hF.1 7 (by unfold zRag; omega)).trans hI.z.2.2).trans (by rw [c1])
        refine zG_s rfl rfl ?_
        refine zG_s rfl rfl ?_
        refine zN_ige rfl (by omega) (by omega) (fun c3 => ?_) (fun c4 => absurd c4 (by omega))
        refine zG_s rfl rfl ?_
        refine zG_s rfl rfl ?_
        refine zN_get rfl zRh_o rfl ?_
        rw [h6]
        refine zR_put rfl rfl rfl (fun _ => rfl) ?_
        have hI2 : zRI (zRi S1 5 s.2.2.1.2.1) (s.2.1, s.2.1, (s.2.2.1.2.1, s.2.2.1.2.1, true), s.2.2.2) := ⟨hA, a1, ⟨rfl, fun _ => h6, a6⟩, a2, a3, a4, a5⟩
        have hW2 : zWT (s.2.1, s.2.1, (s.2.2.1.2.1, s.2.2.1.2.1, true), s.2.2.2) := ⟨hW.2.1, hW.2.1, hW.2.2⟩
        refine zG_s rfl rfl ?_
        refine zG_cV1 rfl rfl zRh_o rfl rfl (cr_pointsAll hI2 hW2) ?_
        -- leaf 1
        exact zG_ret rfl rfl (zRfin (by rw [zo_again, if_pos c1]) hI2)
      · skip
        intro S1 x2 hF hA
        have hn8 := (hW.2.1 i hp12).1
        have hk := hI.kp i hp12
        refine zG_s rfl rfl ?_
        refine zG_s rfl rfl ?_
        refine zN_ige rfl (by omega) (by omega) (fun c5 => absurd c5 (by omega)) (fun c6 => ?_)
        refine zG_s rfl rfl ?_
        refine zG_s rfl rfl ?_
        refine zG_s rfl rfl ?_
        refine zN_get rfl zRh_o rfl ?_
        refine zG_s rfl rfl ?_
        refine zR_ald (k := 5) (n := 6) rfl rfl (by omega) ((hF.2.1 5 i (by unfold zRag; omega)).trans hk.1) ?_
        refine zG_cQN rfl rfl zRh_o rfl rfl (cr_empties hr (by omega) hn8) (fun h1 hB => ?_)
        obtain ⟨S2, rfl, hF2, hE2⟩ := hB
        have hA2 : ∀ q, q < i → zRs S2 q (s.2.1 q).1 (s.2.1 q).2 := fun q hq => (hA q hq).fr (hW.2.1 q (by omega)).1 hF2 (fun k j g1 g2 => by unfold zRsp at g1 g2; omega)
        have hFF : zRF zRag S S2 := hF.tr (hF2.mono (fun k j g => by unfold zRsp at g; unfold zRag; omega))
        refine zG_s rfl rfl ?_
        refine zN_st2 rfl (fun _ _ _ => rfl) rfl ?_
        have main31 : ∀ x, x ≤ 8 → ∀ S3 : zRS, zRF (zRrw 1 i) S2 S3 → (∀ y, y < x → S3.2.1 1 (8 * i + y) = S.2.1 4 (8 * i + y)) → zGoP (d + 2) tX10_again 31 [.ref r, .int (nI i), .int (nI x)] [] (zRh h r S3) (zROut h r (zo_again s)) := by
          refine zdown (8) ?_ (fun x hp31 ih31 => ?_)
          · skip
            intro S3 hF3 hB
            have hN3 : S3.2.1 3 i = nI (s.2.1 i).1 := (hF3.2.1 3 i (zRrw.m (Or.inl rfl))).trans hE2.1
            refine zG_s rfl rfl ?_
            refine zG_s rfl rfl ?_
            refine zN_ige rfl (by omega) (by omega) (fun c7 => ?_) (fun c8 => absurd c8 (by omega))
            refine zG_s rfl rfl ?_
            refine zG_s rfl rfl ?_
            refine zG_cQN rfl rfl zRh_o rfl rfl (cr_turns (lo := (s.2.1 i).2) hr (by omega) hn8 hN3 (fun x hx => (hB x (by omega)).trans (hk.2 x hx)) (fun x hx => (hW.2.1 i hp12).b hx)) (fun h1 hB => ?_)
            obtain ⟨S4, rfl, hF4, hS4⟩ := hB
            refine zN_inc1 rfl rfl ?_
            refine zG_s rfl rfl ?_
            -- leaf 2
            refine ih12 _ _ (((hF.tr (hF2.mono ?_)).tr (hF3.mono ?_)).tr (hF4.mono ?_)) (fun q hq => ?_)
            · exact fun k j g => by unfold zRsp at g; unfold zRag; omega
            · exact fun k j g => by unfold zRrw at g; unfold zRag; omega
            · exact fun k j g => by unfold zRrw at g; unfold zRag; omega
            · by_cases e : q = i
              · rw [e]; exact hS4
              · exact (((hA2 q (by omega)).fr (hW.2.1 q (by omega)).1 hF3 (fun k j g1 g2 => by unfold zRsp at g1; unfold zRrw at g2; omega)).fr (hW.2.1 q (by omega)).1 hF4 (fun k j g1 g2 => by unfold zRsp at g1; unfold zRrw at g2; omega))
          · skip
            intro S3 hF3 hB
            refine zG_s rfl rfl ?_
            refine zG_s rfl rfl ?_
            refine zN_ige rfl (by omega) (by omega) (fun c9 => absurd c9 (by omega)) (fun c10 => ?_)
            refine zG_s rfl rfl ?_
            refine zN_get rfl zRh_o rfl ?_
            refine zG_s rfl rfl ?_
            refine zG_s rfl rfl ?_
            refine zN_mul rfl ?_
            refine zG_s rfl rfl ?_
            refine zN_add rfl ?_
            refine zG_s rfl rfl ?_
            refine zN_get rfl zRh_o rfl ?_
            refine zG_s rfl rfl ?_
            refine zG_s rfl rfl ?_
            refine zN_mul rfl ?_
            refine zG_s rfl rfl ?_
            refine zN_add rfl ?_
            refine zR_ald (k := 4) (n := 48) rfl rfl (by omega) ((hF3.2.1 4 _ (zRrw.no (by decide))).trans (hFF.2.1 4 _ (by unfold zRag; omega))) ?_
            refine zR_ast (k := 1) (n := 80) rfl rfl (by omega) hr ?_
            refine zN_inc2 rfl rfl ?_
            refine zG_s rfl rfl ?_
            -- leaf 3
            refine ih31 _ (hF3.a ⟨rfl, by omega, by omega⟩) (fun y hy => ?_)
            by_cases e : y = x
            · rw [e, zRa_at]
            · rw [zRa_ne (Or.inr (by omega))]; exact hB y (by omega)
        exact main31 0 (by omega) _ zRF.rf (fun y hy => absurd hy (Nat.not_lt_zero y))
    exact main12 0 (by omega) _ _ zRF.rf (fun q hq => absurd hq (Nat.not_lt_zero q))
  · skip
    refine zG_s rfl rfl ?_
    -- leaf 4
    exact zG_ret rfl rfl (zRfin (by rw [zo_again, if_neg (by rw [c2]; decide)]) hI)
