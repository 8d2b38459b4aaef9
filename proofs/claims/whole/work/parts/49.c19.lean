theorem ct_isNear {d : Nat} {h : zH} {qa qb na nb u v : Nat} {la ha lb hb : Nat → Nat} (hA : zSp h qa na la ha) (hB : zSp h qb nb lb hb) (hOa : zOk na la ha) (hOb : zOk nb lb hb) (hu : u < 2 ^ 24) (hv : v < 2 ^ 24) (hD : ∀ i, i < na → zDig u i < nb) : zCall (d + 2) 19 [.ref qa, .ref qb, .int (nI u), .int (nI v)] h (some (.int (nI (b2n (zNr na lb hb u v)))), h) := by
  obtain ⟨a1, al, ah, a2, a3, av⟩ := hA
  obtain ⟨b1, bl, bh, b2, b3, bv⟩ := hB
  have hn := hOa.1
  refine zG_m (t := tX2_isNear) (ls0 := [.ref qa, .ref qb, .int (nI u), .int (nI v), .null, .null, .null]) rfl rfl (zdnR (zdnR (zdnI (zdnI zdn0)))) rfl ?_
  refine zG_s rfl rfl ?_
  refine zN_st4 rfl (fun _ _ _ => rfl) rfl ?_
  refine zG_s rfl rfl ?_
  refine zN_st5 rfl (fun _ _ _ => rfl) rfl ?_
  refine zG_s rfl rfl ?_
  refine zN_st6 rfl (fun _ _ _ => rfl) rfl ?_
  have main9 : ∀ x, x ≤ na → zGo (d + 1) tX2_isNear 9 [.ref qa, .ref qb, .int (nI u), .int (nI v), .int (nI (b2n (zAl (zFnM na lb u v) x))), .int (nI (b2n (zAl (zFnM na hb u v) x))), .int (nI x)] [] h (some (.int (nI (b2n (zNr na lb hb u v)))), h) := by
    refine zdown (na) ?_ (fun x hp9 ih9 => ?_)
    · skip
      refine zG_s rfl rfl ?_
      refine zG_s rfl rfl ?_
      refine zN_get rfl a1 rfl ?_
      refine zN_ige rfl (by omega) (by omega) (fun c1 => ?_) (fun c2 => absurd c2 (by omega))
      refine zG_s rfl rfl ?_
      first | refine zN_ifnb rfl (fun c3 => ?_) (fun c4 => ?_) | refine zN_ne0 rfl (by omega) (fun c3 => ?_) (fun c4 => ?_)
      · skip
        refine zG_s rfl rfl ?_
        refine zG_s rfl rfl ?_
        -- leaf 1
        exact zG_ret rfl rfl (by rw [zNr, c3]; rfl)
      · skip
        refine zG_s rfl rfl ?_
        first | refine zN_ifb rfl (fun c5 => ?_) (fun c6 => ?_) | refine zN_eq0 rfl (by omega) (fun c5 => ?_) (fun c6 => ?_)
        · skip
          refine zG_s rfl rfl ?_
          -- leaf 2
          exact zG_ret rfl rfl (by rw [zNr, c4, c5]; rfl)
        · skip
          refine zG_s rfl rfl ?_
          refine zG_s rfl rfl ?_
          -- leaf 3
          exact zG_ret rfl rfl (by rw [zNr, c4, c6]; rfl)
    · skip
      have d1 := hD x hp9
      have d2 := zDig_lt v x
      have d3 := hOb.2 _ d1
      have d4 := hOb.1
      refine zG_s rfl rfl ?_
      refine zG_s rfl rfl ?_
      refine zN_get rfl a1 rfl ?_
      refine zN_ige rfl (by omega) (by omega) (fun c7 => absurd c7 (by omega)) (fun c8 => ?_)
      have jn51 : ∀ (w : Bool), w = zAl (zFnM na lb u v) (x + 1) → zGo (d + 1) tX2_isNear 51 [.ref qa, .ref qb, .int (nI u), .int (nI v), .int (nI (b2n (zAl (zFnM na lb u v) x))), .int (nI (b2n (zAl (zFnM na hb u v) x))), .int (nI x)] [.int (nI (b2n w))] h (some (.int (nI (b2n (zNr na lb hb u v)))), h) := by
        intro w ew
        refine zN_st4 rfl (fun _ _ _ => rfl) rfl ?_
        have jn86 : ∀ (w2 : Bool), w2 = zAl (zFnM na hb u v) (x + 1) → zGo (d + 1) tX2_isNear 86 [.ref qa, .ref qb, .int (nI u), .int (nI v), .int (nI (b2n w)), .int (nI (b2n (zAl (zFnM na hb u v) x))), .int (nI x)] [.int (nI (b2n w2))] h (some (.int (nI (b2n (zNr na lb hb u v)))), h) := by
          intro w2 ew2
          refine zN_st5 rfl (fun _ _ _ => rfl) rfl ?_
          refine zN_inc6 rfl rfl ?_
          refine zG_s rfl rfl ?_
          -- leaf 4
          rw [← ew, ← ew2] at ih9
          exact ih9
        refine zG_s rfl rfl ?_
        first | refine zN_ifb rfl (fun c9 => ?_) (fun c10 => ?_) | refine zN_eq0 rfl (by omega) (fun c9 => ?_) (fun c10 => ?_)
        · skip
          refine zG_s rfl rfl ?_
          -- leaf 5
          exact jn86 false (by rw [zAl, c9]; rfl)
        · skip
          refine zG_s rfl rfl ?_
          refine zN_get rfl b1 rfl ?_
          refine zG_s rfl rfl ?_
          refine zG_s rfl rfl ?_
          refine zG_cS1 rfl rfl (ct_digit (by omega) (by omega)) ?_
          refine zN_ald rfl b3 (by omega) (by omega) (bv _ d1).2 ?_
          refine zG_s rfl rfl ?_
          refine zG_s rfl rfl ?_
          refine zG_cS1 rfl rfl (ct_digit (by omega) (by omega)) ?_
          refine zG_cS1 rfl rfl (ct_has _ (by omega) (by omega)) ?_
          first | refine zN_ifb rfl (fun c11 => ?_) (fun c12 => ?_) | refine zN_eq0 rfl (by omega) (fun c11 => ?_) (fun c12 => ?_)
          · skip
            refine zG_s rfl rfl ?_
            -- leaf 6
            exact jn86 false (by rw [zAl, c10, zFnM, c11]; rfl)
          · skip
            refine zG_s rfl rfl ?_
            refine zG_s rfl rfl ?_
            -- leaf 7
            exact jn86 true (by rw [zAl, c10, zFnM, c12]; rfl)
      refine zG_s rfl rfl ?_
      first | refine zN_ifb rfl (fun c13 => ?_) (fun c14 => ?_) | refine zN_eq0 rfl (by omega) (fun c13 => ?_) (fun c14 => ?_)
      · skip
        refine zG_s rfl rfl ?_
        -- leaf 8
        exact jn51 false (by rw [zAl, c13]; rfl)
      · skip
        refine zG_s rfl rfl ?_
        refine zN_get rfl b1 rfl ?_
        refine zG_s rfl rfl ?_
        refine zG_s rfl rfl ?_
        refine zG_cS1 rfl rfl (ct_digit (by omega) (by omega)) ?_
        refine zN_ald rfl b2 (by omega) (by omega) (bv _ d1).1 ?_
        refine zG_s rfl rfl ?_
        refine zG_s rfl rfl ?_
        refine zG_cS1 rfl rfl (ct_digit (by omega) (by omega)) ?_
        refine zG_cS1 rfl rfl (ct_has _ (by omega) (by omega)) ?_
        first | refine zN_ifb rfl (fun c15 => ?_) (fun c16 => ?_) | refine zN_eq0 rfl (by omega) (fun c15 => ?_) (fun c16 => ?_)
        · skip
          refine zG_s rfl rfl ?_
          -- leaf 9
          exact jn51 false (by rw [zAl, c14, zFnM, c15]; rfl)
        · skip
          refine zG_s rfl rfl ?_
          refine zG_s rfl rfl ?_
          -- leaf 10
          exact jn51 true (by rw [zAl, c14, zFnM, c16]; rfl)
  exact main9 0 (by omega)
theorem ct_fsteps {d : Nat} {h : zH} {o qa qb na nb a b : Nat} {la ha lb hb : Nat → Nat} {fr qu : Nat → Int32} (ho2 : 2 ≤ o) (hZ : zF0 h o fr qu) (hA : zSp h qa na la ha) (hB : zSp h qb nb lb hb) (hOa : zOk na la ha) (hOb : zOk nb lb hb) (h1a : zfN o qa) (h1b : zfN o qb) (hna : na ≤ 3) (ha9 : a < 1 <<< (3 * na)) (hb9 : b < 1 <<< (3 * na)) (hga : zGd na nb la lb a = true) : zCallP (d + 4) 18 [.ref o, .ref qa, .ref qb, .int (nI a), .int (nI b)] h (fun r => ∃ w, zFd (1 <<< (3 * na)) a (zGd na nb la lb) (zNr na lb hb) b w ∧ zRV (.int w) (fun h1 => zFr (zfS o) h h1 ∧ ∃ fr qu, zF0 h1 o fr qu) r) := by
  generalize hQ : (fun r => ∃ w, zFd (1 <<< (3 * na)) a (zGd na nb la lb) (zNr na lb hb) b w ∧ zRV (.int w) (fun h1 => zFr (zfS o) h h1 ∧ ∃ fr qu, zF0 h1 o fr qu) r) = Q
  have hM9 : 1 <<< (3 * na) ≤ 512 := by
    rw [Nat.one_shiftLeft]
    exact Nat.pow_le_pow_right (by omega) (n := 2) (i := 3 * na) (j := 9) (by omega)
  generalize hM : 1 <<< (3 * na) = M at *
  generalize hg : zGd na nb la lb = g at *
  generalize hnr : zNr na lb hb = nr at *
  refine zG_mP (t := tX2_steps) (ls0 := [.ref o, .ref qa, .ref qb, .int (nI a), .int (nI b), .null, .null, .null, .null]) rfl rfl (zdnR (zdnR (zdnR (zdnI (zdnI zdn0))))) rfl ?_
  refine zG_s rfl rfl ?_
  refine zG_s rfl rfl ?_
  refine zG_s rfl rfl ?_
  refine zN_get rfl hA.1 rfl ?_
  refine zN_mul (x := 3) rfl ?_
  refine zN_shl (x := 1) rfl (by omega) ?_
  refine zG_s rfl rfl ?_
  refine zN_min rfl (by omega) (by omega) rfl ?_
  rw [hM, show min M 512 = M from by omega]
  refine zN_st5 rfl (fun _ _ _ => rfl) rfl ?_
  refine zG_s rfl rfl ?_
  refine zN_st6 rfl (fun _ _ _ => rfl) rfl ?_
  have main19 : ∀ m, m ≤ M → ∀ (h1 : zH) (fr : Nat → Int32), zFr (zfS o) h h1 → zF0 h1 o fr qu → (∀ v, v < m → fr v = if g v then -1 else -2) → zGoP (d + 3) tX2_steps 19 [.ref o, .ref qa, .ref qb, .int (nI a), .int (nI b), .int (nI M), .int (nI m), .null, .null] [] h1 Q := by
    refine zdown (M) ?_ (fun m hp19 ih19 => ?_)
    · skip
      intro h1 fr hF hZ hfr
      refine zG_s rfl rfl ?_
      refine zG_s rfl rfl ?_
      refine zN_ige rfl (by omega) (by omega) (fun c1 => ?_) (fun c2 => absurd c2 (by omega))
      refine zG_s rfl rfl ?_
      refine zN_get rfl hZ.1 rfl ?_
      refine zG_s rfl rfl ?_
      refine zG_s rfl rfl ?_
      refine zN_ast rfl hZ.2.1 (by omega) (by omega) (zble_of ho2) ?_
      have hF := hF.set (k := o + 1) (c := .inl (0, 512, .inl (upd fr a (nI 0)))) (zfS_in (k := 1) (by omega))
      have hZ := hZ.p_fr (q := upd fr a (nI 0))
      refine zG_s rfl rfl ?_
      refine zN_get rfl hZ.1 rfl ?_
      refine zG_s rfl rfl ?_
      refine zG_s rfl rfl ?_
      refine zN_ast rfl hZ.2.2 (by omega) (by omega) (zble_of ho2) ?_
      have hF := hF.set (k := o + 2) (c := .inl (0, 512, .inl (upd qu 0 (nI a)))) (zfS_in (k := 2) (by omega))
      have hZ := hZ.p_qu (q := upd qu 0 (nI a))
      refine zG_s rfl rfl ?_
      refine zN_st6 rfl (fun _ _ _ => rfl) rfl ?_
      refine zG_s rfl rfl ?_
      refine zN_st7 rfl (fun _ _ _ => rfl) rfl ?_
      have jn183 : ∀ (h1 : zH) (fr qu : Nat → Int32) (w i : Nat) (x8 : Value), zFr (zfS o) h h1 → zF0 h1 o fr qu → ((∃ j, zMn M a g nr j b ∧ j ≤ 600 ∧ fr b = nI j) ∨ ((∀ j, zLv M a g nr j b = false) ∧ (fr b = -1 ∨ fr b = -2))) → zGoP (d + 3) tX2_steps 183 [.ref o, .ref qa, .ref qb, .int (nI a), .int (nI b), .int (nI M), .int (nI w), .int (nI i), x8] [] h1 Q := by
        intro h1 fr qu w i x8 hF hZ hD
        refine zG_s rfl rfl ?_
        refine zN_get rfl hZ.1 rfl ?_
        refine zG_s rfl rfl ?_
        refine zN_ald rfl hZ.2.1 (by omega) (by omega) rfl ?_
        refine zN_if rfl (fun c3 => ?_) (fun c4 => ?_)
        · skip
          refine zG_s rfl rfl ?_
          refine zN_get rfl hZ.1 rfl ?_
          refine zG_s rfl rfl ?_
          refine zN_ald rfl hZ.2.1 (by omega) (by omega) rfl ?_
          -- leaf 1
          rcases hD with ⟨j, j1, j2, j3⟩ | ⟨n1, n2⟩
          · exact zG_ret rfl rfl (by rw [← hQ]; exact ⟨fr b, Or.inl ⟨j, j1, j3⟩, rfl, hF, fr, qu, hZ⟩)
          · exfalso
            rcases n2 with e | e
            · rw [e] at c3; exact absurd c3 (by decide)
            · rw [e] at c3; exact absurd c3 (by decide)
        · skip
          refine zG_s rfl rfl ?_
          refine zG_s rfl rfl ?_
          -- leaf 2
          rcases hD with ⟨j, j1, j2, j3⟩ | ⟨n1, n2⟩
          · exfalso
            rw [j3] at c4
            exact of_decide_eq_false c4 (Int32.not_lt.mp (nI_pos (by omega)))
          · exact zG_ret rfl rfl (by rw [← hQ]; exact ⟨-3, Or.inr ⟨n1, rfl⟩, rfl, hF, fr, qu, hZ⟩)
      have main75 : ∀ i, i ≤ 512 → ∀ (h1 : zH) (fr qu : Nat → Int32) (q : Nat → Nat) (k s e w : Nat) (x8 : Value), zFr (zfS o) h h1 → zF0 h1 o fr qu → (∀ j, j < w → qu j = nI (q j)) → zFar M a g nr q k s i 0 fr → zQue M a g nr q k s e i 0 w → k ≤ s → s < e → i ≤ w → zGoP (d + 3) tX2_steps 75 [.ref o, .ref qa, .ref qb, .int (nI a), .int (nI b), .int (nI M), .int (nI w), .int (nI i), x8] [] h1 Q := by
        refine zdown (512) ?_ (fun i hp75 ih75 => ?_)
        · skip
          intro h1 fr qu q k s e w x8 hF hZ hqu hfa hqe hks hse hiw
          have hw := zF_w hqe
          refine zG_s rfl rfl ?_
          refine zG_s rfl rfl ?_
          refine zN_ige rfl (by omega) (by omega) (fun c5 => ?_) (fun c6 => ?_)
          · skip
            -- leaf 3
            exact jn183 _ _ _ _ _ _ hF hZ (by
              rcases zF_fin hb9 c5 hks hfa hqe with ⟨j, j1, j2, j3⟩ | g9
              · exact Or.inl ⟨j, j1, by omega, j3⟩
              · exact Or.inr g9)
          · skip
            refine zG_s rfl rfl ?_
            refine zG_s rfl rfl ?_
            refine zN_ige rfl (by omega) (by omega) (fun c7 => ?_) (fun c8 => absurd c8 (by omega))
            -- leaf 4
            exact absurd c6 (by omega)
        · skip
          intro h1 fr qu q k s e w x8 hF hZ hqu hfa hqe hks hse hiw
          have hw := zF_w hqe
          refine zG_s rfl rfl ?_
          refine zG_s rfl rfl ?_
          refine zN_ige rfl (by omega) (by omega) (fun c9 => ?_) (fun c10 => ?_)
          · skip
            -- leaf 5
            exact jn183 _ _ _ _ _ _ hF hZ (by
              rcases zF_fin hb9 c9 hks hfa hqe with ⟨j, j1, j2, j3⟩ | g9
              · exact Or.inl ⟨j, j1, by omega, j3⟩
              · exact Or.inr g9)
          · skip
            refine zG_s rfl rfl ?_
            refine zG_s rfl rfl ?_
            refine zN_ige rfl (by omega) (by omega) (fun c11 => absurd c11 (by omega)) (fun c12 => ?_)
            refine zG_s rfl rfl ?_
            obtain ⟨k, s, e, hfa, hqe, hie, hks, hse⟩ := zF_any (by omega) hks hfa hqe hse
            refine zN_get rfl hZ.1 rfl ?_
            refine zG_s rfl rfl ?_
            refine zN_ald rfl hZ.2.1 (by omega) (by omega) rfl ?_
            refine zN_if rfl (fun c13 => ?_) (fun c14 => ?_)
            · skip
              -- leaf 6
              obtain ⟨j, j1, j2, j3⟩ := zF_got hb9 hie hfa hqe (Int32.not_lt.mpr (of_decide_eq_true c13))
              have hsi := hqe.1
              exact jn183 _ _ _ _ _ _ hF hZ (Or.inl ⟨j, j1, by omega, j3⟩)
            · skip
              refine zG_s rfl rfl ?_
              refine zN_st8 rfl (fun _ _ _ => rfl) rfl ?_
              have main103 : ∀ m, m ≤ M → ∀ (h1 : zH) (fr qu : Nat → Int32) (q : Nat → Nat) (w : Nat), zFr (zfS o) h h1 → zF0 h1 o fr qu → (∀ j, j < w → qu j = nI (q j)) → zFar M a g nr q k s i m fr → zQue M a g nr q k s e i m w → zGoP (d + 3) tX2_steps 103 [.ref o, .ref qa, .ref qb, .int (nI a), .int (nI b), .int (nI M), .int (nI w), .int (nI i), .int (nI m)] [] h1 Q := by
                refine zdown (M) ?_ (fun m hp103 ih103 => ?_)
                · skip
                  intro h1 fr qu q w hF hZ hqu hfa hqe
                  have hiw := hqe.2.2.1
                  refine zG_s rfl rfl ?_
                  refine zG_s rfl rfl ?_
                  refine zN_ige rfl (by omega) (by omega) (fun c15 => ?_) (fun c16 => absurd c16 (by omega))
                  refine zN_inc7 rfl rfl ?_
                  refine zG_s rfl rfl ?_
                  -- leaf 7
                  obtain ⟨z1, z2⟩ := zF_next hie hfa hqe
                  exact ih75 _ _ _ _ _ _ _ _ _ hF hZ hqu z1 z2 hks hse (by omega)
                · skip
                  intro h1 fr qu q w hF hZ hqu hfa hqe
                  have hw := zF_w hqe
                  have hiw := hqe.2.2.1
                  have hqi := hqe.2.2.2.1 i (by omega)
                  have hqm := hqi.1
                  have hM8 : M ≤ 512 := hM9
                  have hdg := zGd_d (na := na) (nb := nb) (la := la) (lb := lb) (v := q i) hOa.1 (by omega) (by rw [hg]; exact hqi.2)
                  refine zG_s rfl rfl ?_
                  refine zG_s rfl rfl ?_
                  refine zN_ige rfl (by omega) (by omega) (fun c17 => absurd c17 (by omega)) (fun c18 => ?_)
                  refine zG_s rfl rfl ?_
                  refine zN_get rfl hZ.1 rfl ?_
                  refine zG_s rfl rfl ?_
                  refine zN_ald rfl hZ.2.1 (by omega) (by omega) rfl ?_
                  refine zG_s rfl rfl ?_
                  refine zN_if2 rfl (fun c19 => ?_) (fun c20 => ?_)
                  · skip
                    refine zN_inc8 rfl rfl ?_
                    refine zG_s rfl rfl ?_
                    -- leaf 8
                    obtain ⟨z1, z2⟩ := zF_no hp103 (fun q9 => absurd q9 (of_decide_eq_true c19)) hfa hqe
                    exact ih103 _ _ _ _ _ hF hZ hqu z1 z2
                  · skip
                    refine zG_s rfl rfl ?_
                    refine zG_s rfl rfl ?_
                    refine zG_s rfl rfl ?_
                    refine zN_get rfl hZ.1 rfl ?_
                    refine zG_s rfl rfl ?_
                    refine zN_ald rfl hZ.2.2 (by omega) (by omega) (hqu i (by omega)) ?_
                    refine zG_s rfl rfl ?_
                    refine zG_cS1 rfl rfl (ct_isNear (zSp.ff hF h1a hA) (zSp.ff hF h1b hB) hOa hOb hdg.1 (by omega) hdg.2) ?_
                    rw [show zNr na lb hb (q i) m = nr (q i) m from by rw [hnr]]
                    first | refine zN_ifb rfl (fun c21 => ?_) (fun c22 => ?_) | refine zN_eq0 rfl (by omega) (fun c21 => ?_) (fun c22 => ?_)
                    · skip
                      refine zN_inc8 rfl rfl ?_
                      refine zG_s rfl rfl ?_
                      -- leaf 9
                      obtain ⟨z1, z2⟩ := zF_no hp103 (fun _ => c21) hfa hqe
                      exact ih103 _ _ _ _ _ hF hZ hqu z1 z2
                    · skip
                      refine zG_s rfl rfl ?_
                      refine zN_get rfl hZ.1 rfl ?_
                      have hsi := hqe.1
                      obtain ⟨z1, z2⟩ := zF_yes (by omega) hp103 hie (Decidable.not_not.mp (of_decide_eq_false c20)) c22 hfa hqe
                      have hw2 := zF_w z2
                      refine zG_s rfl rfl ?_
                      refine zG_s rfl rfl ?_
                      refine zN_get rfl hZ.1 rfl ?_
                      refine zG_s rfl rfl ?_
                      refine zN_get rfl hZ.1 rfl ?_
                      refine zG_s rfl rfl ?_
                      refine zN_ald rfl hZ.2.2 (by omega) (by omega) (hqu i (by omega)) ?_
                      refine zN_ald rfl hZ.2.1 (by omega) (by omega) (zF_at hie hfa hqe) ?_
                      refine zG_s rfl rfl ?_
                      refine zN_add rfl ?_
                      refine zN_ast rfl hZ.2.1 (by omega) (by omega) (zble_of ho2) ?_
                      have hF := hF.set (k := o + 1) (c := .inl (0, 512, .inl (upd fr m (nI (k + 1))))) (zfS_in (k := 1) (by omega))
                      have hZ := hZ.p_fr (q := upd fr m (nI (k + 1)))
                      refine zG_s rfl rfl ?_
                      refine zN_get rfl hZ.1 rfl ?_
                      refine zG_s rfl rfl ?_
                      refine zG_s rfl rfl ?_
                      refine zN_ast rfl hZ.2.2 (by omega) (by omega) (zble_of ho2) ?_
                      have hF := hF.set (k := o + 2) (c := .inl (0, 512, .inl (upd qu w (nI m)))) (zfS_in (k := 2) (by omega))
                      have hZ := hZ.p_qu (q := upd qu w (nI m))
                      refine zN_inc6 rfl rfl ?_
                      refine zN_inc8 rfl rfl ?_
                      refine zG_s rfl rfl ?_
                      -- leaf 10
                      refine ih103 _ _ _ (zupd q w m) _ hF hZ (fun j hj => ?_) z1 z2
                      by_cases ej : j = w
                      · subst ej; rw [upd_at, zupd_at]
                      · rw [upd_ne _ _ ej, zupd_ne _ _ ej]; exact hqu j (by omega)
              exact main103 0 (by omega) _ _ _ _ _ hF hZ hqu hfa hqe
      obtain ⟨z1, z2⟩ := zF_0 (M := M) (a := a) (g := g) (nr := nr) (q := fun _ => a) (far := upd fr a (nI 0)) ha9 hga rfl (upd_at _ _ _) (fun v hv hne => by rw [upd_ne _ _ hne]; exact hfr v hv)
      exact main75 0 (by omega) _ _ _ (fun _ => a) 0 0 1 1 _ hF hZ (fun j hj => by have : j = 0 := by omega
                                                                                   subst this; exact upd_at _ _ _) z1 z2 (Nat.le_refl 0) (by omega) (by omega)
    · skip
      intro h1 fr hF hZ hfr
      refine zG_s rfl rfl ?_
      refine zG_s rfl rfl ?_
      refine zN_ige rfl (by omega) (by omega) (fun c23 => absurd c23 (by omega)) (fun c24 => ?_)
      have jn48 : ∀ (w : Int32), w = (if g m then -1 else -2) → zGoP (d + 3) tX2_steps 48 [.ref o, .ref qa, .ref qb, .int (nI a), .int (nI b), .int (nI M), .int (nI m), .null, .null] [.int w, .int (nI m), .ref (o + 1)] h1 Q := by
        intro w ew
        refine zN_ast rfl hZ.2.1 (by omega) (by omega) (zble_of ho2) ?_
        refine zN_inc6 rfl rfl ?_
        refine zG_s rfl rfl ?_
        -- leaf 11
        exact ih19 _ _ (hF.set (zfS_in (k := 1) (by omega))) hZ.p_fr (fun v hv => by
          by_cases ev : v = m
          · subst ev; rw [upd_at]; exact ew
          · rw [upd_ne _ _ ev]; exact hfr v (by omega))
      refine zG_s rfl rfl ?_
      refine zN_get rfl hZ.1 rfl ?_
      refine zG_s rfl rfl ?_
      refine zG_s rfl rfl ?_
      refine zG_s rfl rfl ?_
      refine zG_s rfl rfl ?_
      refine zG_cS1 rfl rfl (ct_isWhole (zSp.ff hF h1a hA) (zSp.ff hF h1b hB) hOa hOb) ?_
      rw [show zWh na nb la lb (nI m) = g m from congrFun hg m]
      first | refine zN_ifb rfl (fun c25 => ?_) (fun c26 => ?_) | refine zN_eq0 rfl (by omega) (fun c25 => ?_) (fun c26 => ?_)
      · skip
        refine zG_s rfl rfl ?_
        -- leaf 12
        exact jn48 _ (by rw [c25]; rfl)
      · skip
        refine zG_s rfl rfl ?_
        refine zG_s rfl rfl ?_
        -- leaf 13
        exact jn48 _ (by rw [c26]; rfl)
  exact main19 0 (by omega) h fr zFr.rf hZ (fun v hv => absurd hv (by omega))
