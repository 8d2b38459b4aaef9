theorem ct_enlist {d : Nat} {h : zH} {o n c : Nat} {ht : Int32} {od il al pl fo : Nat → Int32} {R S P : Nat → Nat → Int32} {L : List (Nat × Nat × Nat)} (ho2 : 2 ≤ o) (hK : zCo0 h o ht od il al pl fo R S P) (hS : zSp h (o + 1) n (zDl n c) (zTr n (zDl n c))) (hn : n < 5) (hc : c < 2 ^ 20) (hL : L.length ≤ 33) (hfo : fo n = nI L.length) (hE : zEt L (R n) (S n) (P n)) : zCallP (d + 4) 14 [.ref o, .int (nI n), .int (nI c)] h (zRN (fun h1 => zFr (zkoS o) h h1 ∧ zSp h1 (o + 1) n (zDl n c) (zTr n (zDl n c)) ∧ ∃ ht od fo1 R1 S1 P1, zCo0 h1 o ht od il al pl fo1 R1 S1 P1 ∧ fo1 n = nI (zEnl n c L).length ∧ zEt (zEnl n c L) (R1 n) (S1 n) (P1 n) ∧ ∀ m, m ≠ n → fo1 m = fo m ∧ R1 m = R m ∧ S1 m = S m ∧ P1 m = P m)) := by
  generalize hQ : (zRN (fun h1 => zFr (zkoS o) h h1 ∧ zSp h1 (o + 1) n (zDl n c) (zTr n (zDl n c)) ∧ ∃ ht od fo1 R1 S1 P1, zCo0 h1 o ht od il al pl fo1 R1 S1 P1 ∧ fo1 n = nI (zEnl n c L).length ∧ zEt (zEnl n c L) (R1 n) (S1 n) (P1 n) ∧ ∀ m, m ≠ n → fo1 m = fo m ∧ R1 m = R m ∧ S1 m = S m ∧ P1 m = P m)) = Q
  have hO : zOk n (zDl n c) (zTr n (zDl n c)) := ⟨by omega, fun x hx => ⟨zDl_lt (by omega) (by omega), zbits_lt8 _ (by omega)⟩⟩
  have b1 := zFm_lt (lo := zDl n c) (show n < 6 by omega) (zFac n)
  have b2 := zFm_hl (n := n) (lo := zDl n c) (zFac n)
  have b3 := zFac_le n (by omega)
  refine zG_mP (t := tX1_enlist) (ls0 := [.ref o, .int (nI n), .int (nI c)]) rfl rfl (zdnR (zdnI (zdnI zdn0))) rfl ?_
  refine zG_s rfl rfl ?_
  refine zG_s rfl rfl ?_
  refine zN_get rfl hK.1 rfl ?_
  refine zG_cQV rfl rfl hK.1 rfl rfl (ct_formOf ho2 hK hS hO (by omega) (fun i hi => by omega)) (fun h2 hB => ?_)
  obtain ⟨hF, od2, hK⟩ := hB
  have hS := zSp.fr hF (by omega) (by omega) (by omega) hS
  have hF := hF.mono (S' := zkoS o) (fun j hj => by unfold zkoS; omega)
  refine zG_s rfl rfl ?_
  refine zN_ine rfl (by omega) (by omega) (fun c1 => ?_) (fun c2 => ?_)
  · skip
    -- leaf 1
    rw [← hQ]
    exact zG_ret rfl rfl ⟨rfl, hF, hS, _, od2, fo, R, S, P, hK, by rw [zEnl_n (fun g => c1 g.1)]; exact hfo, by rw [zEnl_n (fun g => c1 g.1)]; exact hE, fun m hm => ⟨rfl, rfl, rfl, rfl⟩⟩
  · skip
    refine zG_s rfl rfl ?_
    refine zN_get rfl hK.1 rfl ?_
    refine zG_s rfl rfl ?_
    refine zN_ald rfl hK.2.2.2.2.2.1 (by omega) (by omega) hfo ?_
    refine zG_s rfl rfl ?_
    refine zN_ige (y := 33) rfl (by omega) (by omega) (fun c3 => ?_) (fun c4 => ?_)
    · skip
      -- leaf 2
      rw [← hQ]
      exact zG_ret rfl rfl ⟨rfl, hF, hS, _, od2, fo, R, S, P, hK, by rw [zEnl_n (fun g => absurd g.2.1 (by omega))]; exact hfo, by rw [zEnl_n (fun g => absurd g.2.1 (by omega))]; exact hE, fun m hm => ⟨rfl, rfl, rfl, rfl⟩⟩
    · skip
      refine zG_s rfl rfl ?_
      refine zN_get rfl hK.1 rfl ?_
      refine zN_le0 rfl (by omega) (fun c5 => ?_) (fun c6 => ?_)
      · skip
        -- leaf 3
        rw [← hQ]
        exact zG_ret rfl rfl ⟨rfl, hF, hS, _, od2, fo, R, S, P, hK, by rw [zEnl_n (fun g => absurd g.2.2 (by omega))]; exact hfo, by rw [zEnl_n (fun g => absurd g.2.2 (by omega))]; exact hE, fun m hm => ⟨rfl, rfl, rfl, rfl⟩⟩
      · skip
        refine zG_s rfl rfl ?_
        refine zN_get rfl hK.1 rfl ?_
        refine zG_s rfl rfl ?_
        obtain ⟨⟨g1, g2, g3⟩, g4⟩ := hK.Rr
        refine zN_qld (tt := 2) rfl g2 (by omega) (by omega) (g3 n (by omega)) ?_
        refine zG_s rfl rfl ?_
        refine zN_get rfl hK.1 rfl ?_
        refine zG_s rfl rfl ?_
        refine zN_ald rfl hK.2.2.2.2.2.1 (by omega) (by omega) hfo ?_
        refine zG_s rfl rfl ?_
        refine zN_ast rfl (g4 n (by omega)) (by omega) (by omega) (Nat.ble_eq_true_of_le (by omega)) ?_
        have hF := hF.set (k := o + 9 + 1 + n) (c := .inl (0, 33, .inl (upd (R n) L.length (nI c)))) (by unfold zkoS; omega)
        have hS := zSp_ne (j := o + 9 + 1 + n) (c := .inl (0, 33, .inl (upd (R n) L.length (nI c)))) hS (by omega) (by omega) (by omega)
        have hK := zCo0.p_R (k := n) (q := upd (R n) L.length (nI c)) (by omega) hK
        refine zG_s rfl rfl ?_
        refine zN_get rfl hK.1 rfl ?_
        refine zG_s rfl rfl ?_
        obtain ⟨⟨g1, g2, g3⟩, g4⟩ := hK.Sr
        refine zN_qld (tt := 2) rfl g2 (by omega) (by omega) (g3 n (by omega)) ?_
        refine zG_s rfl rfl ?_
        refine zN_get rfl hK.1 rfl ?_
        refine zG_s rfl rfl ?_
        refine zN_ald rfl hK.2.2.2.2.2.1 (by omega) (by omega) hfo ?_
        refine zG_s rfl rfl ?_
        refine zG_cS1 rfl rfl (ct_numberings (by omega)) ?_
        refine zG_s rfl rfl ?_
        refine zN_get rfl hK.1 rfl ?_
        refine zN_div rfl (by omega) (by omega) (by omega) ?_
        refine zN_ast rfl (g4 n (by omega)) (by omega) (by omega) (Nat.ble_eq_true_of_le (by omega)) ?_
        have hF := hF.set (k := o + 15 + 1 + n) (c := .inl (0, 33, .inl (upd (S n) L.length (nI (zFac n / (zFm n (zDl n c) (zFac n)).2))))) (by unfold zkoS; omega)
        have hS := zSp_ne (j := o + 15 + 1 + n) (c := .inl (0, 33, .inl (upd (S n) L.length (nI (zFac n / (zFm n (zDl n c) (zFac n)).2))))) hS (by omega) (by omega) (by omega)
        have hK := zCo0.p_S (k := n) (q := upd (S n) L.length (nI (zFac n / (zFm n (zDl n c) (zFac n)).2))) (by omega) hK
        refine zG_s rfl rfl ?_
        refine zN_get rfl hK.1 rfl ?_
        refine zG_s rfl rfl ?_
        obtain ⟨⟨g1, g2, g3⟩, g4⟩ := hK.Pr
        refine zN_qld (tt := 2) rfl g2 (by omega) (by omega) (g3 n (by omega)) ?_
        refine zG_s rfl rfl ?_
        refine zN_get rfl hK.1 rfl ?_
        refine zG_s rfl rfl ?_
        refine zN_ald rfl hK.2.2.2.2.2.1 (by omega) (by omega) hfo ?_
        refine zG_s rfl rfl ?_
        refine zN_get rfl hK.1 rfl ?_
        refine zG_cV1 rfl rfl hS.1 rfl rfl (ct_isPlain ⟨hS, hO⟩) ?_
        have jn93 : ∀ w : Nat, w = b2n (zPln n c) → zGoP (d + 3) tX1_enlist 93 [.ref o, .int (nI n), .int (nI c)] [.int (nI w), .int (nI L.length), .ref (o + 21 + 1 + n)] (zset (zset h2 (o + 9 + 1 + n) (.inl (0, 33, .inl (upd (R n) L.length (nI c))))) (o + 15 + 1 + n) (.inl (0, 33, .inl (upd (S n) L.length (nI (zFac n / (zFm n (zDl n c) (zFac n)).2)))))) Q := by
          intro w ew
          refine zN_ast rfl (g4 n (by omega)) (by omega) (by omega) (Nat.ble_eq_true_of_le (by omega)) ?_
          have hF := hF.set (k := o + 21 + 1 + n) (c := .inl (0, 33, .inl (upd (P n) L.length (nI w)))) (by unfold zkoS; omega)
          have hS := zSp_ne (j := o + 21 + 1 + n) (c := .inl (0, 33, .inl (upd (P n) L.length (nI w)))) hS (by omega) (by omega) (by omega)
          have hK := zCo0.p_P (k := n) (q := upd (P n) L.length (nI w)) (by omega) hK
          refine zG_s rfl rfl ?_
          refine zN_get rfl hK.1 rfl ?_
          refine zG_s rfl rfl ?_
          refine zG_s rfl rfl ?_
          refine zN_ald rfl hK.2.2.2.2.2.1 (by omega) (by omega) hfo ?_
          refine zG_s rfl rfl ?_
          refine zN_add rfl ?_
          refine zN_ast rfl hK.2.2.2.2.2.1 (by omega) (by omega) (zble_of ho2) ?_
          have hF := hF.set (k := o + 8) (c := .inl (0, 5, .inl (upd fo n (nI (L.length + 1))))) (zkoS_in (k := 8) (by omega))
          have hS := zSp_ne (j := o + 8) (c := .inl (0, 5, .inl (upd fo n (nI (L.length + 1))))) hS (by omega) (by omega) (by omega)
          have hK := hK.p_fo (q := upd fo n (nI (L.length + 1)))
          -- leaf 4
          rw [← hQ]
          subst ew
          have hE2 := hE.push (a := c) (b := zFac n / (zFm n (zDl n c) (zFac n)).2) (c := b2n (zPln n c))
          exact zG_ret rfl rfl ⟨rfl, hF, hS, _, od2, _, _, _, _, hK, by rw [zEnl_y ⟨c2, c4, c6⟩, upd_at, List.length_append]; rfl, by rw [zEnl_y ⟨c2, c4, c6⟩, zupR_at, zupR_at, zupR_at]; exact hE2, fun m hm => ⟨upd_ne _ _ hm, zupR_ne _ _ hm, zupR_ne _ _ hm, zupR_ne _ _ hm⟩⟩
        first | refine zN_ifb rfl (fun c7 => ?_) (fun c8 => ?_) | refine zN_eq0 rfl (by omega) (fun c7 => ?_) (fun c8 => ?_)
        · skip
          refine zG_s rfl rfl ?_
          -- leaf 5
          exact jn93 0 (by rw [zPln, c7]; rfl)
        · skip
          refine zG_s rfl rfl ?_
          refine zG_s rfl rfl ?_
          -- leaf 6
          exact jn93 1 (by rw [zPln, c8]; rfl)
theorem ct_listAll {d : Nat} {h : zH} {o n : Nat} {b : Nat → Bool} (ho2 : 2 ≤ o) (hC : zCL h o b) (hn : n < 5) : zCallP (d + 5) 13 [.ref o, .int (nI n)] h (zRN (fun h1 => zFr (zkoS o) h h1 ∧ zCL h1 o (fun m => b m || decide (m = n)))) := by
  generalize hQ : (zRN (fun h1 => zFr (zkoS o) h h1 ∧ zCL h1 o (fun m => b m || decide (m = n)))) = Q
  have hE := zE9_le n hn
  have hk20 := zn20 n (by omega)
  obtain ⟨ht, od, il, al, pl, fo, R, S, P, hK, hS, hR⟩ := hC
  refine zG_mP (t := tX1_listAll) (ls0 := [.ref o, .int (nI n), .null, .null]) rfl rfl (zdnR (zdnI zdn0)) rfl ?_
  refine zG_s rfl rfl ?_
  refine zN_get rfl hK.1 rfl ?_
  refine zG_s rfl rfl ?_
  refine zN_bld (tt := 3) rfl (Or.inr rfl) hK.2.2.1 (by omega) (by omega) (hR n hn).1 ?_
  first | refine zN_ifb rfl (fun c1 => ?_) (fun c2 => ?_) | refine zN_eq0 rfl (by omega) (fun c1 => ?_) (fun c2 => ?_)
  · skip
    refine zG_s rfl rfl ?_
    refine zN_get rfl hK.1 rfl ?_
    refine zG_s rfl rfl ?_
    refine zG_s rfl rfl ?_
    refine zN_bst (tt := 3) (ty := .boolean) rfl (Or.inr ⟨rfl, rfl⟩) hK.2.2.1 (by omega) (by omega) (zble_of ho2) ?_
    have hF : zFr (zkoS o) h (zset h (o + 5) (.inl (3, 5, .inl (upd il n (vp_nar .boolean (nI 1)))))) := zFr.rf.set (zkoS_in (k := 5) (by omega))
    have hK := hK.p_il (q := upd il n (vp_nar .boolean (nI 1)))
    obtain ⟨m9, lo9, hi9, hS⟩ := hS
    have hS := zSp_ne (j := o + 5) (c := .inl (3, 5, .inl (upd il n (vp_nar .boolean (nI 1))))) hS (by omega) (by omega) (by omega)
    refine zG_s rfl rfl ?_
    refine zG_s rfl rfl ?_
    refine zG_s rfl rfl ?_
    refine zG_s rfl rfl ?_
    refine zG_s rfl rfl ?_
    refine zG_s rfl rfl ?_
    show zGoP (d + 4) _ 23 _ [.int (nI n * (nI n - nI 1)), _] _ _
    rw [zn1 n (by omega)]
    refine zN_shl (x := 1) rfl (by omega) ?_
    rw [show 1 <<< (n * (n - 1)) = zE9 n from rfl]
    refine zN_st2 rfl (fun _ _ _ => rfl) rfl ?_
    refine zG_s rfl rfl ?_
    refine zN_st3 rfl (fun _ _ _ => rfl) rfl ?_
    have main27 : ∀ c, c ≤ zE9 n → ∀ h1 : zH, zFr (zkoS o) h h1 → zCG h1 o (fun m => b m || decide (m = n)) (fun m => if m = n then c else if b m then zE9 m else 0) → zGoP (d + 4) tX1_listAll 27 [.ref o, .int (nI n), .int (nI (zE9 n)), .int (nI c)] [] h1 Q := by
      refine zdown (zE9 n) ?_ (fun c hp27 ih27 => ?_)
      · skip
        intro h1 hF hC
        refine zG_s rfl rfl ?_
        refine zG_s rfl rfl ?_
        refine zN_ige rfl (by omega) (by omega) (fun c3 => ?_) (fun c4 => absurd c4 (by omega))
        -- leaf 1
        rw [← hQ]
        exact zG_ret rfl rfl ⟨rfl, hF, hC.cc (fun m hm => by
          by_cases e : m = n
          · subst e; simp
          · simp [e])⟩
      · skip
        intro h1 hF hC
        obtain ⟨ht, od, il, al, pl, fo, R, S, P, hK, hS, hR⟩ := hC
        obtain ⟨m9, lo9, hi9, hS⟩ := hS
        obtain ⟨r1, r2, r3, r4, r5⟩ := hR n hn
        simp only [↓reduceIte] at r2 r3 r4 r5
        obtain ⟨r6, r7, r8⟩ := zLs_le n c
        refine zG_s rfl rfl ?_
        refine zG_s rfl rfl ?_
        refine zN_ige rfl (by omega) (by omega) (fun c5 => absurd c5 (by omega)) (fun c6 => ?_)
        refine zG_s rfl rfl ?_
        refine zN_get rfl hK.1 rfl ?_
        refine zG_s rfl rfl ?_
        refine zG_s rfl rfl ?_
        refine zG_cQV rfl rfl hS.1 rfl rfl (cp_becomeCoded (by omega) (by omega) hp27 hS) (fun h2 hB => ?_)
        obtain ⟨hF2, hS⟩ := hB
        have hK := hK.fr hF2 (fun k _ hk => zS_ne hk)
        have hF := hF.tr (hF2.mono (fun j hj => by unfold zsS at hj; unfold zkoS; omega))
        first | refine zN_ifb rfl (fun c7 => ?_) (fun c8 => ?_) | refine zN_eq0 rfl (by omega) (fun c7 => ?_) (fun c8 => ?_)
        · skip
          refine zN_inc3 rfl rfl ?_
          refine zG_s rfl rfl ?_
          -- leaf 2
          refine ih27 _ hF (zCG_mk hK ⟨_, _, _, hS⟩ (fun m hm hne => ?_) ⟨r1, ?_⟩)
          · have this : il m = nI (b2n (b m || decide (m = n))) ∧ zRowC m (if m = n then c else if b m = true then zE9 m else 0) al pl fo R S P := hR m hm
            rw [if_neg hne] at this
            exact this
          · rw [zRowC, zLs_n c7]
            exact ⟨r2, r3, r4, r5⟩
        · skip
          refine zG_s rfl rfl ?_
          refine zN_get rfl hK.1 rfl ?_
          refine zG_s rfl rfl ?_
          refine zG_s rfl rfl ?_
          refine zN_ald rfl hK.2.2.2.1 (by omega) (by omega) r2 ?_
          refine zG_s rfl rfl ?_
          refine zN_add rfl ?_
          refine zN_ast rfl hK.2.2.2.1 (by omega) (by omega) (zble_of ho2) ?_
          have hF := hF.set (k := o + 6) (c := .inl (0, 5, .inl (upd al n (nI ((zLs n c).1 + 1))))) (zkoS_in (k := 6) (by omega))
          have hS := zSp_ne (j := o + 6) (c := .inl (0, 5, .inl (upd al n (nI ((zLs n c).1 + 1))))) hS (by omega) (by omega) (by omega)
          have hK := hK.p_al (q := upd al n (nI ((zLs n c).1 + 1)))
          refine zG_s rfl rfl ?_
          refine zN_get rfl hK.1 rfl ?_
          refine zG_s rfl rfl ?_
          refine zG_s rfl rfl ?_
          refine zN_ald rfl hK.2.2.2.2.1 (by omega) (by omega) r3 ?_
          refine zG_s rfl rfl ?_
          refine zN_get rfl hK.1 rfl ?_
          refine zG_cV1 rfl rfl hS.1 rfl rfl (ct_isPlain ⟨hS, (⟨by omega, fun x hx => ⟨zDl_lt (by omega) (by omega), zbits_lt8 _ (by omega)⟩⟩ : zOk n (zDl n c) (zTr n (zDl n c)))⟩) ?_
          have jn76 : ∀ w : Nat, w = b2n (zPln n c) → zGoP (d + 4) tX1_listAll 76 [.ref o, .int (nI n), .int (nI (zE9 n)), .int (nI c)] [.int (nI w), .int (nI (zLs n c).2.1), .int (nI n), .ref (o + 7)] (zset h2 (o + 6) (.inl (0, 5, .inl (upd al n (nI ((zLs n c).1 + 1)))))) Q := by
            intro w ew
            refine zN_add rfl ?_
            refine zN_ast rfl hK.2.2.2.2.1 (by omega) (by omega) (zble_of ho2) ?_
            have hF := hF.set (k := o + 7) (c := .inl (0, 5, .inl (upd pl n (nI ((zLs n c).2.1 + w))))) (zkoS_in (k := 7) (by omega))
            have hS := zSp_ne (j := o + 7) (c := .inl (0, 5, .inl (upd pl n (nI ((zLs n c).2.1 + w))))) hS (by omega) (by omega) (by omega)
            have hK := hK.p_pl (q := upd pl n (nI ((zLs n c).2.1 + w)))
            refine zG_s rfl rfl ?_
            refine zG_s rfl rfl ?_
            refine zG_s rfl rfl ?_
            refine zG_cQN rfl rfl hK.1 rfl rfl (ct_enlist ho2 hK hS hn (by omega) r8 r4 r5) (fun h4 hB => ?_)
            obtain ⟨hF3, hS, ht3, od3, fo3, R3, S3, P3, hK, e1, e2, e3⟩ := hB
            have hF := hF.tr hF3
            refine zN_inc3 rfl rfl ?_
            refine zG_s rfl rfl ?_
            -- leaf 3
            refine ih27 _ hF (zCG_mk hK ⟨_, _, _, hS⟩ (fun m hm hne => ?_) ⟨r1, ?_⟩)
            · obtain ⟨q1, q2, q3, q4, q5⟩ := hR m hm
              obtain ⟨f1, f2, f3, f4⟩ := e3 m hne
              simp only [hne, ↓reduceIte] at q2 q3 q4 q5
              refine ⟨q1, ?_, ?_, ?_, ?_⟩
              · rw [upd_ne _ _ hne]; exact q2
              · rw [upd_ne _ _ hne]; exact q3
              · rw [f1]; exact q4
              · rw [f2, f3, f4]; exact q5
            · rw [zRowC, zLs_y c8, ← ew]
              exact ⟨upd_at _ _ _, upd_at _ _ _, e1, e2⟩
          first | refine zN_ifb rfl (fun c9 => ?_) (fun c10 => ?_) | refine zN_eq0 rfl (by omega) (fun c9 => ?_) (fun c10 => ?_)
          · skip
            refine zG_s rfl rfl ?_
            -- leaf 4
            exact jn76 0 (by rw [zPln, c9]; rfl)
          · skip
            refine zG_s rfl rfl ?_
            refine zG_s rfl rfl ?_
            -- leaf 5
            exact jn76 1 (by rw [zPln, c10]; rfl)
    refine main27 0 (by omega) _ hF (zCG_mk hK ⟨m9, lo9, hi9, hS⟩ (fun m hm hne => ?_) ⟨?_, ?_⟩)
    · obtain ⟨r1, r2⟩ := hR m hm
      refine ⟨?_, r2⟩
      rw [upd_ne _ _ hne, r1, decide_eq_false hne, Bool.or_false]
    · rw [upd_at, decide_eq_true rfl, Bool.or_true]
      rfl
    · obtain ⟨r1, r2⟩ := hR n hn
      simp only [c1, Bool.false_eq_true, ↓reduceIte] at r2
      exact r2
  · skip
    -- leaf 6
    rw [← hQ]
    exact zG_ret rfl rfl ⟨rfl, zFr.rf, ht, od, il, al, pl, fo, R, S, P, hK, hS, fun m hm => by
      by_cases e : m = n
      · subst e
        have := hR m hm
        simp only [c2, Bool.true_or, ↓reduceIte] at this ⊢
        exact this
      · have := hR m hm
        show il m = nI (b2n (b m || decide (m = n))) ∧ zRowC m (if (b m || decide (m = n)) = true then zE9 m else 0) al pl fo R S P
        rw [decide_eq_false e, Bool.or_false]
        exact this⟩
theorem ct_plainForms {d : Nat} {h : zH} {o n : Nat} {b : Nat → Bool} {cc : Nat → Nat} (hC : zCG h o b cc) (hn : n < 5) : zCall (d + 1) 15 [.ref o, .int (nI n)] h (some (.int (nI (zPlSum (zLs n (cc n)).2.2))), h) := by
  obtain ⟨ht, od, il, al, pl, fo, R, S, P, hK, hS, hR⟩ := hC
  obtain ⟨r1, r2, r3, r4, r5⟩ := hR n hn
  obtain ⟨r6, r7, r8⟩ := zLs_le n (cc n)
  have hp1 := zLs_pl (n := n) (cc n)
  generalize (zLs n (cc n)).2.2 = L at *
  obtain ⟨⟨g1, g2, g3⟩, g4⟩ := hK.Pr
  refine zG_m (t := tX1_plainForms) (ls0 := [.ref o, .int (nI n), .null, .null]) rfl rfl (zdnR (zdnI zdn0)) rfl ?_
  refine zG_s rfl rfl ?_
  refine zN_st2 rfl (fun _ _ _ => rfl) rfl ?_
  refine zG_s rfl rfl ?_
  refine zN_st3 rfl (fun _ _ _ => rfl) rfl ?_
  have main4 : ∀ k, k ≤ L.length → zGo (d) tX1_plainForms 4 [.ref o, .int (nI n), .int (nI (zsm (zPlP L) k)), .int (nI k)] [] h (some (.int (nI (zPlSum L))), h) := by
    refine zdown (L.length) ?_ (fun k hp4 ih4 => ?_)
    · skip
      refine zG_s rfl rfl ?_
      refine zG_s rfl rfl ?_
      refine zN_get rfl hK.1 rfl ?_
      refine zG_s rfl rfl ?_
      refine zN_ald rfl hK.2.2.2.2.2.1 (by omega) (by omega) r4 ?_
      refine zN_ige rfl (by omega) (by omega) (fun c1 => ?_) (fun c2 => absurd c2 (by omega))
      refine zG_s rfl rfl ?_
      -- leaf 1
      exact zG_ret rfl rfl rfl
    · skip
      refine zG_s rfl rfl ?_
      refine zG_s rfl rfl ?_
      refine zN_get rfl hK.1 rfl ?_
      refine zG_s rfl rfl ?_
      refine zN_ald rfl hK.2.2.2.2.2.1 (by omega) (by omega) r4 ?_
      refine zN_ige rfl (by omega) (by omega) (fun c3 => absurd c3 (by omega)) (fun c4 => ?_)
      refine zG_s rfl rfl ?_
      refine zG_s rfl rfl ?_
      refine zN_get rfl hK.1 rfl ?_
      refine zG_s rfl rfl ?_
      refine zN_qld (tt := 2) rfl g2 (by omega) (by omega) (g3 n (by omega)) ?_
      refine zG_s rfl rfl ?_
      refine zN_ald rfl (g4 n (by omega)) (by omega) (by omega) (r5 k hp4).2.2 ?_
      refine zN_add rfl ?_
      refine zN_st2 rfl (fun _ _ _ => rfl) rfl ?_
      refine zN_inc3 rfl rfl ?_
      refine zG_s rfl rfl ?_
      -- leaf 2
      rw [zsm] at ih4
      exact ih4
  exact main4 0 (by omega)
theorem ct_placeOf {d : Nat} {h : zH} {o n p9 i : Nat} {b : Nat → Bool} {cc : Nat → Nat} (hC : zCG h o b cc) (hn : n < 5) (hp9 : p9 < 2) (hi : i < 2 ^ 31) : zCall (d + 1) 16 [.ref o, .int (nI n), .int (nI p9), .int (nI i)] h (some (.int (zix (zPlAt (zLs n (cc n)).2.2 p9 i) (zLs n (cc n)).2.2.length)), h) := by
  obtain ⟨ht, od, il, al, pl, fo, R, S, P, hK, hS, hR⟩ := hC
  obtain ⟨r1, r2, r3, r4, r5⟩ := hR n hn
  obtain ⟨r6, r7, r8⟩ := zLs_le n (cc n)
  have hp1 := zLs_pl (n := n) (cc n)
  generalize (zLs n (cc n)).2.2 = L at *
  obtain ⟨⟨g1, g2, g3⟩, g4⟩ := hK.Pr
  unfold zPlAt
  generalize hcq : (fun j => decide (p9 ≤ zPlP L j)) = cq
  have hcx : ∀ j, cq j = decide (p9 ≤ zPlP L j) := fun j => by rw [← hcq]
  generalize hpq : (fun k => decide (p9 ≤ zPlP L k) && decide (zct cq k = i)) = pq
  have hpx : ∀ k, pq k = (cq k && decide (zct cq k = i)) := fun k => by rw [← hpq, hcx]
  refine zG_m (t := tX1_placeOf) (ls0 := [.ref o, .int (nI n), .int (nI p9), .int (nI i), .null, .null]) rfl rfl (zdnR (zdnI (zdnI (zdnI zdn0)))) rfl ?_
  refine zG_s rfl rfl ?_
  refine zN_st4 rfl (fun _ _ _ => rfl) rfl ?_
  refine zG_s rfl rfl ?_
  refine zN_st5 rfl (fun _ _ _ => rfl) rfl ?_
  have main6 : ∀ k, k ≤ L.length → (∀ j, j < k → pq j = false) → zGo (d) tX1_placeOf 6 [.ref o, .int (nI n), .int (nI p9), .int (nI i), .int (nI (zct cq k)), .int (nI k)] [] h (some (.int (zix (zfs pq L.length) L.length)), h) := by
    refine zdown (L.length) ?_ (fun k hp6 ih6 => ?_)
    · skip
      intro hno
      refine zG_s rfl rfl ?_
      refine zG_s rfl rfl ?_
      refine zN_get rfl hK.1 rfl ?_
      refine zG_s rfl rfl ?_
      refine zN_ald rfl hK.2.2.2.2.2.1 (by omega) (by omega) r4 ?_
      refine zN_ige rfl (by omega) (by omega) (fun c1 => ?_) (fun c2 => absurd c2 (by omega))
      refine zG_s rfl rfl ?_
      -- leaf 1
      exact zG_ret rfl rfl (by rw [zix, zfs_none hno, if_neg (Nat.lt_irrefl _)])
    · skip
      intro hno
      have z1 := zct_le cq k
      have z2 := hp1 k
      refine zG_s rfl rfl ?_
      refine zG_s rfl rfl ?_
      refine zN_get rfl hK.1 rfl ?_
      refine zG_s rfl rfl ?_
      refine zN_ald rfl hK.2.2.2.2.2.1 (by omega) (by omega) r4 ?_
      refine zN_ige rfl (by omega) (by omega) (fun c3 => absurd c3 (by omega)) (fun c4 => ?_)
      refine zG_s rfl rfl ?_
      refine zN_get rfl hK.1 rfl ?_
      refine zG_s rfl rfl ?_
      refine zN_qld (tt := 2) rfl g2 (by omega) (by omega) (g3 n (by omega)) ?_
      refine zG_s rfl rfl ?_
      refine zN_ald rfl (g4 n (by omega)) (by omega) (by omega) (r5 k hp6).2.2 ?_
      rw [show (L.getD k (0, 0, 0)).2.2 = zPlP L k from rfl]
      refine zG_s rfl rfl ?_
      refine zN_ilt rfl (by omega) (by omega) (fun c5 => ?_) (fun c6 => ?_)
      · skip
        refine zN_inc5 rfl rfl ?_
        refine zG_s rfl rfl ?_
        -- leaf 2
        have e : cq k = false := by rw [hcx]; exact decide_eq_false (by omega)
        rw [zct_no e] at ih6
        exact ih6 (fun j hj => by
          by_cases ej : j = k
          · subst ej; rw [hpx, e]; rfl
          · exact hno j (by omega))
      · skip
        refine zG_s rfl rfl ?_
        refine zG_s rfl rfl ?_
        refine zN_ine rfl (by omega) (by omega) (fun c7 => ?_) (fun c8 => ?_)
        · skip
          refine zN_inc4 rfl rfl ?_
          refine zN_inc5 rfl rfl ?_
          refine zG_s rfl rfl ?_
          -- leaf 3
          have e : cq k = true := by rw [hcx]; exact decide_eq_true (by omega)
          rw [zct_yes e] at ih6
          exact ih6 (fun j hj => by
            by_cases ej : j = k
            · subst ej; rw [hpx, e, decide_eq_false c7]; rfl
            · exact hno j (by omega))
        · skip
          refine zG_s rfl rfl ?_
          -- leaf 4
          have e : cq k = true := by rw [hcx]; exact decide_eq_true (by omega)
          exact zG_ret rfl rfl (by rw [zix, zfs_at hp6 (by rw [hpx, e, decide_eq_true c8]; rfl) hno, if_pos hp6])
  exact main6 0 (by omega) (fun j hj => absurd hj (by omega))
