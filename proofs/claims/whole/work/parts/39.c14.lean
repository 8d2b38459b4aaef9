theorem ct_becomeChains {d : Nat} {h : zH} {o q n : Nat} {lo hi : Nat → Nat} (ho2 : 2 ≤ o) (hC : zCa h o) (hS : zSp h q n lo hi) (hO : zOk n lo hi) (ha : zcN o q) : zCallP (d + 2) 46 [.ref o, .ref q] h (zRN (fun h1 => zFr (zcS o) h h1 ∧ zCS h1 o (zCc n lo hi))) := by
  have hn := hO.1
  obtain ⟨ct, pl, bs, ch, hC⟩ := hC
  have hFl : zFst n lo hi < 256 := zbits_lt8 _ hn
  generalize hQ : (zRN (fun h1 => zFr (zcS o) h h1 ∧ zCS h1 o (zCc n lo hi))) = Q
  refine zG_mP (t := tX5_becomeChains) (ls0 := [.ref o, .ref q, .null, .null, .null, .null]) rfl rfl (zdnR (zdnR zdn0)) rfl ?_
  refine zG_s rfl rfl ?_
  refine zG_cV1 rfl rfl hS.1 rfl rfl (ct_firsts ⟨hS, hO⟩) ?_
  generalize hFF : zFst n lo hi = FF at *
  refine zN_st2 rfl (fun _ _ _ => rfl) rfl ?_
  refine zG_s rfl rfl ?_
  refine zN_st3 rfl (fun _ _ _ => rfl) rfl ?_
  have main7 : ∀ s, s ≤ 256 → ∀ (h1 : zH) (ct : Nat → Int32) (z4 z5 : Value), zFr (zcS o) h h1 → zC0 h1 o ct pl bs ch → (∀ j, j < s → ct j = nI (zCc n lo hi j)) → zok1 [.ref o, .ref q, .int (nI FF), .int (nI s), z4, z5] 5 = true → zGoP (d + 1) tX5_becomeChains 7 [.ref o, .ref q, .int (nI FF), .int (nI s), z4, z5] [] h1 Q := by
    refine zdown (256) ?_ (fun s hp7 ih7 => ?_)
    · skip
      intro h1 ct z4 z5 hF hC hct e5
      refine zG_s rfl rfl ?_
      refine zG_s rfl rfl ?_
      refine zN_ige rfl (by omega) (by omega) (fun c1 => ?_) (fun c2 => absurd c2 (by omega))
      -- leaf 1
      rw [← hQ]
      exact zG_ret rfl rfl ⟨rfl, hF, ct, pl, bs, ch, hC, hct⟩
    · skip
      intro h1 ct z4 z5 hF hC hct e5
      have b1 := zan_lt FF (show s < 2 ^ 31 by omega)
      obtain ⟨s1, al, ah, s2, s3, sv⟩ := zSp.fc hF ha hS
      refine zG_s rfl rfl ?_
      refine zG_s rfl rfl ?_
      refine zN_ige rfl (by omega) (by omega) (fun c3 => absurd c3 (by omega)) (fun c4 => ?_)
      refine zG_s rfl rfl ?_
      refine zG_s rfl rfl ?_
      refine zG_s rfl rfl ?_
      refine zN_not rfl ?_
      refine zN_andn rfl ?_
      have jn27 : ∀ (w : Bool), w = decide (zan s FF = 0) → zGoP (d + 1) tX5_becomeChains 27 [.ref o, .ref q, .int (nI FF), .int (nI s), z4, z5] [.int (nI (b2n w))] h1 Q := by
        intro w ew
        have jn90 : ∀ (w : Bool) (z5 : Value), w = zChn n lo hi s → zGoP (d + 1) tX5_becomeChains 90 [.ref o, .ref q, .int (nI FF), .int (nI s), .int (nI (b2n w)), z5] [] h1 Q := by
          intro w z5 ew
          refine zG_s rfl rfl ?_
          refine zN_get rfl hC.1 rfl ?_
          refine zG_s rfl rfl ?_
          refine zG_s rfl rfl ?_
          have jn108 : ∀ (v : Nat), v = zCc n lo hi s → zGoP (d + 1) tX5_becomeChains 108 [.ref o, .ref q, .int (nI FF), .int (nI s), .int (nI (b2n w)), z5] [.int (nI v), .int (nI s), .ref (o + 1)] h1 Q := by
            intro v ev
            refine zN_ast rfl hC.2.1 (by omega) (by omega) (zble_of ho2) ?_
            refine zN_inc3 rfl rfl ?_
            refine zG_s rfl rfl ?_
            -- leaf 2
            exact ih7 _ _ _ _ (hF.set (zcS_in (k := 1) (by omega))) hC.p_ct (fun j hj => by
              by_cases e : j = s
              · subst e; rw [upd_at, ev]
              · rw [upd_ne _ _ e]; exact hct j (by omega)) rfl
          first | refine zN_ifb rfl (fun c5 => ?_) (fun c6 => ?_) | refine zN_eq0 rfl (by omega) (fun c5 => ?_) (fun c6 => ?_)
          · skip
            refine zG_s rfl rfl ?_
            -- leaf 3
            exact jn108 0 (by rw [zCc, ← ew, c5]; rfl)
          · skip
            refine zG_s rfl rfl ?_
            refine zG_cS1 rfl rfl (ct_bitCount (by omega)) ?_
            refine zG_s rfl rfl ?_
            -- leaf 4
            exact jn108 _ (by rw [zCc, ← ew, c6]; rfl)
        refine zN_st4 rfl (fun _ _ _ => rfl) rfl ?_
        refine zG_s rfl rfl ?_
        refine zN_st5 rfl (fun _ _ _ => rfl) rfl ?_
        have main32 : ∀ x, x ≤ n → zGoP (d + 1) tX5_becomeChains 32 [.ref o, .ref q, .int (nI FF), .int (nI s), .int (nI (b2n (w && zAl (zIc lo hi s) x))), .int (nI x)] [] h1 Q := by
          refine zdown (n) ?_ (fun x hp32 ih32 => ?_)
          · skip
            refine zG_s rfl rfl ?_
            refine zG_s rfl rfl ?_
            refine zN_get rfl s1 rfl ?_
            refine zN_ige rfl (by omega) (by omega) (fun c7 => ?_) (fun c8 => absurd c8 (by omega))
            -- leaf 5
            exact jn90 _ _ (by rw [zChn, hFF, ew])
          · skip
            have b2 := hO.2 x hp32
            have b3 := zan_lt (lo x ||| hi x) (show s < 2 ^ 31 by omega)
            refine zG_s rfl rfl ?_
            refine zG_s rfl rfl ?_
            refine zN_get rfl s1 rfl ?_
            refine zN_ige rfl (by omega) (by omega) (fun c9 => absurd c9 (by omega)) (fun c10 => ?_)
            refine zG_s rfl rfl ?_
            first | refine zN_ifb rfl (fun c11 => ?_) (fun c12 => ?_) | refine zN_eq0 rfl (by omega) (fun c11 => ?_) (fun c12 => ?_)
            · skip
              -- leaf 6
              exact jn90 _ _ (by
                rw [zChn, hFF, ← ew, c11]
                cases w with
                | false => rfl
                | true => rw [Bool.true_and] at c11; rw [zAl_stop c11 (by omega)]; rfl)
            · skip
              refine zG_s rfl rfl ?_
              refine zG_s rfl rfl ?_
              refine zG_cS1 rfl rfl (ct_has _ (by omega) (by omega)) ?_
              have jn82 : ∀ (v : Bool), v = zIc lo hi s x → zGoP (d + 1) tX5_becomeChains 82 [.ref o, .ref q, .int (nI FF), .int (nI s), .int (nI (b2n (w && zAl (zIc lo hi s) x))), .int (nI x)] [.int (nI (b2n v))] h1 Q := by
                intro v ev
                refine zN_st4 rfl (fun _ _ _ => rfl) rfl ?_
                refine zN_inc5 rfl rfl ?_
                refine zG_s rfl rfl ?_
                -- leaf 7
                have e : (w && zAl (zIc lo hi s) (x + 1)) = v := by rw [zAl, ← Bool.and_assoc, c12, Bool.true_and, ev]
                rw [e] at ih32
                exact ih32
              first | refine zN_ifb rfl (fun c13 => ?_) (fun c14 => ?_) | refine zN_eq0 rfl (by omega) (fun c13 => ?_) (fun c14 => ?_)
              · skip
                refine zG_s rfl rfl ?_
                refine zG_s rfl rfl ?_
                -- leaf 8
                exact jn82 true (by rw [zIc, c13]; rfl)
              · skip
                refine zG_s rfl rfl ?_
                refine zG_s rfl rfl ?_
                refine zN_get rfl s1 rfl ?_
                refine zG_s rfl rfl ?_
                refine zN_ald rfl s2 (by omega) (by omega) (sv x hp32).1 ?_
                refine zG_s rfl rfl ?_
                refine zN_get rfl s1 rfl ?_
                refine zG_s rfl rfl ?_
                refine zN_ald rfl s3 (by omega) (by omega) (sv x hp32).2 ?_
                refine zN_or rfl ?_
                refine zG_s rfl rfl ?_
                refine zN_not rfl ?_
                refine zN_andn rfl ?_
                first | refine zN_ifnb rfl (fun c15 => ?_) (fun c16 => ?_) | refine zN_ne0 rfl (by omega) (fun c15 => ?_) (fun c16 => ?_)
                · skip
                  refine zG_s rfl rfl ?_
                  -- leaf 9
                  exact jn82 false (by rw [zIc, c14, decide_eq_false (by omega)]; rfl)
                · skip
                  refine zG_s rfl rfl ?_
                  refine zG_s rfl rfl ?_
                  -- leaf 10
                  exact jn82 true (by rw [zIc, c14, decide_eq_true c16]; rfl)
        have := main32 0 (by omega)
        rw [zAl, Bool.and_true] at this
        exact this
      first | refine zN_ifnb rfl (fun c17 => ?_) (fun c18 => ?_) | refine zN_ne0 rfl (by omega) (fun c17 => ?_) (fun c18 => ?_)
      · skip
        refine zG_s rfl rfl ?_
        -- leaf 11
        exact jn27 false (decide_eq_false (by omega)).symm
      · skip
        refine zG_s rfl rfl ?_
        refine zG_s rfl rfl ?_
        -- leaf 12
        exact jn27 true (decide_eq_true c18).symm
  exact main7 0 (by omega) h ct _ _ zFr.rf hC (fun j hj => absurd hj (by omega)) rfl
theorem ct_count {d : Nat} {h : zH} {o k : Nat} {C : Nat → Nat} (hC : zCS h o C) (hk : k < 2 ^ 30) (hb : ∀ s, s < 256 → C s ≤ 8) : zCall (d + 1) 48 [.ref o, .int (nI k)] h (some (.int (nI (zNum C k))), h) := by
  obtain ⟨ct, pl, bs, ch, hC, hct⟩ := hC
  unfold zNum
  generalize hP : (fun s => decide (1 ≤ s) && decide (C s = k)) = P
  have hPx : ∀ s, P s = (decide (1 ≤ s) && decide (C s = k)) := fun s => by rw [← hP]
  refine zG_m (t := tX5_count) (ls0 := [.ref o, .int (nI k), .null, .null]) rfl rfl (zdnR (zdnI zdn0)) rfl ?_
  refine zG_s rfl rfl ?_
  refine zN_st2 rfl (fun _ _ _ => rfl) rfl ?_
  refine zG_s rfl rfl ?_
  refine zN_st3 rfl (fun _ _ _ => rfl) rfl ?_
  have main4 : ∀ s, s ≤ 256 → 1 ≤ s → zGo (d) tX5_count 4 [.ref o, .int (nI k), .int (nI (zct P s)), .int (nI s)] [] h (some (.int (nI (zct P 256))), h) := by
    refine zdown (256) ?_ (fun s hp4 ih4 => ?_)
    · skip
      intro h0
      refine zG_s rfl rfl ?_
      refine zG_s rfl rfl ?_
      refine zN_ige rfl (by omega) (by omega) (fun c1 => ?_) (fun c2 => absurd c2 (by omega))
      refine zG_s rfl rfl ?_
      -- leaf 1
      exact zG_ret rfl rfl rfl
    · skip
      intro h0
      have b1 := hb s hp4
      refine zG_s rfl rfl ?_
      refine zG_s rfl rfl ?_
      refine zN_ige rfl (by omega) (by omega) (fun c3 => absurd c3 (by omega)) (fun c4 => ?_)
      refine zG_s rfl rfl ?_
      refine zG_s rfl rfl ?_
      refine zN_get rfl hC.1 rfl ?_
      refine zG_s rfl rfl ?_
      refine zN_ald rfl hC.2.1 (by omega) (by omega) (hct s hp4) ?_
      refine zG_s rfl rfl ?_
      refine zN_ine rfl (by omega) (by omega) (fun c5 => ?_) (fun c6 => ?_)
      · skip
        refine zG_s rfl rfl ?_
        refine zN_add rfl ?_
        refine zN_st2 rfl (fun _ _ _ => rfl) rfl ?_
        refine zN_inc3 rfl rfl ?_
        refine zG_s rfl rfl ?_
        -- leaf 2
        rw [zct_no (by rw [hPx, decide_eq_false c5, Bool.and_false])] at ih4
        exact ih4 (by omega)
      · skip
        refine zG_s rfl rfl ?_
        refine zG_s rfl rfl ?_
        refine zN_add rfl ?_
        refine zN_st2 rfl (fun _ _ _ => rfl) rfl ?_
        refine zN_inc3 rfl rfl ?_
        refine zG_s rfl rfl ?_
        -- leaf 3
        rw [zct_yes (by rw [hPx, decide_eq_true c6, decide_eq_true h0]; rfl)] at ih4
        exact ih4 (by omega)
  have e1 : zct P 1 = 0 := zct_no (by rw [hPx]; rfl)
  have := main4 1 (by omega) (by omega)
  rw [e1] at this
  exact this
theorem ct_total {d : Nat} {h : zH} {o : Nat} {C : Nat → Nat} (hC : zCS h o C) (hb : ∀ s, s < 256 → C s ≤ 8) : zCall (d + 1) 49 [.ref o] h (some (.int (nI (zTot C))), h) := by
  obtain ⟨ct, pl, bs, ch, hC, hct⟩ := hC
  unfold zTot
  generalize hP : (fun s => decide (1 ≤ s) && decide (0 < C s)) = P
  have hPx : ∀ s, P s = (decide (1 ≤ s) && decide (0 < C s)) := fun s => by rw [← hP]
  refine zG_m (t := tX5_total) (ls0 := [.ref o, .null, .null]) rfl rfl (zdnR zdn0) rfl ?_
  refine zG_s rfl rfl ?_
  refine zN_st1 rfl (fun _ _ _ => rfl) rfl ?_
  refine zG_s rfl rfl ?_
  refine zN_st2 rfl (fun _ _ _ => rfl) rfl ?_
  have main4 : ∀ s, s ≤ 256 → 1 ≤ s → zGo (d) tX5_total 4 [.ref o, .int (nI (zct P s)), .int (nI s)] [] h (some (.int (nI (zct P 256))), h) := by
    refine zdown (256) ?_ (fun s hp4 ih4 => ?_)
    · skip
      intro h0
      refine zG_s rfl rfl ?_
      refine zG_s rfl rfl ?_
      refine zN_ige rfl (by omega) (by omega) (fun c1 => ?_) (fun c2 => absurd c2 (by omega))
      refine zG_s rfl rfl ?_
      -- leaf 1
      exact zG_ret rfl rfl rfl
    · skip
      intro h0
      have b1 := hb s hp4
      refine zG_s rfl rfl ?_
      refine zG_s rfl rfl ?_
      refine zN_ige rfl (by omega) (by omega) (fun c3 => absurd c3 (by omega)) (fun c4 => ?_)
      refine zG_s rfl rfl ?_
      refine zG_s rfl rfl ?_
      refine zN_get rfl hC.1 rfl ?_
      refine zG_s rfl rfl ?_
      refine zN_ald rfl hC.2.1 (by omega) (by omega) (hct s hp4) ?_
      refine zN_le0 rfl (by omega) (fun c5 => ?_) (fun c6 => ?_)
      · skip
        refine zG_s rfl rfl ?_
        refine zN_add rfl ?_
        refine zN_st1 rfl (fun _ _ _ => rfl) rfl ?_
        refine zN_inc2 rfl rfl ?_
        refine zG_s rfl rfl ?_
        -- leaf 2
        rw [zct_no (by rw [hPx, c5]; cases decide (1 ≤ s) <;> rfl)] at ih4
        exact ih4 (by omega)
      · skip
        refine zG_s rfl rfl ?_
        refine zG_s rfl rfl ?_
        refine zN_add rfl ?_
        refine zN_st1 rfl (fun _ _ _ => rfl) rfl ?_
        refine zN_inc2 rfl rfl ?_
        refine zG_s rfl rfl ?_
        -- leaf 3
        rw [zct_yes (by rw [hPx, decide_eq_true c6, decide_eq_true h0]; rfl)] at ih4
        exact ih4 (by omega)
  have e1 : zct P 1 = 0 := zct_no (by rw [hPx]; rfl)
  have := main4 1 (by omega) (by omega)
  rw [e1] at this
  exact this
theorem ct_fill {d : Nat} {h : zH} {o q n : Nat} {lo hi C : Nat → Nat} (ho2 : 2 ≤ o) (hq2 : 2 ≤ q) (hCS : zCS h o C) (hS : zSp h q n lo hi) (hb : ∀ s, s < 256 → C s ≤ 8) (ha : zcN o q) : zCallP (d + 3) 50 [.ref o, .ref q] h (zRN (fun h1 => zFr (fun j => zcS o j ∨ zsS q j) h h1 ∧ zCS h1 o C ∧ zSp h1 q (zFk C 8).1 (zSubL (zFk C 8).1 (zFk C 8).2) (zTr (zFk C 8).1 (zSubL (zFk C 8).1 (zFk C 8).2)))) := by
  obtain ⟨ct, pl, bs, ch, hC, hct⟩ := hCS
  have ls := zFk_le C
  have lc := zFk_ch C
  generalize hQ : (zRN (fun h1 => zFr (fun j => zcS o j ∨ zsS q j) h h1 ∧ zCS h1 o C ∧ zSp h1 q (zFk C 8).1 (zSubL (zFk C 8).1 (zFk C 8).2) (zTr (zFk C 8).1 (zSubL (zFk C 8).1 (zFk C 8).2)))) = Q
  refine zG_mP (t := tX5_fill) (ls0 := [.ref o, .ref q, .null, .null, .null]) rfl rfl (zdnR (zdnR zdn0)) rfl ?_
  refine zG_s rfl rfl ?_
  refine zN_st2 rfl (fun _ _ _ => rfl) rfl ?_
  refine zG_s rfl rfl ?_
  refine zN_st3 rfl (fun _ _ _ => rfl) rfl ?_
  have jn61 : ∀ (h1 : zH) (ch : Nat → Int32) (w3 : Int32) (z4 : Value), zFr (zcS o) h h1 → zC0 h1 o ct pl bs ch → (∀ j, j < (zFk C 8).1 → ch j = nI ((zFk C 8).2 j)) → zGoP (d + 2) tX5_fill 61 [.ref o, .ref q, .int (nI (zFk C 8).1), .int w3, z4] [] h1 Q := by
    intro h1 ch w3 z4 hF hC hch
    have l8 := ls 8
    have lc8 := lc 8
    generalize zFk C 8 = f at *
    obtain ⟨n9, cf⟩ := f
    simp only at *
    have hL : ∀ x, zSubL n9 cf x = zbits (fun y => decide (zan (cf y) (cf x) = 0)) n9 := fun x => rfl
    obtain ⟨fl, fh, hx, -⟩ := (zSp.fc hF ha hS).x
    have hne : ∀ {m : Nat} {fl fh : Nat → Int32}, zC0 (zeh h1 q m fl fh) o ct pl bs ch := hC.fr zeh_fr (fun j h1 h2 => by unfold zcN at ha; unfold zcS at h1; unfold zsS at h2; omega)
    rw [← hx.w]
    refine zG_s rfl rfl ?_
    refine zG_s rfl rfl ?_
    refine zN_psz rfl ?_
    refine zG_s rfl rfl ?_
    refine zN_st3 rfl (fun _ _ _ => rfl) rfl ?_
    have main68 : ∀ x, x ≤ n9 → ∀ (z4 : Value), zGoP (d + 2) tX5_fill 68 [.ref o, .ref q, .int (nI n9), .int (nI x), z4] [] (zeh h1 q n9 (zcut (fun x => nI (zSubL n9 cf x)) fl x) fh) Q := by
      refine zdown (n9) ?_ (fun x hp68 ih68 => ?_)
      · skip
        intro z4
        refine zG_s rfl rfl ?_
        refine zG_s rfl rfl ?_
        refine zN_ige rfl (by omega) (by omega) (fun c1 => ?_) (fun c2 => absurd c2 (by omega))
        refine zG_s rfl rfl ?_
        refine zG_cV0 rfl rfl zeh_o rfl rfl (ct_mirror (lo := zSubL n9 cf) hq2 l8 (fun x hx => zbits_lt8 _ l8) (fun x hx => zcut_lt hx)) ?_
        -- leaf 1
        rw [← hQ]
        exact zG_ret rfl rfl ⟨rfl, ((hF.mono (fun j h => Or.inl h)).tr (zeh_fr.mono (fun j h => Or.inr h))), ⟨_, _, _, _, hne, hct⟩, zeh_x.sp (fun p hp => by rw [zcut_lt hp, zcut_lt hp]; exact ⟨rfl, rfl⟩)⟩
      · skip
        intro z4
        refine zG_s rfl rfl ?_
        refine zG_s rfl rfl ?_
        refine zN_ige rfl (by omega) (by omega) (fun c3 => absurd c3 (by omega)) (fun c4 => ?_)
        refine zG_s rfl rfl ?_
        refine zN_get rfl (by first | exact zeh_o | assumption) rfl ?_
        refine zG_s rfl rfl ?_
        refine zG_s rfl rfl ?_
        refine zN_plo rfl (by omega) hq2 ?_
        refine zG_s rfl rfl ?_
        refine zN_st4 rfl (fun _ _ _ => rfl) rfl ?_
        have main83 : ∀ y, y ≤ n9 → zGoP (d + 2) tX5_fill 83 [.ref o, .ref q, .int (nI n9), .int (nI x), .int (nI y)] [] (zeh h1 q n9 (upd (zcut (fun x => nI (zSubL n9 cf x)) fl x) x (nI (zbits (fun y => decide (zan (cf y) (cf x) = 0)) y))) fh) Q := by
          refine zdown (n9) ?_ (fun y hp83 ih83 => ?_)
          · skip
            rw [zcut_up (F := fun x => nI (zSubL n9 cf x)) (by show nI (zSubL n9 cf x) = _; rw [hL])]
            refine zG_s rfl rfl ?_
            refine zG_s rfl rfl ?_
            refine zN_ige rfl (by omega) (by omega) (fun c5 => ?_) (fun c6 => absurd c6 (by omega))
            refine zN_inc3 rfl rfl ?_
            refine zG_s rfl rfl ?_
            -- leaf 2
            exact ih68 _
          · skip
            have lcy := lc8 y
            have lcz := zan_lt (cf x) lcy
            refine zG_s rfl rfl ?_
            refine zG_s rfl rfl ?_
            refine zN_ige rfl (by omega) (by omega) (fun c7 => absurd c7 (by omega)) (fun c8 => ?_)
            refine zG_s rfl rfl ?_
            refine zN_get rfl (by first | exact zeh_o | assumption) rfl ?_
            refine zG_s rfl rfl ?_
            refine zG_s rfl rfl ?_
            refine zN_ald rfl zeh_l (by omega) (by omega) (upd_at _ _ _) ?_
            refine zG_s rfl rfl ?_
            refine zN_get rfl hne.1 rfl ?_
            refine zG_s rfl rfl ?_
            refine zN_ald rfl hne.2.2.2.2 (by omega) (by omega) (hch y hp83) ?_
            refine zG_s rfl rfl ?_
            refine zN_get rfl hne.1 rfl ?_
            refine zG_s rfl rfl ?_
            refine zN_ald rfl hne.2.2.2.2 (by omega) (by omega) (hch x hp68) ?_
            refine zG_s rfl rfl ?_
            refine zN_not rfl ?_
            refine zN_andn rfl ?_
            first | refine zN_ifnb rfl (fun c9 => ?_) (fun c10 => ?_) | refine zN_ne0 rfl (by omega) (fun c9 => ?_) (fun c10 => ?_)
            · skip
              refine zG_s rfl rfl ?_
              refine zN_or rfl ?_
              refine zN_plo rfl (by omega) hq2 ?_
              rw [upd_upd]
              refine zN_inc4 rfl rfl ?_
              refine zG_s rfl rfl ?_
              -- leaf 3
              rw [Nat.or_zero]
              rw [zbits_no (c := fun y => decide (zan (cf y) (cf x) = 0)) (decide_eq_false (by omega))] at ih83
              exact ih83
            · skip
              refine zG_s rfl rfl ?_
              refine zG_s rfl rfl ?_
              refine zN_shl rfl (by omega) ?_
              refine zG_s rfl rfl ?_
              refine zN_or rfl ?_
              refine zN_plo rfl (by omega) hq2 ?_
              rw [upd_upd]
              refine zN_inc4 rfl rfl ?_
              refine zG_s rfl rfl ?_
              -- leaf 4
              rw [zbits_yes (c := fun y => decide (zan (cf y) (cf x) = 0)) (decide_eq_true c10)] at ih83
              exact ih83
        exact main83 0 (by omega)
    have := main68 0 (by omega) z4
    rw [zcut_0] at this
    exact this
  have main4 : ∀ k, k ≤ 8 → ∀ (h1 : zH) (ch : Nat → Int32) (z4 : Value), zFr (zcS o) h h1 → zC0 h1 o ct pl bs ch → (∀ j, j < (zFk C k).1 → ch j = nI ((zFk C k).2 j)) → zGoP (d + 2) tX5_fill 4 [.ref o, .ref q, .int (nI (zFk C k).1), .int (nI (k + 1)), z4] [] h1 Q := by
    refine zdown (8) ?_ (fun k hp4 ih4 => ?_)
    · skip
      intro h1 ch z4 hF hC hch
      refine zG_s rfl rfl ?_
      refine zG_s rfl rfl ?_
      refine zN_igt (y := 8) rfl (by omega) (by omega) (fun c11 => ?_) (fun c12 => absurd c12 (by omega))
      -- leaf 5
      exact jn61 _ _ _ _ hF hC hch
    · skip
      intro h1 ch z4 hF hC hch
      have l1 := ls k
      have lf := fun s => zFs_le (C := C) (k := k + 1) (c0 := (zFk C k).2) l1 s
      have hk2 : zFk C (k + 1) = zFs C (k + 1) (zFk C k).1 (zFk C k).2 256 := rfl
      rw [hk2] at ih4
      generalize zFk C k = f at *
      obtain ⟨n0, c0⟩ := f
      simp only at *
      refine zG_s rfl rfl ?_
      refine zG_s rfl rfl ?_
      refine zN_igt (y := 8) rfl (by omega) (by omega) (fun c13 => absurd c13 (by omega)) (fun c14 => ?_)
      refine zG_s rfl rfl ?_
      refine zN_st4 rfl (fun _ _ _ => rfl) rfl ?_
      have main13 : ∀ s, s ≤ 256 → ∀ (h1 : zH) (ch : Nat → Int32), 1 ≤ s → zFr (zcS o) h h1 → zC0 h1 o ct pl bs ch → (∀ j, j < (zFs C (k + 1) n0 c0 s).1 → ch j = nI ((zFs C (k + 1) n0 c0 s).2 j)) → zGoP (d + 2) tX5_fill 13 [.ref o, .ref q, .int (nI (zFs C (k + 1) n0 c0 s).1), .int (nI (k + 1)), .int (nI s)] [] h1 Q := by
        refine zdown (256) ?_ (fun s hp13 ih13 => ?_)
        · skip
          intro h1 ch h0 hF hC hch
          refine zG_s rfl rfl ?_
          refine zG_s rfl rfl ?_
          refine zN_ige rfl (by omega) (by omega) (fun c15 => ?_) (fun c16 => absurd c16 (by omega))
          refine zN_inc3 rfl rfl ?_
          refine zG_s rfl rfl ?_
          -- leaf 6
          exact ih4 _ _ _ hF hC hch
        · skip
          intro h1 ch h0 hF hC hch
          have b1 := hb s hp13
          have l2 := lf s
          have hs2 : zFs C (k + 1) n0 c0 (s + 1) = if 1 ≤ s ∧ C s = k + 1 ∧ (zFs C (k + 1) n0 c0 s).1 < 8 then ((zFs C (k + 1) n0 c0 s).1 + 1, zupd (zFs C (k + 1) n0 c0 s).2 (zFs C (k + 1) n0 c0 s).1 s) else zFs C (k + 1) n0 c0 s := rfl
          rw [hs2] at ih13
          clear hs2
          generalize zFs C (k + 1) n0 c0 s = f at *
          obtain ⟨n1, c1'⟩ := f
          simp only at *
          refine zG_s rfl rfl ?_
          refine zG_s rfl rfl ?_
          refine zN_ige rfl (by omega) (by omega) (fun c17 => absurd c17 (by omega)) (fun c18 => ?_)
          refine zG_s rfl rfl ?_
          refine zN_get rfl hC.1 rfl ?_
          refine zG_s rfl rfl ?_
          refine zN_ald rfl hC.2.1 (by omega) (by omega) (hct s hp13) ?_
          refine zG_s rfl rfl ?_
          refine zN_ine rfl (by omega) (by omega) (fun c19 => ?_) (fun c20 => ?_)
          · skip
            refine zN_inc4 rfl rfl ?_
            refine zG_s rfl rfl ?_
            -- leaf 7
            rw [if_neg (by omega)] at ih13
            exact ih13 _ _ (by omega) hF hC hch
          · skip
            refine zG_s rfl rfl ?_
            refine zG_s rfl rfl ?_
            refine zN_ige rfl (by omega) (by omega) (fun c21 => ?_) (fun c22 => ?_)
            · skip
              refine zN_inc4 rfl rfl ?_
              refine zG_s rfl rfl ?_
              -- leaf 8
              rw [if_neg (by omega)] at ih13
              exact ih13 _ _ (by omega) hF hC hch
            · skip
              refine zG_s rfl rfl ?_
              refine zN_get rfl hC.1 rfl ?_
              refine zG_s rfl rfl ?_
              refine zG_s rfl rfl ?_
              refine zN_ast rfl hC.2.2.2.2 (by omega) (by omega) (zble_of ho2) ?_
              refine zN_inc2 rfl rfl ?_
              refine zN_inc4 rfl rfl ?_
              refine zG_s rfl rfl ?_
              -- leaf 9
              rw [if_pos ⟨h0, c20, c22⟩] at ih13
              refine ih13 _ _ (by omega) (hF.set (zcS_in (k := 4) (by omega))) hC.p_ch (fun j hj => ?_)
              have hj : j < n1 + 1 := hj
              show _ = nI (zupd c1' n1 s j)
              by_cases e : j = n1
              · subst e; rw [upd_at, zupd_at]
              · rw [upd_ne _ _ e, zupd_ne _ _ e]; exact hch j (by omega)
      have e1 : zFs C (k + 1) n0 c0 1 = (n0, c0) := rfl
      have := main13 1 (by omega) h1 ch (by omega) hF hC (by rw [e1]; exact hch)
      rw [e1] at this
      exact this
  exact main4 0 (by omega) h ch _ zFr.rf hC (fun j hj => absurd hj (Nat.not_lt_zero j))
