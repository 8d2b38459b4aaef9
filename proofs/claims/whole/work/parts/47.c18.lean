theorem ct_boundary {d : Nat} {h : zH} {o s : Nat} {ct pl ch : Nat → Int32} {bs : Nat → Int64} {P : Nat → Nat} (hC : zC0 h o ct pl bs ch) (hs : s < 256) (hp : ∀ x, x < 8 → s.testBit x = true → pl (zan s (1 <<< x)) = nI (P (zan s (1 <<< x))) ∧ P (zan s (1 <<< x)) < 64) : zCall (d + 2) 52 [.ref o, .int (nI s)] h (some (.long (nL (zBnd P s))), h) := by
  unfold zBnd
  generalize hG : (fun x => if s.testBit x = true then 1 <<< P (zan s (1 <<< x)) else 0) = G
  have hGx : ∀ x, G x = if s.testBit x = true then 1 <<< P (zan s (1 <<< x)) else 0 := fun x => by rw [← hG]
  refine zG_m (t := tX5_boundary) (ls0 := [.ref o, .int (nI s), .null, .null, .null]) rfl rfl (zdnR (zdnI zdn0)) rfl ?_
  refine zG_s (st' := .long (nL 0) :: _) rfl rfl ?_
  refine zN_stl2 rfl (fun _ _ _ => rfl) rfl ?_
  refine zG_s rfl rfl ?_
  refine zN_st4 rfl (fun _ _ _ => rfl) rfl ?_
  have main5 : ∀ x, x ≤ 8 → zGo (d + 1) tX5_boundary 5 [.ref o, .int (nI s), .long (nL (zor G x)), .null, .int (nI x)] [] h (some (.long (nL (zor G 8))), h) := by
    refine zdown (8) ?_ (fun x hp5 ih5 => ?_)
    · skip
      refine zG_s rfl rfl ?_
      refine zG_s rfl rfl ?_
      refine zN_ige rfl (by omega) (by omega) (fun c1 => ?_) (fun c2 => absurd c2 (by omega))
      refine zG_s rfl rfl ?_
      -- leaf 1
      exact zG_ret rfl rfl rfl
    · skip
      have b1 : zan s (1 <<< x) < 256 := Nat.lt_of_le_of_lt (zan_le _ _) hs
      refine zG_s rfl rfl ?_
      refine zG_s rfl rfl ?_
      refine zN_ige rfl (by omega) (by omega) (fun c3 => absurd c3 (by omega)) (fun c4 => ?_)
      refine zG_s rfl rfl ?_
      refine zG_s rfl rfl ?_
      refine zG_cS1 rfl rfl (ct_has _ (by omega) (by omega)) ?_
      first | refine zN_ifb rfl (fun c5 => ?_) (fun c6 => ?_) | refine zN_eq0 rfl (by omega) (fun c5 => ?_) (fun c6 => ?_)
      · skip
        refine zN_inc4 rfl rfl ?_
        refine zG_s rfl rfl ?_
        -- leaf 2
        rw [zor, hGx, c5, if_neg (by simp), Nat.or_zero] at ih5
        exact ih5
      · skip
        refine zG_s rfl rfl ?_
        refine zG_s (st' := .long (nL 1) :: _) rfl rfl ?_
        refine zG_s rfl rfl ?_
        refine zN_get rfl hC.1 rfl ?_
        refine zG_s rfl rfl ?_
        refine zG_s rfl rfl ?_
        refine zG_s rfl rfl ?_
        refine zN_shl rfl (by omega) ?_
        refine zG_s rfl rfl ?_
        refine zN_not rfl ?_
        refine zN_andn rfl ?_
        refine zN_ald rfl hC.2.2.1 (by omega) (by omega) (hp x hp5 c6).1 ?_
        have b2 := (hp x hp5 c6).2
        refine zN_lshl rfl (by omega) ?_
        refine zN_lor rfl ?_
        refine zN_stl2 rfl (fun _ _ _ => rfl) rfl ?_
        refine zN_inc4 rfl rfl ?_
        refine zG_s rfl rfl ?_
        -- leaf 3
        rw [zor, hGx, c6, if_pos rfl] at ih5
        exact ih5
  exact main5 0 (by omega)
theorem ct_reduced {d : Nat} {h : zH} {o r9 w : Nat} {ct pl ch : Nat → Int32} {bs : Nat → Int64} {B : Nat → Nat} (hC : zC0 h o ct pl bs ch) (hr : r9 ≤ 64) (hw : w < 2 ^ 64) (hB : ∀ i, i < r9 → bs i = nL (B i) ∧ B i < 2 ^ 64) : zCall (d + 1) 53 [.ref o, .long (nL w), .int (nI r9)] h (some (.long (nL (zRed B r9 w))), h) := by
  refine zG_m (t := tX5_reduced) (ls0 := [.ref o, .long (nL w), .null, .int (nI r9), .null, .null, .null, .null, .null]) rfl rfl (zdnR (zdnL (zdnI zdn0))) rfl ?_
  refine zG_s rfl rfl ?_
  refine zN_stl4 rfl (fun _ _ _ => rfl) rfl ?_
  refine zG_s rfl rfl ?_
  refine zN_st6 rfl (fun _ _ _ => rfl) rfl ?_
  have main6 : ∀ i, i ≤ r9 → ∀ x7 x8 : Value, zGo (d) tX5_reduced 6 [.ref o, .long (nL w), .null, .int (nI r9), .long (nL (zRed B i w)), .null, .int (nI i), x7, x8] [] h (some (.long (nL (zRed B r9 w))), h) := by
    refine zdown (r9) ?_ (fun i hp6 ih6 => ?_)
    · skip
      intro x7 x8
      refine zG_s rfl rfl ?_
      refine zG_s rfl rfl ?_
      refine zN_ige rfl (by omega) (by omega) (fun c1 => ?_) (fun c2 => absurd c2 (by omega))
      refine zG_s rfl rfl ?_
      -- leaf 1
      exact zG_ret rfl rfl rfl
    · skip
      intro x7 x8
      have b1 := (hB i hp6).1
      have b2 := (hB i hp6).2
      have b3 := zRed_lt (r := i) (w := w) (fun j hj => (hB j (by omega)).2) hw
      refine zG_s rfl rfl ?_
      refine zG_s rfl rfl ?_
      refine zN_ige rfl (by omega) (by omega) (fun c3 => absurd c3 (by omega)) (fun c4 => ?_)
      refine zG_s rfl rfl ?_
      refine zN_get rfl hC.1 rfl ?_
      refine zG_s rfl rfl ?_
      refine zN_lld rfl hC.2.2.2.1 (by omega) (by omega) b1 ?_
      refine zG_s rfl rfl ?_
      refine zN_get rfl hC.1 rfl ?_
      refine zG_s rfl rfl ?_
      refine zN_lld rfl hC.2.2.2.1 (by omega) (by omega) b1 ?_
      refine zN_lowb rfl rfl b2 ?_
      skip
      refine zN_stl7 rfl (fun _ _ _ => rfl) rfl ?_
      refine zG_s rfl rfl ?_
      refine zG_s rfl rfl ?_
      refine zN_land rfl ?_
      refine zG_s (st' := .long (nL 0) :: _) rfl rfl ?_
      refine zG_s rfl rfl ?_
      refine zN_lc0 rfl (Nat.lt_of_le_of_lt Nat.and_le_left b3) (fun c5 => ?_) (fun c6 => ?_)
      · skip
        refine zN_inc6 rfl rfl ?_
        refine zG_s rfl rfl ?_
        -- leaf 2
        have e : zRed B (i + 1) w = zRed B i w := by rw [zRed, if_pos c5]
        rw [e] at ih6
        exact ih6 _ _
      · skip
        refine zG_s rfl rfl ?_
        refine zG_s rfl rfl ?_
        refine zN_get rfl hC.1 rfl ?_
        refine zG_s rfl rfl ?_
        refine zN_lld rfl hC.2.2.2.1 (by omega) (by omega) b1 ?_
        refine zN_lxor rfl ?_
        refine zN_stl4 rfl (fun _ _ _ => rfl) rfl ?_
        refine zN_inc6 rfl rfl ?_
        refine zG_s rfl rfl ?_
        -- leaf 3
        have e : zRed B (i + 1) w = zRed B i w ^^^ B i := by rw [zRed, if_neg c6]
        rw [e] at ih6
        exact ih6 _ _
  exact main6 0 (by omega) _ _
theorem ct_rank0 {d : Nat} {h : zH} {o : Nat} : zCall (d + 3) 51 [.ref o, .int (nI 0)] h (some (.int (nI 0)), h) := by
  refine zG_m (t := tX5_rank) (ls0 := [.ref o, .int (nI 0), .null, .null, .null, .null, .null]) rfl rfl (zdnR (zdnI zdn0)) rfl ?_
  refine zG_s rfl rfl ?_
  refine zG_s rfl rfl ?_
  refine zN_ige rfl (by omega) (by omega) (fun c => absurd c (by omega)) (fun c2 => ?_)
  refine zG_s rfl rfl ?_
  -- leaf 1
  exact zG_ret rfl rfl rfl
theorem ct_rank {d : Nat} {h : zH} {o k : Nat} {C : Nat → Nat} (ho2 : 2 ≤ o) (hCS : zCS h o C) (hk1 : 1 ≤ k) (hk : k < 9) (hb : ∀ s, s < 256 → C s ≤ 8) (hc : zClo C k) (hn1 : zNum C k ≤ 63) (hn2 : zNum C (k + 1) ≤ 63) : zCallP (d + 3) 51 [.ref o, .int (nI k)] h (zRV (.int (nI (zRk C k 256).1)) (fun h1 => zFr (zcS o) h h1 ∧ zCS h1 o C)) := by
  obtain ⟨ct, pl, bs, ch, hC, hct⟩ := hCS
  generalize hQ : (zRV (.int (nI (zRk C k 256).1)) (fun h1 => zFr (zcS o) h h1 ∧ zCS h1 o C)) = Q
  refine zG_mP (t := tX5_rank) (ls0 := [.ref o, .int (nI k), .null, .null, .null, .null, .null]) rfl rfl (zdnR (zdnI zdn0)) rfl ?_
  refine zG_s rfl rfl ?_
  refine zG_s rfl rfl ?_
  refine zN_ige rfl (by omega) (by omega) (fun c1 => ?_) (fun c => absurd c (by omega))
  refine zG_s rfl rfl ?_
  refine zN_st2 rfl (fun _ _ _ => rfl) rfl ?_
  refine zG_s rfl rfl ?_
  refine zN_st3 rfl (fun _ _ _ => rfl) rfl ?_
  have main11 : ∀ s, s ≤ 256 → ∀ (h1 : zH) (pl : Nat → Int32), 1 ≤ s → zFr (zcS o) h h1 → zC0 h1 o ct pl bs ch → (∀ t, 1 ≤ t → t < s → C t = k → pl t = nI (zPlc C k t)) → zGoP (d + 2) tX5_rank 11 [.ref o, .int (nI k), .int (nI (zPlc C k s)), .int (nI s), .null, .null, .null] [] h1 Q := by
    refine zdown (256) ?_ (fun s hp11 ih11 => ?_)
    · skip
      intro h1 pl h1s hF hC hpl
      refine zG_s rfl rfl ?_
      refine zG_s rfl rfl ?_
      refine zN_ige rfl (by omega) (by omega) (fun c3 => ?_) (fun c4 => absurd c4 (by omega))
      refine zG_s rfl rfl ?_
      refine zN_st3 rfl (fun _ _ _ => rfl) rfl ?_
      refine zG_s rfl rfl ?_
      refine zN_st4 rfl (fun _ _ _ => rfl) rfl ?_
      have main49 : ∀ s, s ≤ 256 → ∀ (h1 : zH) (bs : Nat → Int64) (x5 x6 : Value), 1 ≤ s → zFr (zcS o) h h1 → zC0 h1 o ct pl bs ch → (∀ i, i < (zRk C k s).1 → bs i = nL ((zRk C k s).2 i)) → zGoP (d + 2) tX5_rank 49 [.ref o, .int (nI k), .int (nI (zPlc C k 256)), .int (nI (zRk C k s).1), .int (nI s), x5, x6] [] h1 Q := by
        refine zdown (256) ?_ (fun s hp49 ih49 => ?_)
        · skip
          intro h1 bs x5 x6 h1s hF hC hbs
          have b3 := zRk_le (C := C) (k := k) 256
          change (zRk C k 256).1 ≤ zNum C (k + 1) at b3
          refine zG_s rfl rfl ?_
          refine zG_s rfl rfl ?_
          refine zN_ige rfl (by omega) (by omega) (fun c5 => ?_) (fun c6 => absurd c6 (by omega))
          refine zG_s rfl rfl ?_
          -- leaf 1
          rw [← hQ]
          exact zG_ret rfl rfl ⟨rfl, hF, ct, pl, bs, ch, hC, hct⟩
        · skip
          intro h1 bs x5 x6 h1s hF hC hbs
          have b1 := hb s hp49
          have b3 := Nat.le_trans (zRk_le (C := C) (k := k) s) (zPlc_up C (k + 1) (show s ≤ 256 by omega))
          change (zRk C k s).1 ≤ zNum C (k + 1) at b3
          have b4 := zRkw_b (s := s) hc hn1 hp49
          refine zG_s rfl rfl ?_
          refine zG_s rfl rfl ?_
          refine zN_ige rfl (by omega) (by omega) (fun c7 => absurd c7 (by omega)) (fun c8 => ?_)
          refine zG_s rfl rfl ?_
          refine zG_s rfl rfl ?_
          refine zN_ige rfl (by omega) (by omega) (fun c => absurd c (by omega)) (fun c10 => ?_)
          have jn91 : ∀ w : Nat, w = zRkw C k s (zRk C k s) → zGoP (d + 2) tX5_rank 91 [.ref o, .int (nI k), .int (nI (zPlc C k 256)), .int (nI (zRk C k s).1), .int (nI s), x5, x6] [.long (nL w)] h1 Q := by
            intro w ew
            refine zN_stl5 rfl (fun _ _ _ => rfl) rfl ?_
            refine zG_s rfl rfl ?_
            refine zG_s (st' := .long (nL 0) :: _) rfl rfl ?_
            refine zG_s rfl rfl ?_
            refine zN_lc0 rfl (by rw [ew]; exact b4) (fun c11 => ?_) (fun c12 => ?_)
            · skip
              refine zN_inc4 rfl rfl ?_
              refine zG_s rfl rfl ?_
              -- leaf 2
              have e := zRk_s (ew.symm.trans c11)
              rw [e] at ih49
              exact ih49 _ _ _ _ (by omega) hF hC hbs
            · skip
              refine zG_s rfl rfl ?_
              refine zN_get rfl hC.1 rfl ?_
              refine zG_s rfl rfl ?_
              refine zG_s rfl rfl ?_
              refine zN_lst rfl hC.2.2.2.1 (by omega) (by omega) (zble_of ho2) ?_
              refine zN_inc3 rfl rfl ?_
              refine zN_inc4 rfl rfl ?_
              refine zG_s rfl rfl ?_
              -- leaf 3
              have e := zRk_a (s := s) (fun g => c12 (ew.trans g))
              rw [e] at ih49
              refine ih49 _ _ _ _ (by omega) (hF.set (zcS_in (k := 3) (by omega))) hC.p_bs (fun i hi => ?_)
              by_cases q : i = (zRk C k s).1
              · subst q
                rw [show vp_updL bs (zRk C k s).1 (nL w) (zRk C k s).1 = nL w from if_pos rfl, ew]
                exact congrArg nL (zupd_at _ _ _).symm
              · rw [show vp_updL bs (zRk C k s).1 (nL w) i = bs i from if_neg q, hbs i (by have hi : i < (zRk C k s).1 + 1 := hi; omega)]
                exact congrArg nL (zupd_ne _ _ q).symm
          refine zG_s rfl rfl ?_
          refine zN_get rfl hC.1 rfl ?_
          refine zG_s rfl rfl ?_
          refine zN_ald rfl hC.2.1 (by omega) (by omega) (hct s hp49) ?_
          refine zG_s rfl rfl ?_
          refine zG_s rfl rfl ?_
          refine zN_add rfl ?_
          refine zN_ine rfl (by omega) (by omega) (fun c13 => ?_) (fun c14 => ?_)
          · skip
            refine zG_s (st' := .long (nL 0) :: _) rfl rfl ?_
            -- leaf 4
            exact jn91 0 (by rw [zRkw, if_neg (fun g => c13 g.2)])
          · skip
            refine zG_s rfl rfl ?_
            refine zG_s rfl rfl ?_
            refine zG_s rfl rfl ?_
            refine zG_cV1 rfl rfl hC.1 rfl rfl (ct_boundary (P := zPlc C k) hC (by omega) (fun x hx hbx => ?_)) ?_
            · obtain ⟨g1, g2, g3, g4⟩ := hc s hp49 (by omega) x hbx
              have g5 := zPlc_lt g2 g3 g4
              exact ⟨hpl _ g2 g3 g4, by omega⟩
            refine zG_s rfl rfl ?_
            refine zG_cV1 rfl rfl hC.1 rfl rfl (ct_reduced (B := (zRk C k s).2) hC (by omega) (zBnd_lt (fun x hx hbx => ?_)) (fun i hi => ⟨hbs i hi, zRk_lt hc hn1 s (by omega) i⟩)) ?_
            · obtain ⟨g1, g2, g3, g4⟩ := hc s hp49 (by omega) x hbx
              have g5 := zPlc_lt g2 g3 g4
              omega
            refine zG_s rfl rfl ?_
            -- leaf 5
            exact jn91 _ (by rw [zRkw, if_pos ⟨h1s, c14⟩])
      exact main49 1 (by omega) _ _ _ _ (by omega) hF hC (fun i hi => absurd hi (Nat.not_lt_zero i))
    · skip
      intro h1 pl h1s hF hC hpl
      have b1 := hb s hp11
      have b2 := zct_le (fun t => decide (1 ≤ t) && decide (C t = k)) s
      change zPlc C k s ≤ s at b2
      refine zG_s rfl rfl ?_
      refine zG_s rfl rfl ?_
      refine zN_ige rfl (by omega) (by omega) (fun c15 => absurd c15 (by omega)) (fun c16 => ?_)
      refine zG_s rfl rfl ?_
      refine zN_get rfl hC.1 rfl ?_
      refine zG_s rfl rfl ?_
      refine zN_ald rfl hC.2.1 (by omega) (by omega) (hct s hp11) ?_
      refine zG_s rfl rfl ?_
      refine zN_ine rfl (by omega) (by omega) (fun c17 => ?_) (fun c18 => ?_)
      · skip
        refine zN_inc3 rfl rfl ?_
        refine zG_s rfl rfl ?_
        -- leaf 6
        have e : zPlc C k (s + 1) = zPlc C k s := zct_no (by rw [decide_eq_false c17, Bool.and_false])
        rw [e] at ih11
        exact ih11 _ _ (by omega) hF hC (fun t g1 g2 g3 => hpl t g1 (Nat.lt_of_le_of_ne (by omega) (fun q => c17 (q ▸ g3))) g3)
      · skip
        refine zG_s rfl rfl ?_
        refine zN_get rfl hC.1 rfl ?_
        refine zG_s rfl rfl ?_
        refine zG_s rfl rfl ?_
        refine zN_ast rfl hC.2.2.1 (by omega) (by omega) (zble_of ho2) ?_
        refine zN_inc2 rfl rfl ?_
        refine zN_inc3 rfl rfl ?_
        refine zG_s rfl rfl ?_
        -- leaf 7
        have e : zPlc C k (s + 1) = zPlc C k s + 1 := zct_yes (by rw [decide_eq_true h1s, decide_eq_true c18]; rfl)
        rw [e] at ih11
        exact ih11 _ _ (by omega) (hF.set (zcS_in (k := 2) (by omega))) hC.p_pl (fun t g1 g2 g3 => by
          by_cases q : t = s
          · subst q; rw [upd_at]
          · rw [upd_ne _ _ q]; exact hpl t g1 (by omega) g3)
  exact main11 1 (by omega) h pl (by omega) zFr.rf hC (fun t g1 g2 => absurd g2 (by omega))
theorem ct_becomeFaces {d : Nat} {h : zH} {o q st ln i n : Nat} {f : Nat → Int32} {F : Nat → Nat} (ho2 : 2 ≤ o) (hC : zCa h o) (hS : zSh h q st ln f) (ha : zcN o q) (hl : ln ≤ 40) (hn : n ≤ 8) (hin : i + n ≤ ln) (hF9 : ∀ j, j < n → f (i + j) = nI (F j) ∧ 1 ≤ F j ∧ F j ≤ 15) : zCallP (d + 2) 47 [.ref o, .ref q, .int (nI i), .int (nI n)] h (zRV (.int (nI 1)) (fun h1 => zFr (zcS o) h h1 ∧ zCS h1 o (zFcC F n))) := by
  obtain ⟨ct, pl, bs, ch, hC⟩ := hC
  have haq : ¬ zcS o q ∧ ¬ zcS o (q + 1) := by unfold zcN at ha; unfold zcS; omega
  generalize hQ : (zRV (.int (nI 1)) (fun h1 => zFr (zcS o) h h1 ∧ zCS h1 o (zFcC F n))) = Q
  refine zG_mP (t := tX5_becomeFaces) (ls0 := [.ref o, .ref q, .int (nI i), .int (nI n), .null, .null, .null]) rfl rfl (zdnR (zdnR (zdnI (zdnI zdn0)))) rfl ?_
  refine zG_s rfl rfl ?_
  refine zN_st4 rfl (fun _ _ _ => rfl) rfl ?_
  have main3 : ∀ s, s ≤ 256 → ∀ (h1 : zH) (ct : Nat → Int32), zFr (zcS o) h h1 → zC0 h1 o ct pl bs ch → (∀ t, t < s → ct t = nI 0) → zGoP (d + 1) tX5_becomeFaces 3 [.ref o, .ref q, .int (nI i), .int (nI n), .int (nI s), .null, .null] [] h1 Q := by
    refine zdown (256) ?_ (fun s hp3 ih3 => ?_)
    · skip
      intro h1 ct hF hC hct
      refine zG_s rfl rfl ?_
      refine zG_s rfl rfl ?_
      refine zN_ige rfl (by omega) (by omega) (fun c1 => ?_) (fun c2 => absurd c2 (by omega))
      refine zG_s rfl rfl ?_
      refine zN_st4 rfl (fun _ _ _ => rfl) rfl ?_
      have main28 : ∀ j, j ≤ n → ∀ (h1 : zH) (ct : Nat → Int32) (x5 x6 : Value), zok1 [.ref o, .ref q, .int (nI i), .int (nI n), .int (nI j), x5, x6] 6 = true → zFr (zcS o) h h1 → zC0 h1 o ct pl bs ch → (∀ t, t < 256 → ct t = nI (zFcC F j t)) → zGoP (d + 1) tX5_becomeFaces 28 [.ref o, .ref q, .int (nI i), .int (nI n), .int (nI j), x5, x6] [] h1 Q := by
        refine zdown (n) ?_ (fun j hp28 ih28 => ?_)
        · skip
          intro h1 ct x5 x6 e6 hF hC hct
          refine zG_s rfl rfl ?_
          refine zG_s rfl rfl ?_
          refine zN_ige rfl (by omega) (by omega) (fun c3 => ?_) (fun c4 => absurd c4 (by omega))
          refine zG_s rfl rfl ?_
          -- leaf 1
          rw [← hQ]
          exact zG_ret rfl rfl ⟨rfl, hF, ct, pl, bs, ch, hC, hct⟩
        · skip
          intro h1 ct x5 x6 e6 hF hC hct
          obtain ⟨f1, f2, f3⟩ := hF9 j hp28
          refine zG_s rfl rfl ?_
          refine zG_s rfl rfl ?_
          refine zN_ige rfl (by omega) (by omega) (fun c5 => absurd c5 (by omega)) (fun c6 => ?_)
          refine zG_s rfl rfl ?_
          refine zN_get rfl (hF.eq haq.1 hS.1) rfl ?_
          refine zG_s rfl rfl ?_
          refine zG_s rfl rfl ?_
          refine zN_add rfl ?_
          refine zN_ald rfl (hF.eq haq.2 hS.2) (by omega) (by omega) f1 ?_
          refine zN_st5 rfl (fun _ _ _ => rfl) rfl ?_
          refine zG_s rfl rfl ?_
          refine zG_s rfl rfl ?_
          refine zN_ilt rfl (by omega) (by omega) (fun c => absurd c (by omega)) (fun c8 => ?_)
          refine zG_s rfl rfl ?_
          refine zG_s rfl rfl ?_
          refine zN_ile (y := 15) rfl (by omega) (by omega) (fun c9 => ?_) (fun c => absurd c (by omega))
          refine zG_s rfl rfl ?_
          refine zN_st6 rfl (fun _ _ _ => rfl) rfl ?_
          have main63 : ∀ s, s ≤ F j + 1 → ∀ (h1 : zH) (ct : Nat → Int32), 1 ≤ s → zFr (zcS o) h h1 → zC0 h1 o ct pl bs ch → (∀ t, t < 256 → ct t = nI (if t < s then zFcC F (j + 1) t else zFcC F j t)) → zGoP (d + 1) tX5_becomeFaces 63 [.ref o, .ref q, .int (nI i), .int (nI n), .int (nI j), .int (nI (F j)), .int (nI s)] [] h1 Q := by
            refine zdown (F j + 1) ?_ (fun s hp63 ih63 => ?_)
            · skip
              intro h1 ct hs1 hF hC hct
              have hx9 : ∀ t, t < 256 → F j < t → zFcC F (j + 1) t = zFcC F j t := fun t ht hlt => by
                unfold zFcC
                rw [zFc1_s, decide_eq_false (p := zan t (F j) = 0) (fun e => by have := zan_sub_le e; omega), Bool.and_false, Bool.or_false]
              refine zG_s rfl rfl ?_
              refine zG_s rfl rfl ?_
              refine zN_igt rfl (by omega) (by omega) (fun c11 => ?_) (fun c12 => absurd c12 (by omega))
              refine zN_inc4 rfl rfl ?_
              refine zG_s rfl rfl ?_
              -- leaf 2
              exact ih28 _ _ _ _ rfl hF hC (fun t ht => by
                rw [hct t ht]
                by_cases g : t < F j + 1
                · rw [if_pos g]
                · rw [if_neg g, hx9 t ht (by omega)])
            · skip
              intro h1 ct hs1 hF hC hct
              have b5 : zan s (F j) < 2 ^ 31 := zan_lt _ (by omega)
              refine zG_s rfl rfl ?_
              refine zG_s rfl rfl ?_
              refine zN_igt rfl (by omega) (by omega) (fun c13 => absurd c13 (by omega)) (fun c14 => ?_)
              refine zG_s rfl rfl ?_
              refine zG_s rfl rfl ?_
              refine zG_s rfl rfl ?_
              refine zN_not rfl ?_
              refine zN_andn rfl ?_
              first | refine zN_ifnb rfl (fun c15 => ?_) (fun c16 => ?_) | refine zN_ne0 rfl (by omega) (fun c15 => ?_) (fun c16 => ?_)
              · skip
                refine zN_inc6 rfl rfl ?_
                refine zG_s rfl rfl ?_
                -- leaf 3
                exact ih63 _ _ (by omega) hF hC (fun t ht => by
                  rw [hct t ht]
                  by_cases g : t < s
                  · rw [if_pos g, if_pos (by omega)]
                  · rw [if_neg g]
                    by_cases g2 : t = s
                    · subst g2
                      rw [if_pos (by omega), zFcC, zFcC, zFc1_s, decide_eq_false (p := zan t (F j) = 0) (by omega), Bool.and_false, Bool.or_false]
                    · rw [if_neg (by omega)])
              · skip
                refine zG_s rfl rfl ?_
                refine zN_get rfl hC.1 rfl ?_
                refine zG_s rfl rfl ?_
                refine zG_s rfl rfl ?_
                refine zG_cS1 rfl rfl (ct_bitCount (by omega)) ?_
                refine zN_ast rfl hC.2.1 (by omega) (by omega) (zble_of ho2) ?_
                refine zN_inc6 rfl rfl ?_
                refine zG_s rfl rfl ?_
                -- leaf 4
                exact ih63 _ _ (by omega) (hF.set (zcS_in (k := 1) (by omega))) hC.p_ct (fun t ht => by
                  by_cases g2 : t = s
                  · subst g2
                    rw [upd_at, if_pos (by omega), zFcC, zFc1_s, decide_eq_true c16, decide_eq_true hs1, Bool.and_true, Bool.or_true, if_pos rfl]
                  · rw [upd_ne _ _ g2, hct t ht]
                    by_cases g : t < s
                    · rw [if_pos g, if_pos (by omega)]
                    · rw [if_neg g, if_neg (by omega)])
          exact main63 1 (by omega) _ _ (by omega) hF hC (fun t ht => by
            rw [hct t ht]
            by_cases g : t < 1
            · have : t = 0 := by omega
              subst this; rfl
            · rw [if_neg g])
      exact main28 0 (by omega) _ _ _ _ rfl hF hC (fun t ht => by rw [hct t ht]; unfold zFcC zFc1; simp [zAl])
    · skip
      intro h1 ct hF hC hct
      refine zG_s rfl rfl ?_
      refine zG_s rfl rfl ?_
      refine zN_ige rfl (by omega) (by omega) (fun c17 => absurd c17 (by omega)) (fun c18 => ?_)
      refine zG_s rfl rfl ?_
      refine zN_get rfl hC.1 rfl ?_
      refine zG_s rfl rfl ?_
      refine zG_s rfl rfl ?_
      refine zN_ast rfl hC.2.1 (by omega) (by omega) (zble_of ho2) ?_
      refine zN_inc4 rfl rfl ?_
      refine zG_s rfl rfl ?_
      -- leaf 5
      exact ih3 _ _ (hF.set (zcS_in (k := 1) (by omega))) hC.p_ct (fun t g2 => by
        by_cases q : t = s
        · subst q; rw [upd_at]
        · rw [upd_ne _ _ q]; exact hct t (by omega))
  exact main3 0 (by omega) h ct zFr.rf hC (fun t g2 => absurd g2 (by omega))
