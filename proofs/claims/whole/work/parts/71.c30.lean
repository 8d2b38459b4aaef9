theorem co_draw {d : Nat} {h : zH} {s : zST} {a b c : Int32} (hI : zCI h s) (hW : zWT s) : zCallP (d + 3) 130 [.ref 2, .int a, .int b, .int c] h (zOut h (zo_draw s a b c)) := by
  have hF : zFr zcR h h := zFr.rf
  refine zG_mP (t := tX9_draw) (ls0 := [.ref 2, .int a, .int b, .int c, .null, .null, .null]) rfl rfl (zdnR (zdnI (zdnI (zdnI zdn0)))) rfl ?_
  refine zG_s rfl rfl ?_
  refine zG_cS1 rfl rfl ct_isSpace ?_
  refine zN_ifb rfl (fun c1 => ?_) (fun c2 => ?_)
  · skip
    refine zG_s rfl rfl ?_
    -- leaf 1
    exact zG_ret rfl rfl (zfin (by rw [zo_draw, zb_no c1]) hF hI)
  · skip
    obtain ⟨i, hi, rfl⟩ := zin_of c2 (by omega)
    refine zG_s rfl rfl ?_
    refine zG_cS1 rfl rfl ct_isSize ?_
    refine zN_ifb rfl (fun c3 => ?_) (fun c4 => ?_)
    · skip
      refine zG_s rfl rfl ?_
      -- leaf 2
      exact zG_ret rfl rfl (zfin (by rw [zo_draw, zb_i hi (by omega), zb_no c3]) hF hI)
    · skip
      obtain ⟨n, hn, rfl⟩ := zin_of c4 (by omega)
      refine zG_s rfl rfl ?_
      refine zN_if rfl (fun c5 => ?_) (fun c6 => ?_)
      · skip
        have c7 := zraw_lt0 (n := 101) c5
        refine zG_s rfl rfl ?_
        -- leaf 3
        exact zG_ret rfl rfl (zfin (by rw [zo_draw, zb_i hi (by omega), zb_i hn (by omega), zb_no c7]) hF hI)
      · skip
        refine zG_s rfl rfl ?_
        refine zG_s rfl rfl ?_
        refine zN_if2 rfl (fun c8 => ?_) (fun c9 => ?_)
        · skip
          have c10 := zraw_le (n := 100) (by decide) c6 c8
          obtain ⟨v, hv, rfl⟩ := zin_of c10 (by decide)
          refine zG_s rfl rfl ?_
          refine zN_get rfl hI.ob rfl ?_
          refine zG_s rfl rfl ?_
          refine zN_qa (tt := 0) rfl hI.as (by omega) (by omega) ?_
          refine zN_sta4 rfl (fun _ _ _ => rfl) rfl ?_
          refine zG_s rfl rfl ?_
          refine zG_s rfl rfl ?_
          refine zG_cQN rfl rfl (hI.sp i hi).1 rfl rfl (cs_scatter (by omega) (hI.sp i hi) (by omega)) (fun h1 hB => ?_)
          have hF := hF.tr (hB.1.mono (zcR_s (by omega) (by omega)))
          have hI : zCI h1 (zsZ (zsSp s i n zDisc) s.2.2.1.1) := hI.u_sp hi hB.2 hB.1
          have hP0 : zPre n ((s.2.2.1.1, zDisc) : Int32 × (Nat → Nat)).2 := zPre_disc (by omega)
          have hrs : zo_draw s (nI i) (nI n) (nI v) = (nI (zStr n (zDr2 v n (s.2.2.1.1, zDisc) n).2), zsZ (zsSp s i n (zDr2 v n (s.2.2.1.1, zDisc) n).2) (zDr2 v n (s.2.2.1.1, zDisc) n).1) := by rw [zo_draw, zb_i hi (by omega), zb_i hn (by omega), zb_i hv (by omega)]
          generalize hq0 : ((s.2.2.1.1, zDisc) : Int32 × (Nat → Nat)) = q0 at *
          have hI : zCI h1 (zsZ (zsSp s i n q0.2) q0.1) := by rw [← hq0]; exact hI
          refine zG_s rfl rfl ?_
          refine zN_st5 rfl (fun _ _ _ => rfl) rfl ?_
          have main43 : ∀ x, x ≤ n → ∀ (h1 : zH) (x6 : Value), zFr zcR h h1 → zCI h1 (zsZ (zsSp s i n (zDr2 v n q0 x).2) (zDr2 v n q0 x).1) → zGoP (d + 2) tX9_draw 43 [.ref 2, .int (nI i), .int (nI n), .int (nI v), .ref (68 + 6 * i), .int (nI x), x6] [] h1 (zOut h (zo_draw s (nI i) (nI n) (nI v))) := by
            refine zdown (n) ?_ (fun x hp43 ih43 => ?_)
            · skip
              intro h1 x6 hF hI
              have hP := zDr2_pre (v := v) (n := n) (q := q0) hP0 n
              refine zG_s rfl rfl ?_
              refine zG_s rfl rfl ?_
              refine zN_ige rfl (by omega) (by omega) (fun c11 => ?_) (fun c12 => absurd c12 (by omega))
              refine zG_s rfl rfl ?_
              refine zG_cV1 rfl rfl (hI.sp9 hi).1 rfl rfl (ct_strictPairs ⟨hI.sp9 hi, hP.ok⟩) ?_
              -- leaf 4
              exact zG_ret rfl rfl (zfin (by rw [hrs]; rfl) hF hI)
            · skip
              intro h1 x6 hF hI
              have hP := zDr2_pre (v := v) (n := n) (q := q0) hP0 x
              generalize hq1 : zDr2 v n q0 x = q1 at *
              refine zG_s rfl rfl ?_
              refine zG_s rfl rfl ?_
              refine zN_ige rfl (by omega) (by omega) (fun c13 => absurd c13 (by omega)) (fun c14 => ?_)
              refine zG_s rfl rfl ?_
              refine zN_st6 rfl (fun _ _ _ => rfl) rfl ?_
              have main52 : ∀ y, y ≤ n → ∀ h1 : zH, zFr zcR h h1 → zCI h1 (zsZ (zsSp s i n (zDr1 v x y q1).2) (zDr1 v x y q1).1) → zGoP (d + 2) tX9_draw 52 [.ref 2, .int (nI i), .int (nI n), .int (nI v), .ref (68 + 6 * i), .int (nI x), .int (nI y)] [] h1 (zOut h (zo_draw s (nI i) (nI n) (nI v))) := by
                refine zdown (n) ?_ (fun y hp52 ih52 => ?_)
                · skip
                  intro h1 hF hI
                  refine zG_s rfl rfl ?_
                  refine zG_s rfl rfl ?_
                  refine zN_ige rfl (by omega) (by omega) (fun c15 => ?_) (fun c16 => absurd c16 (by omega))
                  refine zN_inc5 rfl rfl ?_
                  refine zG_s rfl rfl ?_
                  -- leaf 5
                  exact ih43 _ _ hF (by rw [zDr2, hq1]; exact hI)
                · skip
                  intro h1 hF hI
                  have hP := zDr1_pre (v := v) (x := x) hP y (by omega)
                  have ht9 := ztop_lt (zNxt (zDr1 v x y q1).1)
                  refine zG_s rfl rfl ?_
                  refine zG_s rfl rfl ?_
                  refine zN_ige rfl (by omega) (by omega) (fun c17 => absurd c17 (by omega)) (fun c18 => ?_)
                  refine zG_s rfl rfl ?_
                  refine zG_s rfl rfl ?_
                  refine zN_ieq rfl (by omega) (by omega) (fun c19 => ?_) (fun c20 => ?_)
                  · skip
                    refine zN_inc6 rfl rfl ?_
                    refine zG_s rfl rfl ?_
                    -- leaf 6
                    have e : zDr1 v x (y + 1) q1 = zDr1 v x y q1 := if_pos c19
                    rw [e] at ih52
                    exact ih52 _ hF hI
                  · skip
                    refine zG_s rfl rfl ?_
                    refine zG_cQV rfl rfl hI.ob rfl rfl (ct_drawn hI) (fun h2 hB => ?_)
                    have hF := hF.tr (hB.1.mono (fun j hj => by subst hj; unfold zcR; omega))
                    have hI : zCI h2 (zsZ (zsSp s i n (zDr1 v x y q1).2) (zNxt (zDr1 v x y q1).1)) := hB.2
                    show zGoP _ _ _ _ [.int (nI (zTop16 (zNxt (zDr1 v x y q1).1)))] _ _
                    refine zG_s rfl rfl ?_
                    refine zN_rem (y := 100) rfl (by omega) (by omega) (by omega) ?_
                    refine zG_s rfl rfl ?_
                    refine zN_ige rfl (by omega) (by omega) (fun c21 => ?_) (fun c22 => ?_)
                    · skip
                      refine zN_inc6 rfl rfl ?_
                      refine zG_s rfl rfl ?_
                      -- leaf 7
                      have e : zDr1 v x (y + 1) q1 = (zNxt (zDr1 v x y q1).1, (zDr1 v x y q1).2) := by rw [zDr1, if_neg c20, if_neg (by omega)]
                      rw [e] at ih52
                      exact ih52 _ hF hI
                    · skip
                      refine zG_s rfl rfl ?_
                      refine zG_s rfl rfl ?_
                      refine zG_s rfl rfl ?_
                      refine zG_cQV rfl rfl (hI.sp9 hi).1 rfl rfl (cs_enclose (by omega) (hI.sp9 hi) hP hp43 hp52) (fun h3 hB => ?_)
                      have hF := hF.tr (hB.1.mono (zcR_s (o := 68 + 6 * i) (by omega) (by omega)))
                      have hI := hI.u_sp hi hB.2 hB.1
                      rw [zsSp2] at hI
                      refine zG_s rfl rfl ?_
                      refine zN_inc6 rfl rfl ?_
                      refine zG_s rfl rfl ?_
                      -- leaf 8
                      have e : zDr1 v x (y + 1) q1 = (zNxt (zDr1 v x y q1).1, zNst (zDr1 v x y q1).2 x y) := by rw [zDr1, if_neg c20, if_pos c22]
                      rw [e] at ih52
                      exact ih52 _ hF hI
              exact main52 0 (by omega) _ hF hI
          exact main43 0 (by omega) _ _ hF hI
        · skip
          have c23 := zraw_nle (n := 100) (by decide) c9
          refine zG_s rfl rfl ?_
          -- leaf 9
          exact zG_ret rfl rfl (zfin (by rw [zo_draw, zb_i hi (by omega), zb_i hn (by omega), zb_no c23]) hF hI)
theorem co_sheetA {d : Nat} {h : zH} {s : zST} {a c : Int32} (hI : zCI h s) (hW : zWT s) : zCallP (d + 2) 131 [.ref 2, .int a, .int (-1), .int c] h (zOut h (zo_sheet s a (-1) c)) := by
  have hF : zFr zcR h h := zFr.rf
  refine zG_mP (t := tX9_sheet) (ls0 := [.ref 2, .int a, .int (-1), .int c]) rfl rfl (zdnR (zdnI (zdnI (zdnI zdn0)))) rfl ?_
  refine zG_s rfl rfl ?_
  refine zG_cS1 rfl rfl ct_isSheet ?_
  refine zN_ifb rfl (fun c1 => ?_) (fun c2 => ?_)
  · skip
    refine zG_s rfl rfl ?_
    -- leaf 1
    exact zG_ret rfl rfl (zfin (by rw [zo_sheet, zb_no c1]) hF hI)
  · skip
    obtain ⟨i, hi, rfl⟩ := zin_of c2 (by omega)
    obtain ⟨f, hS, hf⟩ := hI.sh i hi
    refine zG_s rfl rfl ?_
    refine zG_s rfl rfl ?_
    refine zN_if2 rfl (fun q => absurd q (by decide)) (fun c4 => ?_)
    refine zG_s rfl rfl ?_
    refine zG_s rfl rfl ?_
    refine zN_if2 rfl (fun c5 => ?_) (fun q => absurd q (by decide))
    refine zG_s rfl rfl ?_
    refine zG_s rfl rfl ?_
    refine zN_if2 rfl (fun q => absurd q (by decide)) (fun c8 => ?_)
    refine zG_s rfl rfl ?_
    refine zN_get rfl hI.ob rfl ?_
    refine zG_s rfl rfl ?_
    refine zN_qa (tt := 1) rfl hI.ah (by omega) (by omega) ?_
    refine zG_s rfl rfl ?_
    refine zN_put (fs' := [.int (zbv 0), .int (nI (s.2.2.2.2.1 i).2.1), .ref (104 + 2 * i + 1)]) rfl hS.1 rfl rfl rfl ?_
    have hFr : zFr (fun j => j = 104 + 2 * i) h (zset h (104 + 2 * i) (.inr (6, [.int (zbv 0), .int (nI (s.2.2.2.2.1 i).2.1), .ref (104 + 2 * i + 1)]))) := zFr.rf.set rfl
    have hFq := hFr.mono (S' := zaS (104 + 2 * i)) (fun j hj => by subst hj; exact ⟨by omega, by omega⟩)
    have hI := hI.u_sh (st := 0) hi ⟨zset_eq _ _ _, hFr.eq (by omega) hS.2⟩ hf hFq
    have hF := hF.tr (hFq.mono (zcR_a (by omega) (by omega)))
    refine zG_s rfl rfl ?_
    -- leaf 2
    exact zG_ret rfl rfl (zfin (by rw [zo_sheet, zb_i hi (by omega), if_pos rfl]; first | done | rfl) hF hI)
theorem co_sheetB {d : Nat} {h : zH} {s : zST} {a c : Int32} {st : Nat} (hI : zCI h s) (hW : zWT s) (hst : st < 3) : zCallP (d + 2) 131 [.ref 2, .int a, .int (nI st), .int c] h (zOut h (zo_sheet s a (nI st) c)) := by
  have hF : zFr zcR h h := zFr.rf
  refine zG_mP (t := tX9_sheet) (ls0 := [.ref 2, .int a, .int (nI st), .int c]) rfl rfl (zdnR (zdnI (zdnI (zdnI zdn0)))) rfl ?_
  refine zG_s rfl rfl ?_
  refine zG_cS1 rfl rfl ct_isSheet ?_
  refine zN_ifb rfl (fun c1 => ?_) (fun c2 => ?_)
  · skip
    refine zG_s rfl rfl ?_
    -- leaf 1
    exact zG_ret rfl rfl (zfin (by rw [zo_sheet, zb_no c1]) hF hI)
  · skip
    obtain ⟨i, hi, rfl⟩ := zin_of c2 (by omega)
    obtain ⟨f, hS, hf⟩ := hI.sh i hi
    refine zG_s rfl rfl ?_
    refine zG_s rfl rfl ?_
    refine zN_if2 rfl (fun q => absurd ((zs_lt q).2 3) (by rw [zin_n hst (by decide)]; simp)) (fun c4 => ?_)
    refine zG_s rfl rfl ?_
    refine zG_s rfl rfl ?_
    refine zN_ile (y := 2) rfl (by omega) (by omega) (fun c5 => ?_) (fun q => absurd q (by omega))
    refine zG_s rfl rfl ?_
    refine zG_s rfl rfl ?_
    refine zN_if2 rfl (fun c7 => ?_) (fun q => absurd (Decidable.not_not.mp (of_decide_eq_false q)) (znm1 (by omega)))
    refine zG_s rfl rfl ?_
    refine zG_s rfl rfl ?_
    refine zN_if2 rfl (fun c9 => ?_) (fun c10 => ?_)
    · skip
      refine zG_s rfl rfl ?_
      refine zN_if rfl (fun c11 => ?_) (fun c12 => ?_)
      · skip
        obtain ⟨m, hm, em⟩ := zc40 c9 c11
        subst em
        refine zG_s rfl rfl ?_
        refine zN_get rfl hI.ob rfl ?_
        refine zG_s rfl rfl ?_
        refine zN_qa (tt := 1) rfl hI.ah (by omega) (by omega) ?_
        refine zG_s rfl rfl ?_
        refine zG_s rfl rfl ?_
        refine zG_cQN rfl rfl hS.1 rfl rfl (ct_renew (by omega) hS hm) (fun h1 hB => ?_)
        have hI := hI.u_sh hi hB.2 (f9 := fun _ => nI 0) (fun j hj => zcut_lt hj) hB.1
        have hF := hF.tr (hB.1.mono (zcR_a (by omega) (by omega)))
        refine zG_s rfl rfl ?_
        -- leaf 2
        exact zG_ret rfl rfl (zfin (by rw [zo_sheet, zb_i hi (by omega), if_neg (znm1 (by omega)), zb_i hst (by decide), if_neg (zle_lt c9), if_neg (zge_lt c11), nI_cl (by omega)]; first | done | rfl) hF hI)
      · skip
        refine zG_s rfl rfl ?_
        -- leaf 3
        exact zG_ret rfl rfl (zfin (by rw [zo_sheet, zb_i hi (by omega), if_neg (znm1 (by omega)), zb_i hst (by decide), if_neg (zle_lt c9), if_pos (znge_lt c12)]; first | done | rfl) hF hI)
    · skip
      refine zG_s rfl rfl ?_
      -- leaf 4
      exact zG_ret rfl rfl (zfin (by rw [zo_sheet, zb_i hi (by omega), if_neg (znm1 (by omega)), zb_i hst (by decide), if_pos (znle_lt c10)]; first | done | rfl) hF hI)
theorem co_sheetC {d : Nat} {h : zH} {s : zST} {a b c : Int32} (hI : zCI h s) (hW : zWT s) (hb : b ≠ -1) (hb2 : zin b 3 = false) : zCallP (d + 2) 131 [.ref 2, .int a, .int b, .int c] h (zOut h (zo_sheet s a b c)) := by
  have hF : zFr zcR h h := zFr.rf
  refine zG_mP (t := tX9_sheet) (ls0 := [.ref 2, .int a, .int b, .int c]) rfl rfl (zdnR (zdnI (zdnI (zdnI zdn0)))) rfl ?_
  refine zG_s rfl rfl ?_
  refine zG_cS1 rfl rfl ct_isSheet ?_
  refine zN_ifb rfl (fun c1 => ?_) (fun c2 => ?_)
  · skip
    refine zG_s rfl rfl ?_
    -- leaf 1
    exact zG_ret rfl rfl (zfin (by rw [zo_sheet, zb_no c1]) hF hI)
  · skip
    obtain ⟨i, hi, rfl⟩ := zin_of c2 (by omega)
    refine zG_s rfl rfl ?_
    refine zG_s rfl rfl ?_
    refine zN_if2 rfl (fun c3 => ?_) (fun c4 => ?_)
    · skip
      refine zG_s rfl rfl ?_
      -- leaf 2
      exact zG_ret rfl rfl (zfin (by rw [zo_sheet, zb_i hi (by omega), if_neg hb, zb_no hb2]) hF hI)
    · skip
      refine zG_s rfl rfl ?_
      refine zG_s rfl rfl ?_
      refine zN_if2 rfl (fun q => by rcases zsort3 c4 q with g | g; exact absurd g hb; rw [hb2] at g; cases g) (fun c6 => ?_)
      refine zG_s rfl rfl ?_
      -- leaf 3
      exact zG_ret rfl rfl (zfin (by rw [zo_sheet, zb_i hi (by omega), if_neg hb, zb_no hb2]) hF hI)
theorem co_sheet {d : Nat} {h : zH} {s : zST} {a b c : Int32} (hI : zCI h s) (hW : zWT s) : zCallP (d + 2) 131 [.ref 2, .int a, .int b, .int c] h (zOut h (zo_sheet s a b c)) := by
  by_cases e : b = -1
  · subst e; exact co_sheetA hI hW
  · cases q : zin b 3 with
    | false => exact co_sheetC hI hW e q
    | true =>
      obtain ⟨st, hst, rfl⟩ := zin_of q (by decide)
      exact co_sheetB hI hW hst
theorem co_put {d : Nat} {h : zH} {s : zST} {a b c : Int32} (hI : zCI h s) (hW : zWT s) : zCallP (d + 2) 132 [.ref 2, .int a, .int b, .int c] h (zOut h (zo_put s a b c)) := by
  have hF : zFr zcR h h := zFr.rf
  refine zG_mP (t := tX9_put) (ls0 := [.ref 2, .int a, .int b, .int c, .null]) rfl rfl (zdnR (zdnI (zdnI (zdnI zdn0)))) rfl ?_
  refine zG_s rfl rfl ?_
  refine zG_cS1 rfl rfl ct_isSheet ?_
  refine zN_ifnb rfl (fun c1 => ?_) (fun c2 => ?_)
  · skip
    obtain ⟨i, hi, rfl⟩ := zin_of c1 (by omega)
    obtain ⟨f, hS, hf⟩ := hI.sh i hi
    obtain ⟨hst, hln⟩ := hW.2.2.2.1 i hi
    refine zG_s rfl rfl ?_
    refine zN_get rfl hI.ob rfl ?_
    refine zG_s rfl rfl ?_
    refine zN_qa (tt := 1) rfl hI.ah (by omega) (by omega) ?_
    refine zN_sta4 rfl (fun _ _ _ => rfl) rfl ?_
    refine zG_s rfl rfl ?_
    refine zN_get rfl hS.1 rfl ?_
    refine zG_s rfl rfl ?_
    refine zN_sne1 rfl (by omega) (fun c3 => ?_) (fun c4 => ?_)
    · skip
      refine zG_s rfl rfl ?_
      refine zG_s rfl rfl ?_
      refine zG_s rfl rfl ?_
      refine zG_cV1 rfl rfl hS.1 rfl rfl (ct_isOutside hS.1 hln) ?_
      first | refine zN_ifb rfl (fun c5 => ?_) (fun c6 => ?_) | refine zN_eq0 rfl (by omega) (fun c5 => ?_) (fun c6 => ?_)
      · skip
        have hin : zInr (s.2.2.2.2.1 i).2.1 b (nI 1) = true := by simpa using c5
        obtain ⟨p, hp, ep⟩ := zInr_p hln hin (by omega)
        subst ep
        refine zG_s rfl rfl ?_
        refine zG_s rfl rfl ?_
        refine zG_s rfl rfl ?_
        refine zG_cQN rfl rfl hS.1 rfl rfl (ct_set (by omega) hS hst (by omega)) (fun h1 hB => ?_)
        have hI := hI.u_sh hi hB.2 (f9 := upd (s.2.2.2.2.1 i).2.2 p (zNar (s.2.2.2.2.1 i).1 c)) (fun j hj => by
          by_cases e : j = p
          · subst e; rw [upd_at, upd_at]
          · rw [upd_ne _ _ e, upd_ne _ _ e]; exact hf j hj) hB.1
        have hF := hF.tr (hB.1.mono (zcR_a (by omega) (by omega)))
        refine zG_s rfl rfl ?_
        -- leaf 1
        exact zG_ret rfl rfl (zfin (by rw [zo_put, zb_i hi (by omega), if_neg c3, if_neg (by rw [hin]; simp), nI_cl (by omega)]; first | done | rfl) hF hI)
      · skip
        refine zG_s rfl rfl ?_
        -- leaf 2
        have hin : zInr (s.2.2.2.2.1 i).2.1 b (nI 1) = false := by simpa using c6
        exact zG_ret rfl rfl (zfin (by rw [zo_put, zb_i hi (by omega), if_neg c3, if_pos hin]; first | done | rfl) hF hI)
    · skip
      refine zG_s rfl rfl ?_
      -- leaf 3
      exact zG_ret rfl rfl (zfin (by rw [zo_put, zb_i hi (by omega), if_pos c4]; first | done | rfl) hF hI)
  · skip
    refine zG_s rfl rfl ?_
    -- leaf 4
    exact zG_ret rfl rfl (zfin (by rw [zo_put, zb_no c2]) hF hI)
theorem co_item {d : Nat} {h : zH} {s : zST} {a b c : Int32} (hI : zCI h s) (hW : zWT s) : zCallP (d + 2) 133 [.ref 2, .int a, .int b, .int c] h (zOut h (zo_item s a b c)) := by
  have hF : zFr zcR h h := zFr.rf
  refine zG_mP (t := tX9_item) (ls0 := [.ref 2, .int a, .int b, .int c, .null]) rfl rfl (zdnR (zdnI (zdnI (zdnI zdn0)))) rfl ?_
  refine zG_s rfl rfl ?_
  refine zG_cS1 rfl rfl ct_isSheet ?_
  refine zN_ifb rfl (fun c1 => ?_) (fun c2 => ?_)
  · skip
    refine zG_s rfl rfl ?_
    -- leaf 1
    exact zG_ret rfl rfl (zfin (by rw [zo_item, zb_no c1]) hF hI)
  · skip
    obtain ⟨i, hi, rfl⟩ := zin_of c2 (by omega)
    obtain ⟨f, hS, hf⟩ := hI.sh i hi
    obtain ⟨hst9, hln⟩ := hW.2.2.2.1 i hi
    refine zG_s rfl rfl ?_
    refine zN_if rfl (fun c3 => ?_) (fun c4 => ?_)
    · skip
      have c5 := zraw_lt0 (n := 3) c3
      refine zG_s rfl rfl ?_
      -- leaf 2
      exact zG_ret rfl rfl (zfin (by rw [zo_item, zb_i hi (by omega), zb_no c5]) hF hI)
    · skip
      refine zG_s rfl rfl ?_
      refine zG_s rfl rfl ?_
      refine zN_if2 rfl (fun c6 => ?_) (fun c7 => ?_)
      · skip
        have c8 := zraw_le (n := 2) (by decide) c4 c6
        obtain ⟨st, hst, rfl⟩ := zin_of c8 (by decide)
        refine zG_s rfl rfl ?_
        refine zN_get rfl hI.ob rfl ?_
        refine zG_s rfl rfl ?_
        refine zN_qa (tt := 1) rfl hI.ah (by omega) (by omega) ?_
        refine zN_sta4 rfl (fun _ _ _ => rfl) rfl ?_
        refine zG_s rfl rfl ?_
        refine zN_get rfl hS.1 rfl ?_
        refine zG_s rfl rfl ?_
        refine zN_sne1 rfl (by omega) (fun c9 => ?_) (fun c10 => ?_)
        · skip
          refine zG_s rfl rfl ?_
          refine zN_get rfl hS.1 rfl ?_
          refine zG_s rfl rfl ?_
          refine zN_seqk rfl (by omega) (by omega) (fun c11 => ?_) (fun c12 => ?_)
          · skip
            refine zG_s rfl rfl ?_
            refine zG_s rfl rfl ?_
            refine zG_s rfl rfl ?_
            refine zG_cV1 rfl rfl hS.1 rfl rfl (ct_isOutside hS.1 hln) ?_
            first | refine zN_ifb rfl (fun c13 => ?_) (fun c14 => ?_) | refine zN_eq0 rfl (by omega) (fun c13 => ?_) (fun c14 => ?_)
            · skip
              have hin : zInr (s.2.2.2.2.1 i).2.1 c (nI 1) = true := by simpa using c13
              obtain ⟨p, hp, ep⟩ := zInr_p hln hin (by omega)
              subst ep
              refine zG_s rfl rfl ?_
              refine zN_get rfl hS.1 rfl ?_
              refine zG_s rfl rfl ?_
              refine zN_ald rfl hS.2 (by omega) (by omega) (hf p (by omega)) ?_
              -- leaf 3
              exact zG_ret rfl rfl (zfin (by rw [zo_item, zb_i hi (by omega), zb_i hst (by omega), if_neg c9, if_neg (fun q => q c11), if_neg (by rw [hin]; simp), nI_cl (by omega)]; first | done | rfl) hF hI)
            · skip
              refine zG_s rfl rfl ?_
              -- leaf 4
              have hin : zInr (s.2.2.2.2.1 i).2.1 c (nI 1) = false := by simpa using c14
              exact zG_ret rfl rfl (zfin (by rw [zo_item, zb_i hi (by omega), zb_i hst (by omega), if_neg c9, if_neg (fun q => q c11), if_pos hin]; first | done | rfl) hF hI)
          · skip
            refine zG_s rfl rfl ?_
            -- leaf 5
            exact zG_ret rfl rfl (zfin (by rw [zo_item, zb_i hi (by omega), zb_i hst (by omega), if_neg c9, if_pos c12]; first | done | rfl) hF hI)
        · skip
          refine zG_s rfl rfl ?_
          -- leaf 6
          exact zG_ret rfl rfl (zfin (by rw [zo_item, zb_i hi (by omega), zb_i hst (by omega), if_pos c10]; first | done | rfl) hF hI)
      · skip
        have c15 := zraw_nle (n := 2) (by decide) c7
        refine zG_s rfl rfl ?_
        -- leaf 7
        exact zG_ret rfl rfl (zfin (by rw [zo_item, zb_i hi (by omega), zb_no c15]) hF hI)
theorem co_copy {d : Nat} {h : zH} {s : zST} {a b c e g : Int32} (hI : zCI h s) (hW : zWT s) : zCallP (d + 2) 134 [.ref 2, .int a, .int b, .int c, .int e, .int g] h (zOut h (zo_copy s a b c e g)) := by
  have hF : zFr zcR h h := zFr.rf
  refine zG_mP (t := tX9_copy) (ls0 := [.ref 2, .int a, .int b, .int c, .int e, .int g, .null, .null]) rfl rfl (zdnR (zdnI (zdnI (zdnI (zdnI (zdnI zdn0)))))) rfl ?_
  refine zG_s rfl rfl ?_
  refine zG_cS1 rfl rfl ct_isSheet ?_
  refine zN_ifb rfl (fun c1 => ?_) (fun c2 => ?_)
  · skip
    refine zG_s rfl rfl ?_
    -- leaf 1
    exact zG_ret rfl rfl (zfin (by rw [zo_copy, zb_no c1]) hF hI)
  · skip
    obtain ⟨i, hi, rfl⟩ := zin_of c2 (by omega)
    refine zG_s rfl rfl ?_
    refine zG_cS1 rfl rfl ct_isSheet ?_
    refine zN_ifnb rfl (fun c3 => ?_) (fun c4 => ?_)
    · skip
      obtain ⟨k, hk, rfl⟩ := zin_of c3 (by omega)
      obtain ⟨f, hS, hf⟩ := hI.sh i hi
      obtain ⟨hst, hln⟩ := hW.2.2.2.1 i hi
      obtain ⟨f2, hS2, hf2⟩ := hI.sh k hk
      obtain ⟨hst2, hln2⟩ := hW.2.2.2.1 k hk
      refine zG_s rfl rfl ?_
      refine zN_get rfl hI.ob rfl ?_
      refine zG_s rfl rfl ?_
      refine zN_qa (tt := 1) rfl hI.ah (by omega) (by omega) ?_
      refine zN_sta6 rfl (fun _ _ _ => rfl) rfl ?_
      refine zG_s rfl rfl ?_
      refine zN_get rfl hI.ob rfl ?_
      refine zG_s rfl rfl ?_
      refine zN_qa (tt := 1) rfl hI.ah (by omega) (by omega) ?_
      refine zN_sta7 rfl (fun _ _ _ => rfl) rfl ?_
      refine zG_s rfl rfl ?_
      refine zN_get rfl hS.1 rfl ?_
      refine zG_s rfl rfl ?_
      refine zN_seq1 rfl (by omega) (fun c5 => ?_) (fun c6 => ?_)
      · skip
        refine zG_s rfl rfl ?_
        -- leaf 2
        exact zG_ret rfl rfl (zfin (by rw [zo_copy, zb_i hi (by omega), zb_i hk (by omega), if_pos (Or.inl c5)]; first | done | rfl) hF hI)
      · skip
        refine zG_s rfl rfl ?_
        refine zN_get rfl hS2.1 rfl ?_
        refine zG_s rfl rfl ?_
        refine zN_sne1 rfl (by omega) (fun c7 => ?_) (fun c8 => ?_)
        · skip
          refine zG_s rfl rfl ?_
          refine zN_get rfl hS.1 rfl ?_
          refine zG_s rfl rfl ?_
          refine zN_get rfl hS2.1 rfl ?_
          refine zN_seqs rfl (by omega) (by omega) (fun c9 => ?_) (fun c10 => ?_)
          · skip
            refine zG_s rfl rfl ?_
            refine zG_s rfl rfl ?_
            refine zG_s rfl rfl ?_
            refine zG_cV1 rfl rfl hS.1 rfl rfl (ct_isOutside hS.1 hln) ?_
            first | refine zN_ifnb rfl (fun c11 => ?_) (fun c12 => ?_) | refine zN_ne0 rfl (by omega) (fun c11 => ?_) (fun c12 => ?_)
            · skip
              refine zG_s rfl rfl ?_
              -- leaf 3
              have hin : zInr (s.2.2.2.2.1 i).2.1 b g = false := by simpa using c11
              exact zG_ret rfl rfl (zfin (by rw [zo_copy, zb_i hi (by omega), zb_i hk (by omega), if_neg (by rintro (q | q); exact c6 q; exact c7 q), if_neg (fun q => q c9), if_pos (Or.inl hin)]; first | done | rfl) hF hI)
            · skip
              refine zG_s rfl rfl ?_
              refine zG_s rfl rfl ?_
              refine zG_s rfl rfl ?_
              refine zG_cV1 rfl rfl hS2.1 rfl rfl (ct_isOutside hS2.1 hln2) ?_
              first | refine zN_ifb rfl (fun c13 => ?_) (fun c14 => ?_) | refine zN_eq0 rfl (by omega) (fun c13 => ?_) (fun c14 => ?_)
              · skip
                have hin1 : zInr (s.2.2.2.2.1 i).2.1 b g = true := by simpa using c12
                have hin2 : zInr (s.2.2.2.2.1 k).2.1 e g = true := by simpa using c13
                obtain ⟨p, m, hpm, ep, em⟩ := zInr_q hln hin1
                obtain ⟨p2, m2, hpm2, ep2, em2⟩ := zInr_q hln2 hin2
                subst ep em ep2
                have hmm : m = m2 := (nI_inj (by omega) (by omega)).mp em2
                subst hmm
                refine zG_s rfl rfl ?_
                refine zN_get rfl hS.1 rfl ?_
                refine zG_s rfl rfl ?_
                refine zG_s rfl rfl ?_
                refine zN_get rfl hS2.1 rfl ?_
                refine zG_s rfl rfl ?_
                refine zG_s rfl rfl ?_
                refine zN_cpy rfl hS.2 hS2.2 (by omega) (by omega) (by decide) (by decide) (by omega) (by omega) rfl ?_
                refine zG_s rfl rfl ?_
                -- leaf 4
                have hFq := (zFr.rf (h := h) (S := zaS (104 + 2 * k))).set (k := 104 + 2 * k + 1) (c := .inl (0, 40, .inl (va_cpy f f2 p p2 m))) ⟨by omega, by omega⟩
                have hI := hI.u_sh (st := (s.2.2.2.2.1 k).1) (ln := (s.2.2.2.2.1 k).2.1) (f9 := va_cpy (s.2.2.2.2.1 i).2.2 (s.2.2.2.2.1 k).2.2 p p2 m) hk ⟨by rw [zset_ne _ _ (by omega)]; exact hS2.1, zset_eq _ _ _⟩ (fun j hj => zcpy_cg (fun q h1 h2 => hf _ (by omega)) (hf2 j hj)) hFq
                have hF := hF.tr (hFq.mono (zcR_a (by omega) (by omega)))
                exact zG_ret rfl rfl (zfin (by rw [zo_copy, zb_i hi (by omega), zb_i hk (by omega), if_neg (by rintro (q | q); exact c6 q; exact c7 q), if_neg (fun q => q c9), if_neg (by rw [hin1, hin2]; simp), nI_cl (by omega), nI_cl (by omega), nI_cl (by omega)]; first | done | rfl) hF hI)
              · skip
                refine zG_s rfl rfl ?_
                -- leaf 5
                have hin : zInr (s.2.2.2.2.1 k).2.1 e g = false := by simpa using c14
                exact zG_ret rfl rfl (zfin (by rw [zo_copy, zb_i hi (by omega), zb_i hk (by omega), if_neg (by rintro (q | q); exact c6 q; exact c7 q), if_neg (fun q => q c9), if_pos (Or.inr hin)]; first | done | rfl) hF hI)
          · skip
            refine zG_s rfl rfl ?_
            -- leaf 6
            exact zG_ret rfl rfl (zfin (by rw [zo_copy, zb_i hi (by omega), zb_i hk (by omega), if_neg (by rintro (q | q); exact c6 q; exact c7 q), if_pos c10]; first | done | rfl) hF hI)
        · skip
          refine zG_s rfl rfl ?_
          -- leaf 7
          exact zG_ret rfl rfl (zfin (by rw [zo_copy, zb_i hi (by omega), zb_i hk (by omega), if_pos (Or.inr c8)]; first | done | rfl) hF hI)
    · skip
      refine zG_s rfl rfl ?_
      -- leaf 8
      exact zG_ret rfl rfl (zfin (by rw [zo_copy, zb_i hi (by omega), zb_no c4]) hF hI)
theorem ct_refusal {d : Nat} {h : zH} {o st ln n : Nat} {i : Int32} {f : Nat → Int32} (hS : zSh h o st ln f) (hst : st ≤ 3) (hl : ln ≤ 40) : zCall (d + 2) 160 [.ref o, .int i, .int (nI n)] h (some (.int ((zRfs st ln i n).getD (nI 0))), h) := by
  refine zG_m (t := tX9_setRowRefusal) (ls0 := [.ref o, .int i, .int (nI n)]) rfl rfl (zdnR (zdnI (zdnI zdn0))) rfl ?_
  refine zG_s rfl rfl ?_
  refine zN_get rfl hS.1 rfl ?_
  refine zG_s rfl rfl ?_
  refine zN_sne1 rfl (by omega) (fun c1 => ?_) (fun c2 => ?_)
  · skip
    refine zG_s rfl rfl ?_
    refine zN_get rfl hS.1 rfl ?_
    refine zG_s rfl rfl ?_
    refine zN_snek (k := 2) rfl (by omega) (by omega) (fun c3 => ?_) (fun c4 => ?_)
    · skip
      refine zG_s rfl rfl ?_
      refine zG_s rfl rfl ?_
      refine zG_s rfl rfl ?_
      refine zG_cV1 rfl rfl hS.1 rfl rfl (ct_isOutside hS.1 hl) ?_
      first | refine zN_ifb rfl (fun c5 => ?_) (fun c6 => ?_) | refine zN_eq0 rfl (by omega) (fun c5 => ?_) (fun c6 => ?_)
      · skip
        refine zG_s rfl rfl ?_
        -- leaf 1
        have e9 : zRfs st ln i n = none := by rw [zRfs, if_neg c1, if_neg c3, if_neg (by simpa using c5)]
        exact zG_ret rfl rfl (by rw [e9]; rfl)
      · skip
        refine zG_s rfl rfl ?_
        refine zG_s rfl rfl ?_
        -- leaf 2
        have e9 : zRfs st ln i n = some (-12) := by rw [zRfs, if_neg c1, if_neg c3, if_pos (by simpa using c6)]
        exact zG_ret rfl rfl (by rw [e9]; rfl)
    · skip
      refine zG_s rfl rfl ?_
      -- leaf 3
      have e9 : zRfs st ln i n = some (-13) := by rw [zRfs, if_neg c1, if_pos c4]
      exact zG_ret rfl rfl (by rw [e9]; rfl)
  · skip
    refine zG_s rfl rfl ?_
    -- leaf 4
    have e9 : zRfs st ln i n = some (-11) := by rw [zRfs, if_pos c2]
    exact zG_ret rfl rfl (by rw [e9]; rfl)
theorem co_lay {d : Nat} {h : zH} {s : zST} {a b c : Int32} (hI : zCI h s) (hW : zWT s) : zCallP (d + 3) 135 [.ref 2, .int a, .int b, .int c] h (zOut h (zo_lay s a b c)) := by
  have hF : zFr zcR h h := zFr.rf
  refine zG_mP (t := tX9_lay) (ls0 := [.ref 2, .int a, .int b, .int c, .null, .null, .null]) rfl rfl (zdnR (zdnI (zdnI (zdnI zdn0)))) rfl ?_
  refine zG_s rfl rfl ?_
  refine zG_cS1 rfl rfl ct_isSpace ?_
  refine zN_ifb rfl (fun c1 => ?_) (fun c2 => ?_)
  · skip
    refine zG_s rfl rfl ?_
    -- leaf 1
    exact zG_ret rfl rfl (zfin (by rw [zo_lay, zb_no c1]) hF hI)
  · skip
    obtain ⟨i, hi, rfl⟩ := zin_of c2 (by omega)
    refine zG_s rfl rfl ?_
    refine zG_cS1 rfl rfl ct_isSheet ?_
    refine zN_ifnb rfl (fun c3 => ?_) (fun c4 => ?_)
    · skip
      obtain ⟨k, hk, rfl⟩ := zin_of c3 (by omega)
      have hP := hW.1 i hi
      have hn := hP.1
      obtain ⟨f, hS, hf⟩ := hI.sh k hk
      obtain ⟨hst, hln⟩ := hW.2.2.2.1 k hk
      obtain ⟨s1, sl, sh9, s2, s3, sv⟩ := hI.sp i hi
      refine zG_s rfl rfl ?_
      refine zN_get rfl hI.ob rfl ?_
      refine zG_s rfl rfl ?_
      refine zN_qa (tt := 0) rfl hI.as (by omega) (by omega) ?_
      refine zN_sta4 rfl (fun _ _ _ => rfl) rfl ?_
      refine zG_s rfl rfl ?_
      refine zN_get rfl hI.ob rfl ?_
      refine zG_s rfl rfl ?_
      refine zN_qa (tt := 1) rfl hI.ah (by omega) (by omega) ?_
      refine zG_s rfl rfl ?_
      refine zG_s rfl rfl ?_
      refine zN_get rfl s1 rfl ?_
      refine zG_cS1 rfl rfl (ct_refusal hS hst hln) ?_
      cases hR : zRfs (s.2.2.2.2.1 k).1 (s.2.2.2.2.1 k).2.1 c (s.1 i).1 with
      | some w =>
        refine zN_st5 rfl (fun _ _ _ => rfl) rfl ?_
        refine zG_s rfl rfl ?_
        refine zN_if rfl (fun q => absurd ((zRfs_neg hR : zc1 .ge w = false).symm.trans q) (by decide)) (fun _ => ?_)
        refine zG_s rfl rfl ?_
        exact zG_ret rfl rfl (zfin (by rw [zo_lay, zb_i hi (by omega), zb_i hk (by omega), hR]; first | done | rfl) hF hI)
      | none => ?_
      obtain ⟨g1, g2, hin⟩ := zRfs_no hR
      obtain ⟨p, hp, ep⟩ := zInr_p hln hin (by omega)
      subst ep
      show zGoP _ _ _ _ [.int (nI 0)] _ _
      refine zN_st5 rfl (fun _ _ _ => rfl) rfl ?_
      refine zG_s rfl rfl ?_
      refine zN_ge0 rfl (by omega) ?_
      refine zG_s rfl rfl ?_
      refine zN_st6 rfl (fun _ _ _ => rfl) rfl ?_
      have main52 : ∀ x, x ≤ (s.1 i).1 → ∀ (h1 : zH) (f1 : Nat → Int32), zFr (zaS (104 + 2 * k)) h h1 → zSh h1 (104 + 2 * k) (s.2.2.2.2.1 k).1 (s.2.2.2.2.1 k).2.1 f1 → (∀ j, j < (s.2.2.2.2.1 k).2.1 → f1 j = zLay (s.2.2.2.2.1 k).1 (s.1 i).1 (s.1 i).2 p (s.2.2.2.2.1 k).2.2 x j) → zGoP (d + 2) tX9_lay 52 [.ref 2, .int (nI i), .int (nI k), .int (nI p), .ref (68 + 6 * i), .int (nI 0), .int (nI x)] [] h1 (zOut h (zo_lay s (nI i) (nI k) (nI p))) := by
        refine zdown ((s.1 i).1) ?_ (fun x hp52 ih52 => ?_)
        · skip
          intro h1 f1 hFq hS hf
          have s1 := hFq.eq (by unfold zaS; omega) s1
          refine zG_s rfl rfl ?_
          refine zG_s rfl rfl ?_
          refine zN_get rfl s1 rfl ?_
          refine zN_ige rfl (by omega) (by omega) (fun c7 => ?_) (fun c8 => absurd c8 (by omega))
          refine zG_s rfl rfl ?_
          refine zN_get rfl s1 rfl ?_
          -- leaf 2
          have hI := hI.u_sh hk hS hf hFq
          have hF := hFq.mono (zcR_a (o := 104 + 2 * k) (by omega) (by omega))
          exact zG_ret rfl rfl (zfin (by rw [zo_lay, zb_i hi (by omega), zb_i hk (by omega), hR, nI_cl (by omega)]; first | done | rfl) hF hI)
        · skip
          intro h1 f1 hFq hS hf
          have hI1 := hI.u_sh (f9 := f1) hk hS (fun _ _ => rfl) hFq
          have s1 := hFq.eq (by unfold zaS; omega) s1
          have s2 := hFq.eq (by unfold zaS; omega) s2
          refine zG_s rfl rfl ?_
          refine zG_s rfl rfl ?_
          refine zN_get rfl s1 rfl ?_
          refine zN_ige rfl (by omega) (by omega) (fun c9 => absurd c9 (by omega)) (fun c10 => ?_)
          refine zG_s rfl rfl ?_
          refine zN_get rfl hI1.ob rfl ?_
          refine zG_s rfl rfl ?_
          refine zN_qa (tt := 1) rfl hI1.ah (by omega) (by omega) ?_
          refine zG_s rfl rfl ?_
          refine zG_s rfl rfl ?_
          refine zN_add rfl ?_
          refine zG_s rfl rfl ?_
          refine zN_get rfl s1 rfl ?_
          refine zG_s rfl rfl ?_
          refine zN_ald rfl s2 (by omega) (by omega) (sv x hp52).1 ?_
          refine zG_cQN rfl rfl hS.1 rfl rfl (ct_set (by omega) hS hst (by omega)) (fun h2 hB => ?_)
          refine zN_inc6 rfl rfl ?_
          refine zG_s rfl rfl ?_
          -- leaf 3
          exact ih52 _ _ (hFq.tr hB.1) hB.2 (fun j hj => by
            rw [zLay]
            by_cases e : j = p + x
            · subst e; rw [upd_at, upd_at]
            · rw [upd_ne _ _ e, upd_ne _ _ e]; exact hf j hj)
      exact main52 0 (by omega) h f zFr.rf hS hf
    · skip
      refine zG_s rfl rfl ?_
      -- leaf 4
      exact zG_ret rfl rfl (zfin (by rw [zo_lay, zb_i hi (by omega), zb_no c4]) hF hI)
theorem co_take {d : Nat} {h : zH} {s : zST} {a b c e : Int32} (hI : zCI h s) (hW : zWT s) : zCallP (d + 3) 136 [.ref 2, .int a, .int b, .int c, .int e] h (zOut h (zo_take s a b c e)) := by
  have hF : zFr zcR h h := zFr.rf
  refine zG_mP (t := tX9_take) (ls0 := [.ref 2, .int a, .int b, .int c, .int e, .null, .null, .null, .null, .null]) rfl rfl (zdnR (zdnI (zdnI (zdnI (zdnI zdn0))))) rfl ?_
  refine zG_s rfl rfl ?_
  refine zG_cS1 rfl rfl ct_isSheet ?_
  refine zN_ifb rfl (fun c1 => ?_) (fun c2 => ?_)
  · skip
    refine zG_s rfl rfl ?_
    -- leaf 1
    exact zG_ret rfl rfl (zfin (by rw [zo_take, zb_no c1]) hF hI)
  · skip
    obtain ⟨k, hk, rfl⟩ := zin_of c2 (by omega)
    refine zG_s rfl rfl ?_
    refine zG_cS1 rfl rfl ct_isSize ?_
    refine zN_ifb rfl (fun c3 => ?_) (fun c4 => ?_)
    · skip
      refine zG_s rfl rfl ?_
      -- leaf 2
      exact zG_ret rfl rfl (zfin (by rw [zo_take, zb_i hk (by omega), zb_no c3]) hF hI)
    · skip
      obtain ⟨n, hn, rfl⟩ := zin_of c4 (by omega)
      refine zG_s rfl rfl ?_
      refine zG_cS1 rfl rfl ct_isSpace ?_
      refine zN_ifnb rfl (fun c5 => ?_) (fun c6 => ?_)
      · skip
        obtain ⟨i, hi, rfl⟩ := zin_of c5 (by omega)
        obtain ⟨f, hS, hf⟩ := hI.sh k hk
        obtain ⟨hst, hln⟩ := hW.2.2.2.1 k hk
        refine zG_s rfl rfl ?_
        refine zN_get rfl hI.ob rfl ?_
        refine zG_s rfl rfl ?_
        refine zN_qa (tt := 1) rfl hI.ah (by omega) (by omega) ?_
        refine zN_sta5 rfl (fun _ _ _ => rfl) rfl ?_
        refine zG_s rfl rfl ?_
        refine zG_s rfl rfl ?_
        refine zG_s rfl rfl ?_
        refine zG_cS1 rfl rfl (ct_refusal hS hst hln) ?_
        cases hR : zRfs (s.2.2.2.2.1 k).1 (s.2.2.2.2.1 k).2.1 b n with
        | some w =>
          refine zN_st6 rfl (fun _ _ _ => rfl) rfl ?_
          refine zG_s rfl rfl ?_
          refine zN_if rfl (fun q => absurd ((zRfs_neg hR : zc1 .ge w = false).symm.trans q) (by decide)) (fun _ => ?_)
          refine zG_s rfl rfl ?_
          exact zG_ret rfl rfl (zfin (by rw [zo_take, zb_i hk (by omega), zb_i hn (by omega), zb_i hi (by omega), hR]; first | done | rfl) hF hI)
        | none => ?_
        obtain ⟨g1, g2, hin⟩ := zRfs_no hR
        obtain ⟨p, hp, ep⟩ := zInr_p hln hin (by omega)
        subst ep
        show zGoP _ _ _ _ [.int (nI 0)] _ _
        refine zN_st6 rfl (fun _ _ _ => rfl) rfl ?_
        refine zG_s rfl rfl ?_
        refine zN_ge0 rfl (by omega) ?_
        refine zG_s rfl rfl ?_
        refine zN_get rfl hI.ob rfl ?_
        refine zG_s rfl rfl ?_
        refine zN_qa (tt := 0) rfl hI.as (by omega) (by omega) ?_
        refine zN_sta7 rfl (fun _ _ _ => rfl) rfl ?_
        refine zG_s rfl rfl ?_
        refine zG_s rfl rfl ?_
        refine zG_cQN rfl rfl (hI.sp i hi).1 rfl rfl (cs_scatter (by omega) (hI.sp i hi) (by omega)) (fun h1 hB => ?_)
        have hF := hF.tr (hB.1.mono (zcR_s (by omega) (by omega)))
        have hI : zCI h1 (zsZ (zsSp s i n zDisc) s.2.2.1.1) := hI.u_sp hi hB.2 hB.1
        have hP0 : zPre n zDisc := zPre_disc (by omega)
        have hrs : zo_take s (nI k) (nI p) (nI n) (nI i) = (nI (zStr n (zTk2 (s.2.2.2.2.1 k).2.2 p n zDisc n)), zsSp s i n (zTk2 (s.2.2.2.2.1 k).2.2 p n zDisc n)) := by rw [zo_take, zb_i hk (by omega), zb_i hn (by omega), zb_i hi (by omega), hR, nI_cl (by omega)]
        generalize zDisc = q0 at *
        refine zG_s rfl rfl ?_
        refine zN_st8 rfl (fun _ _ _ => rfl) rfl ?_
        have main67 : ∀ x, x ≤ n → ∀ (h1 : zH) (x9 : Value), zFr zcR h h1 → zCI h1 (zsZ (zsSp s i n (zTk2 (s.2.2.2.2.1 k).2.2 p n q0 x)) s.2.2.1.1) → zGoP (d + 2) tX9_take 67 [.ref 2, .int (nI k), .int (nI p), .int (nI n), .int (nI i), .ref (104 + 2 * k), .int (nI 0), .ref (68 + 6 * i), .int (nI x), x9] [] h1 (zOut h (zo_take s (nI k) (nI p) (nI n) (nI i))) := by
          refine zdown (n) ?_ (fun x hp67 ih67 => ?_)
          · skip
            intro h1 x9 hF hI
            have hP := zTk2_pre (f := (s.2.2.2.2.1 k).2.2) (p := p) hP0 n
            refine zG_s rfl rfl ?_
            refine zG_s rfl rfl ?_
            refine zN_ige rfl (by omega) (by omega) (fun c9 => ?_) (fun c10 => absurd c10 (by omega))
            refine zG_s rfl rfl ?_
            refine zG_cV1 rfl rfl (hI.sp9 hi).1 rfl rfl (ct_strictPairs ⟨hI.sp9 hi, hP.ok⟩) ?_
            -- leaf 3
            exact zG_ret rfl rfl (zfin (by rw [hrs]; rfl) hF hI)
          · skip
            intro h1 x9 hF hI
            have hP := zTk2_pre (f := (s.2.2.2.2.1 k).2.2) (p := p) hP0 x
            generalize hq1 : zTk2 (s.2.2.2.2.1 k).2.2 p n q0 x = q1 at *
            refine zG_s rfl rfl ?_
            refine zG_s rfl rfl ?_
            refine zN_ige rfl (by omega) (by omega) (fun c11 => absurd c11 (by omega)) (fun c12 => ?_)
            refine zG_s rfl rfl ?_
            refine zN_st9 rfl (fun _ _ _ => rfl) rfl ?_
            have main76 : ∀ y, y ≤ n → ∀ h1 : zH, zFr zcR h h1 → zCI h1 (zsZ (zsSp s i n (zTk1 ((s.2.2.2.2.1 k).2.2 (p + x)) x y q1)) s.2.2.1.1) → zGoP (d + 2) tX9_take 76 [.ref 2, .int (nI k), .int (nI p), .int (nI n), .int (nI i), .ref (104 + 2 * k), .int (nI 0), .ref (68 + 6 * i), .int (nI x), .int (nI y)] [] h1 (zOut h (zo_take s (nI k) (nI p) (nI n) (nI i))) := by
              refine zdown (n) ?_ (fun y hp76 ih76 => ?_)
              · skip
                intro h1 hF hI
                refine zG_s rfl rfl ?_
                refine zG_s rfl rfl ?_
                refine zN_ige rfl (by omega) (by omega) (fun c13 => ?_) (fun c14 => absurd c14 (by omega))
                refine zN_inc8 rfl rfl ?_
                refine zG_s rfl rfl ?_
                -- leaf 4
                exact ih67 _ _ hF (by rw [zTk2, hq1]; exact hI)
              · skip
                intro h1 hF hI
                have hP := zTk1_pre (w := (s.2.2.2.2.1 k).2.2 (p + x)) (x := x) hP y (by omega)
                obtain ⟨f3, hS3, hf3⟩ : ∃ f, zSh h1 (104 + 2 * k) (s.2.2.2.2.1 k).1 (s.2.2.2.2.1 k).2.1 f ∧ ∀ j, j < (s.2.2.2.2.1 k).2.1 → f j = (s.2.2.2.2.1 k).2.2 j := hI.sh k hk
                refine zG_s rfl rfl ?_
                refine zG_s rfl rfl ?_
                refine zN_ige rfl (by omega) (by omega) (fun c15 => absurd c15 (by omega)) (fun c16 => ?_)
                refine zG_s rfl rfl ?_
                refine zN_get rfl hS3.1 rfl ?_
                refine zG_s rfl rfl ?_
                refine zG_s rfl rfl ?_
                refine zN_add rfl ?_
                refine zN_ald rfl hS3.2 (by omega) (by omega) (hf3 (p + x) (by omega)) ?_
                refine zG_s rfl rfl ?_
                refine zG_cS1 rfl rfl (ct_hasI _ (by omega)) ?_
                first | refine zN_ifb rfl (fun c17 => ?_) (fun c18 => ?_) | refine zN_eq0 rfl (by omega) (fun c17 => ?_) (fun c18 => ?_)
                · skip
                  refine zN_inc9 rfl rfl ?_
                  refine zG_s rfl rfl ?_
                  -- leaf 5
                  have e : zTk1 ((s.2.2.2.2.1 k).2.2 (p + x)) x (y + 1) q1 = zTk1 ((s.2.2.2.2.1 k).2.2 (p + x)) x y q1 := if_neg (by rw [c17]; simp)
                  rw [e] at ih76
                  exact ih76 _ hF hI
                · skip
                  refine zG_s rfl rfl ?_
                  refine zG_s rfl rfl ?_
                  refine zG_s rfl rfl ?_
                  refine zG_cQV rfl rfl (hI.sp9 hi).1 rfl rfl (cs_enclose (by omega) (hI.sp9 hi) hP hp67 hp76) (fun h3 hB => ?_)
                  have hF := hF.tr (hB.1.mono (zcR_s (o := 68 + 6 * i) (by omega) (by omega)))
                  have hI := hI.u_sp hi hB.2 hB.1
                  rw [zsSp2] at hI
                  refine zG_s rfl rfl ?_
                  refine zN_inc9 rfl rfl ?_
                  refine zG_s rfl rfl ?_
                  -- leaf 6
                  have e : zTk1 ((s.2.2.2.2.1 k).2.2 (p + x)) x (y + 1) q1 = zNst (zTk1 ((s.2.2.2.2.1 k).2.2 (p + x)) x y q1) x y := if_pos c18
                  rw [e] at ih76
                  exact ih76 _ hF hI
            exact main76 0 (by omega) _ hF hI
        exact main67 0 (by omega) _ _ hF hI
      · skip
        refine zG_s rfl rfl ?_
        -- leaf 7
        exact zG_ret rfl rfl (zfin (by rw [zo_take, zb_i hk (by omega), zb_i hn (by omega), zb_no c6]) hF hI)
