theorem cp_becomeCodedX {d : Nat} {h : zH} {o m n : Nat} {x : Int32} {l0 h0 : Nat → Nat} (ho2 : 2 ≤ o) (hn : n < 6) (hX : zSp h o m l0 h0) : zCallP (d + 3) 88 [.ref o, .int (nI n), .int x] h (zRV (.int (nI (b2n (zin x (zE9 n) && zVal n x.toNatClampNeg)))) (fun h1 => zFr (zsS o) h h1 ∧ (∃ m lo hi, zSp h1 o m lo hi) ∧ ((zin x (zE9 n) && zVal n x.toNatClampNeg) = true → zSq h1 o n (zDl n x.toNatClampNeg)))) := by
  have hE : zE9 n ≤ 2 ^ 20 := by
    unfold zE9
    rw [Nat.one_shiftLeft]
    exact Nat.pow_le_pow_right (by decide) (zn20 n hn)
  cases e : zin x (zE9 n) with
  | false => exact (ct_becomeCodedBad (by omega) e).rv ⟨zFr.rf, ⟨_, _, _, hX⟩, fun g => by cases g⟩
  | true =>
    obtain ⟨c, hc, rfl⟩ := zin_of e (by omega)
    rw [nI_cl (by omega), Bool.true_and]
    exact (cp_becomeCoded ho2 hn hc hX).vm rfl (fun h1 hh => ⟨hh.1, ⟨_, _, _, hh.2⟩, fun _ => hh.2⟩)
theorem co_same {d : Nat} {h : zH} {s : zST} {a b c : Int32} (hI : zCI h s) (hW : zWT s) : zCallP (d + 13) 111 [.ref 2, .int a, .int b, .int c] h (zOut h (zo_same s a b c)) := by
  have hF : zFr zcR h h := zFr.rf
  refine zG_mP (t := tX9_same) (ls0 := [.ref 2, .int a, .int b, .int c, .null, .null]) rfl rfl (zdnR (zdnI (zdnI (zdnI zdn0)))) rfl ?_
  refine zG_s rfl rfl ?_
  refine zG_cS1 rfl rfl ct_isSpace ?_
  refine zN_ifb rfl (fun c1 => ?_) (fun c2 => ?_)
  · skip
    refine zG_s rfl rfl ?_
    -- leaf 1
    exact zG_ret rfl rfl (zfin (by rw [zo_same, zb_no c1]) hF hI)
  · skip
    obtain ⟨i, hi, rfl⟩ := zin_of c2 (by omega)
    refine zG_s rfl rfl ?_
    refine zG_cS1 rfl rfl ct_isSpace ?_
    refine zN_ifb rfl (fun c3 => ?_) (fun c4 => ?_)
    · skip
      refine zG_s rfl rfl ?_
      -- leaf 2
      exact zG_ret rfl rfl (zfin (by rw [zo_same, zb_i hi (by omega), zb_no c3]) hF hI)
    · skip
      obtain ⟨j, hj, rfl⟩ := zin_of c4 (by omega)
      have hP := hW.1 i hi
      have hP2 := hW.1 j hj
      have hn1 := zpow_le hP.1
      have hn2 := zpow_le hP2.1
      have hn := hP.1
      have hn9 := hP2.1
      refine zG_s rfl rfl ?_
      refine zG_s rfl rfl ?_
      refine zN_if2 rfl (fun c5 => ?_) (fun c6 => ?_)
      · skip
        refine zG_s rfl rfl ?_
        -- leaf 3
        obtain ⟨e1, e2⟩ := zs_lt c5
        exact zG_ret rfl rfl (zfin (by rw [zo_same, zb_i hi (by omega), zb_i hj (by omega), if_neg e1, zb_no (e2 _)]) hF hI)
      · skip
        refine zG_s rfl rfl ?_
        refine zG_s rfl rfl ?_
        refine zN_get rfl hI.ob rfl ?_
        refine zG_s rfl rfl ?_
        refine zN_qa (tt := 0) rfl hI.as (by omega) (by omega) ?_
        refine zN_get rfl (hI.sp _ (by omega)).1 rfl ?_
        refine zN_if2 rfl (fun c7 => ?_) (fun c8 => ?_)
        · skip
          refine zG_s rfl rfl ?_
          refine zN_get rfl hI.ob rfl ?_
          refine zG_s rfl rfl ?_
          refine zN_qa (tt := 0) rfl hI.as (by omega) (by omega) ?_
          refine zN_sta4 rfl (fun _ _ _ => rfl) rfl ?_
          refine zG_s rfl rfl ?_
          refine zN_get rfl hI.ob rfl ?_
          refine zG_s rfl rfl ?_
          refine zN_qa (tt := 0) rfl hI.as (by omega) (by omega) ?_
          refine zN_sta5 rfl (fun _ _ _ => rfl) rfl ?_
          refine zG_s rfl rfl ?_
          refine zN_if rfl (fun c9 => ?_) (fun c10 => ?_)
          · skip
            obtain ⟨x, hx, rfl⟩ := zs_in (by omega) c7 c9
            refine zG_s rfl rfl ?_
            refine zN_get rfl hI.ob rfl ?_
            refine zG_s rfl rfl ?_
            refine zG_s rfl rfl ?_
            refine zG_cV1 rfl rfl (hI.sp i hi).1 rfl rfl (ct_all (hI.sp i hi).1 hn) ?_
            refine zG_s rfl rfl ?_
            refine zG_s rfl rfl ?_
            refine zG_cV1 rfl rfl (hI.sp j hj).1 rfl rfl (ct_all (hI.sp j hj).1 hn9) ?_
            obtain ⟨nA, nB, ex, fe, fl9, fh9, tl9, th9, im9, hM9⟩ := hI.ma
            refine zG_cQV rfl rfl hM9.1 rfl rfl (ct_areSame (by omega) hI.ma (hI.sp i hi) (hI.sp j hj) hP.ok hP2.ok (by unfold zmN; omega) (by unfold zmN; omega) (by omega) (by omega)) (fun h3 hB => ?_)
            obtain ⟨hF3, a1, a2, a3, a4, a5, a6, a7, a8, a9, hM3, hJ3⟩ := hB
            have hF := hF.tr (hF3.mono zcR_m)
            have hI := hI.u_ma ⟨a1, a2, a3, a4, a5, a6, a7, a8, a9, hM3⟩ hF3
            first | refine zN_ifnb rfl (fun c11 => ?_) (fun c12 => ?_) | refine zN_ne0 rfl (by omega) (fun c11 => ?_) (fun c12 => ?_)
            · skip
              refine zG_s rfl rfl ?_
              refine zN_get rfl hI.ob rfl ?_
              refine zN_get rfl hM3.1 rfl ?_
              refine zG_s rfl rfl ?_
              refine zN_ald rfl hM3.2.1 (by omega) (by omega) rfl ?_
              -- leaf 4
              obtain ⟨J, hJ⟩ := Option.isSome_iff_exists.mp c11
              exact zG_ret rfl rfl (zfin (by rw [zo_same, zb_i hi (by omega), zb_i hj (by omega), if_neg (znm1 (by omega)), zb_i hx (by omega), zSameI, show zSameO (s.1 i).1 (s.1 i).2 (s.1 j).1 (s.1 j).2 = some J from hJ, hJ3 J hJ x (by rw [zPos_all _ (Nat.le_refl _)]; exact hx)]) hF hI)
            · skip
              refine zG_s rfl rfl ?_
              -- leaf 5
              have hJ : zSameO (s.1 i).1 (s.1 i).2 (s.1 j).1 (s.1 j).2 = none := by
                have c12 : (zSameO (s.1 i).1 (s.1 i).2 (s.1 j).1 (s.1 j).2).isSome = false := c12
                cases q : zSameO (s.1 i).1 (s.1 i).2 (s.1 j).1 (s.1 j).2 with
                | none => rfl
                | some J => rw [q] at c12; cases c12
              exact zG_ret rfl rfl (zfin (by rw [zo_same, zb_i hi (by omega), zb_i hj (by omega), if_neg (znm1 (by omega)), zb_i hx (by omega), zSameI, hJ]) hF hI)
          · skip
            refine zG_s rfl rfl ?_
            refine zN_get rfl hI.ob rfl ?_
            refine zG_s rfl rfl ?_
            refine zG_s rfl rfl ?_
            obtain ⟨nA, nB, ex, fe, fl9, fh9, tl9, th9, im9, hM9⟩ := hI.ma
            refine zG_cQV rfl rfl hM9.1 rfl rfl (ct_renumberings (by omega) hI.ma (hI.sp i hi) (hI.sp j hj) hP.ok hP2.ok (by unfold zmN; omega) (by unfold zmN; omega)) (fun h3 hB => ?_)
            have hF := hF.tr (hB.1.mono zcR_m)
            have hI := hI.u_ma hB.2 hB.1
            -- leaf 6
            have e := zs_m1 c6 c10
            subst e
            exact zG_ret rfl rfl (zfin (by rw [zo_same, zb_i hi (by omega), zb_i hj (by omega), if_pos rfl]) hF hI)
        · skip
          refine zG_s rfl rfl ?_
          -- leaf 7
          obtain ⟨e1, e2⟩ := zs_ge (by omega) c8
          exact zG_ret rfl rfl (zfin (by rw [zo_same, zb_i hi (by omega), zb_i hj (by omega), if_neg e1, zb_no e2]) hF hI)
theorem co_form {d : Nat} {h : zH} {s : zST} {a : Int32} (hI : zCI h s) (hW : zWT s) : zCallP (d + 4) 112 [.ref 2, .int a] h (zOut h (zo_form s a)) := by
  have hF : zFr zcR h h := zFr.rf
  refine zG_mP (t := tX9_form) (ls0 := [.ref 2, .int a]) rfl rfl (zdnR (zdnI zdn0)) rfl ?_
  refine zG_s rfl rfl ?_
  refine zG_cS1 rfl rfl ct_isSpace ?_
  refine zN_ifb rfl (fun c1 => ?_) (fun c2 => ?_)
  · skip
    refine zG_s rfl rfl ?_
    -- leaf 1
    exact zG_ret rfl rfl (zfin (by rw [zo_form, zb_no c1]) hF hI)
  · skip
    obtain ⟨i, hi, rfl⟩ := zin_of c2 (by omega)
    have hP := hW.1 i hi
    have hn := hP.1
    refine zG_s rfl rfl ?_
    refine zN_get rfl hI.ob rfl ?_
    refine zG_s rfl rfl ?_
    refine zN_qa (tt := 0) rfl hI.as (by omega) (by omega) ?_
    refine zN_get rfl (hI.sp _ (by omega)).1 rfl ?_
    refine zG_s rfl rfl ?_
    refine zN_ile (y := 5) rfl (by omega) (by omega) (fun c3 => ?_) (fun c4 => ?_)
    · skip
      refine zG_s rfl rfl ?_
      refine zN_get rfl hI.ob rfl ?_
      refine zG_s rfl rfl ?_
      refine zN_get rfl hI.ob rfl ?_
      refine zG_s rfl rfl ?_
      refine zN_qa (tt := 0) rfl hI.as (by omega) (by omega) ?_
      obtain ⟨b9, ht, od, il, al, pl, fo, R, S, P, hK, hS, hR⟩ := hI.co
      refine zG_cQV rfl rfl hK.1 rfl rfl (ct_formOf (by omega) hK (hI.sp i hi) hP.ok (by omega) (fun k hk => by omega)) (fun h1 hB => ?_)
      obtain ⟨hF1, od1, hK1⟩ := hB
      obtain ⟨m9, l9, h9, hS9⟩ := hS
      have hF2 := hF1.mono (S' := zkoS 29) (fun j hj => by unfold zkoS; omega)
      have hI := hI.u_co ⟨_, od1, il, al, pl, fo, R, S, P, hK1, ⟨m9, l9, h9, zSp.fr hF1 (by omega) (by omega) (by omega) hS9⟩, hR⟩ hF2
      have hF := hF.tr (hF2.mono zcR_k)
      -- leaf 2
      exact zG_ret rfl rfl (zfin (by rw [zo_form, zb_i hi (by omega), if_neg (by omega)]) hF hI)
    · skip
      refine zG_s rfl rfl ?_
      -- leaf 3
      exact zG_ret rfl rfl (zfin (by rw [zo_form, zb_i hi (by omega), if_pos c4]) hF hI)
theorem co_byCode {d : Nat} {h : zH} {s : zST} {a b c : Int32} (hI : zCI h s) (hW : zWT s) : zCallP (d + 4) 113 [.ref 2, .int a, .int b, .int c] h (zOut h (zo_byCode s a b c)) := by
  have hF : zFr zcR h h := zFr.rf
  refine zG_mP (t := tX9_byCode) (ls0 := [.ref 2, .int a, .int b, .int c, .null]) rfl rfl (zdnR (zdnI (zdnI (zdnI zdn0)))) rfl ?_
  refine zG_s rfl rfl ?_
  refine zG_cS1 rfl rfl ct_isSpace ?_
  refine zN_ifb rfl (fun c1 => ?_) (fun c2 => ?_)
  · skip
    refine zG_s rfl rfl ?_
    -- leaf 1
    exact zG_ret rfl rfl (zfin (by rw [zo_byCode, zb_no c1]) hF hI)
  · skip
    obtain ⟨i, hi, rfl⟩ := zin_of c2 (by omega)
    have hP := hW.1 i hi
    refine zG_s rfl rfl ?_
    refine zN_if rfl (fun c3 => ?_) (fun c4 => ?_)
    · skip
      have c5 := zraw_lt0 (n := 6) c3
      refine zG_s rfl rfl ?_
      -- leaf 2
      exact zG_ret rfl rfl (zfin (by rw [zo_byCode, zb_i hi (by omega), zb_no c5]) hF hI)
    · skip
      refine zG_s rfl rfl ?_
      refine zG_s rfl rfl ?_
      refine zN_if2 rfl (fun c6 => ?_) (fun c7 => ?_)
      · skip
        have c8 := zraw_gt (n := 5) (by decide) c6
        refine zG_s rfl rfl ?_
        -- leaf 3
        exact zG_ret rfl rfl (zfin (by rw [zo_byCode, zb_i hi (by omega), zb_no c8]) hF hI)
      · skip
        have c9 := zraw_in2 (n := 5) (by decide) c4 c7
        obtain ⟨n, hn, rfl⟩ := zin_of c9 (by decide)
        refine zG_s rfl rfl ?_
        refine zN_get rfl hI.ob rfl ?_
        refine zG_s rfl rfl ?_
        refine zG_s rfl rfl ?_
        obtain ⟨m9, l9, h9, hX⟩ := hI.wk
        refine zG_cQV rfl rfl hX.1 rfl rfl (cp_becomeCodedX (by omega) (by omega) hX) (fun h1 hB => ?_)
        obtain ⟨hF1, ⟨m8, l8, h8, hX⟩, hV⟩ := hB
        have hI := hI.u_wk hX hF1
        have hF := hF.tr (hF1.mono zcR_s5)
        first | refine zN_ifnb rfl (fun c10 => ?_) (fun c11 => ?_) | refine zN_ne0 rfl (by omega) (fun c10 => ?_) (fun c11 => ?_)
        · skip
          refine zG_s rfl rfl ?_
          refine zN_get rfl hI.ob rfl ?_
          refine zG_s rfl rfl ?_
          refine zN_qa (tt := 0) rfl hI.as (by omega) (by omega) ?_
          refine zN_get rfl (hI.sp _ (by omega)).1 rfl ?_
          refine zN_st4 rfl (fun _ _ _ => rfl) rfl ?_
          refine zG_s rfl rfl ?_
          refine zG_s rfl rfl ?_
          refine zG_cQV rfl rfl hI.ob rfl rfl (ct_settle hI hi (hV c10) (by omega)) (fun h3 hB3 => ?_)
          have hF := hF.tr hB3.1
          have hI := hB3.2
          refine zG_s rfl rfl ?_
          refine zG_s rfl rfl ?_
          -- leaf 4
          have hE := zE9_b hn
          rw [Bool.and_eq_true] at c10
          obtain ⟨w, hw, rfl⟩ := zin_of c10.1 (by omega)
          rw [nI_cl (by omega)] at c10 hI
          exact zG_ret rfl rfl (zfin (by rw [zo_byCode, zb_i hi (by omega), zb_i hn (by omega), zb_i hw (by omega), if_pos c10.2]) hF hI)
        · skip
          refine zG_s rfl rfl ?_
          -- leaf 5
          have hE := zE9_b hn
          refine zG_ret rfl rfl (zfin ?_ hF hI)
          rw [zo_byCode, zb_i hi (by omega), zb_i hn (by omega)]
          cases e : zin c (zE9 n) with
          | false => rw [zb_no e]
          | true =>
            obtain ⟨w, hw, rfl⟩ := zin_of e (by omega)
            rw [e, Bool.true_and, nI_cl (by omega)] at c11
            rw [zb_i hw (by omega), if_neg (by rw [c11]; simp)]
theorem co_list {d : Nat} {h : zH} {s : zST} {a b : Int32} (hI : zCI h s) (hW : zWT s) : zCallP (d + 6) 114 [.ref 2, .int a, .int b] h (zOut h (zo_list s a b)) := by
  have hF : zFr zcR h h := zFr.rf
  refine zG_mP (t := tX9_list) (ls0 := [.ref 2, .int a, .int b]) rfl rfl (zdnR (zdnI (zdnI zdn0))) rfl ?_
  refine zG_s rfl rfl ?_
  refine zN_if rfl (fun c1 => ?_) (fun c2 => ?_)
  · skip
    have c3 := zraw_lt0 (n := 5) c1
    refine zG_s rfl rfl ?_
    -- leaf 1
    exact zG_ret rfl rfl (zfin (by rw [zo_list, zb_no c3]) hF hI)
  · skip
    refine zG_s rfl rfl ?_
    refine zG_s rfl rfl ?_
    refine zN_if2 rfl (fun c4 => ?_) (fun c5 => ?_)
    · skip
      have c6 := zraw_le (n := 4) (by decide) c2 c4
      obtain ⟨n, hn, rfl⟩ := zin_of c6 (by decide)
      refine zG_s rfl rfl ?_
      refine zN_get rfl hI.ob rfl ?_
      refine zG_s rfl rfl ?_
      obtain ⟨b9, hC⟩ := hI.co
      obtain ⟨ht, od, il, al, pl, fo, R, S, P, hK, hS, hR⟩ := id hC
      refine zG_cQN rfl rfl hK.1 rfl rfl (ct_listAll (by omega) hC hn) (fun h1 hB => ?_)
      have hI := hI.u_co hB.2 hB.1
      have hF := hF.tr (hB.1.mono zcR_k)
      obtain ⟨cc, hC, hcc⟩ := zCL.at (n := n) hB.2 (by rw [decide_eq_true rfl, Bool.or_true])
      obtain ⟨ht, od, il, al, pl, fo, R, S, P, hK, hS, hR⟩ := id hC
      obtain ⟨r1, r2, r3, r4, r5⟩ := hR n hn
      rw [hcc] at r2 r3 r4 r5
      refine zG_s rfl rfl ?_
      rcases zcs4 b with c7 | c8 | c9 | c10 | c11
      · skip
        subst c7
        refine zG_s rfl rfl ?_
        refine zG_s rfl rfl ?_
        refine zN_get rfl hI.ob rfl ?_
        refine zN_get rfl hK.1 rfl ?_
        refine zG_s rfl rfl ?_
        refine zN_ald rfl hK.2.2.2.1 (by omega) (by omega) r2 ?_
        -- leaf 2
        exact zG_ret rfl rfl (zfin (by rw [zo_list, zb_i hn (by omega), zb_i (show 0 < 4 by decide) (by omega)]; first | done | rfl) hF hI)
      · skip
        subst c8
        refine zG_s rfl rfl ?_
        refine zG_s rfl rfl ?_
        refine zN_get rfl hI.ob rfl ?_
        refine zN_get rfl hK.1 rfl ?_
        refine zG_s rfl rfl ?_
        refine zN_ald rfl hK.2.2.2.2.1 (by omega) (by omega) r3 ?_
        -- leaf 3
        exact zG_ret rfl rfl (zfin (by rw [zo_list, zb_i hn (by omega), zb_i (show 1 < 4 by decide) (by omega)]; first | done | rfl) hF hI)
      · skip
        subst c9
        refine zG_s rfl rfl ?_
        refine zG_s rfl rfl ?_
        refine zN_get rfl hI.ob rfl ?_
        refine zN_get rfl hK.1 rfl ?_
        refine zG_s rfl rfl ?_
        refine zN_ald rfl hK.2.2.2.2.2.1 (by omega) (by omega) r4 ?_
        -- leaf 4
        exact zG_ret rfl rfl (zfin (by rw [zo_list, zb_i hn (by omega), zb_i (show 2 < 4 by decide) (by omega)]; first | done | rfl) hF hI)
      · skip
        subst c10
        refine zG_s rfl rfl ?_
        refine zG_s rfl rfl ?_
        refine zN_get rfl hI.ob rfl ?_
        refine zG_s rfl rfl ?_
        refine zG_cV1 rfl rfl hK.1 rfl rfl (ct_plainForms hC hn) ?_
        rw [hcc]
        -- leaf 5
        exact zG_ret rfl rfl (zfin (by rw [zo_list, zb_i hn (by omega), zb_i (show 3 < 4 by decide) (by omega)]; first | done | rfl) hF hI)
      · skip
        refine zN_tsd (p2 := 91) rfl (zin_out (by decide) c11) rfl ?_
        refine zG_s rfl rfl ?_
        -- leaf 6
        exact zG_ret rfl rfl (zfin (by rw [zo_list, zb_i hn (by omega), zb_no c11]) hF hI)
    · skip
      have c12 := zraw_nle (n := 4) (by decide) c5
      refine zG_s rfl rfl ?_
      -- leaf 7
      exact zG_ret rfl rfl (zfin (by rw [zo_list, zb_no c12]) hF hI)
theorem co_listed {d : Nat} {h : zH} {s : zST} {a b c e : Int32} (hI : zCI h s) (hW : zWT s) : zCallP (d + 6) 115 [.ref 2, .int a, .int b, .int c, .int e] h (zOut h (zo_listed s a b c e)) := by
  have hF : zFr zcR h h := zFr.rf
  refine zG_mP (t := tX9_listed) (ls0 := [.ref 2, .int a, .int b, .int c, .int e, .null]) rfl rfl (zdnR (zdnI (zdnI (zdnI (zdnI zdn0))))) rfl ?_
  refine zG_s rfl rfl ?_
  refine zN_if rfl (fun c1 => ?_) (fun c2 => ?_)
  · skip
    have c3 := zraw_lt0 (n := 5) c1
    refine zG_s rfl rfl ?_
    -- leaf 1
    exact zG_ret rfl rfl (zfin (by rw [zo_listed, zb_no c3]) hF hI)
  · skip
    refine zG_s rfl rfl ?_
    refine zG_s rfl rfl ?_
    refine zN_if2 rfl (fun c4 => ?_) (fun c5 => ?_)
    · skip
      have c6 := zraw_gt (n := 4) (by decide) c4
      refine zG_s rfl rfl ?_
      -- leaf 2
      exact zG_ret rfl rfl (zfin (by rw [zo_listed, zb_no c6]) hF hI)
    · skip
      have c7 := zraw_in2 (n := 4) (by decide) c2 c5
      obtain ⟨n, hn, rfl⟩ := zin_of c7 (by decide)
      refine zG_s rfl rfl ?_
      refine zN_if rfl (fun c8 => ?_) (fun c9 => ?_)
      · skip
        have c10 := zraw_lt0 (n := 2) c8
        refine zG_s rfl rfl ?_
        -- leaf 3
        exact zG_ret rfl rfl (zfin (by rw [zo_listed, zb_i hn (by omega), zb_no c10]) hF hI)
      · skip
        refine zG_s rfl rfl ?_
        refine zG_s rfl rfl ?_
        refine zN_if2 rfl (fun c11 => ?_) (fun c12 => ?_)
        · skip
          have c13 := zraw_gt (n := 1) (by decide) c11
          refine zG_s rfl rfl ?_
          -- leaf 4
          exact zG_ret rfl rfl (zfin (by rw [zo_listed, zb_i hn (by omega), zb_no c13]) hF hI)
        · skip
          have c14 := zraw_in2 (n := 1) (by decide) c9 c12
          obtain ⟨p, hp, rfl⟩ := zin_of c14 (by decide)
          refine zG_s rfl rfl ?_
          refine zN_if rfl (fun c15 => ?_) (fun c16 => ?_)
          · skip
            refine zG_s rfl rfl ?_
            -- leaf 5
            exact zG_ret rfl rfl (zfin (by rw [zo_listed, zb_i hn (by omega), zb_i hp (by omega), if_pos (of_decide_eq_true c15)]) hF hI)
          · skip
            refine zG_s rfl rfl ?_
            refine zN_if rfl (fun c17 => ?_) (fun c18 => ?_)
            · skip
              have c19 := zraw_lt0 (n := 2) c17
              refine zG_s rfl rfl ?_
              -- leaf 6
              exact zG_ret rfl rfl (zfin (by rw [zo_listed, zb_i hn (by omega), zb_i hp (by omega), if_neg (of_decide_eq_false c16), zb_no c19]) hF hI)
            · skip
              refine zG_s rfl rfl ?_
              refine zG_s rfl rfl ?_
              refine zN_if2 rfl (fun c20 => ?_) (fun c21 => ?_)
              · skip
                have c22 := zraw_le (n := 1) (by decide) c18 c20
                obtain ⟨w, hw, rfl⟩ := zin_of c22 (by decide)
                refine zG_s rfl rfl ?_
                refine zN_get rfl hI.ob rfl ?_
                refine zG_s rfl rfl ?_
                obtain ⟨b9, hC⟩ := hI.co
                obtain ⟨ht, od, il, al, pl, fo, R, S, P, hK, hS, hR⟩ := id hC
                refine zG_cQN rfl rfl hK.1 rfl rfl (ct_listAll (by omega) hC hn) (fun h1 hB => ?_)
                have hI := hI.u_co hB.2 hB.1
                have hF := hF.tr (hB.1.mono zcR_k)
                obtain ⟨cc, hC, hcc⟩ := zCL.at (n := n) hB.2 (by rw [decide_eq_true rfl, Bool.or_true])
                obtain ⟨ht, od, il, al, pl, fo, R, S, P, hK, hS, hR⟩ := id hC
                obtain ⟨r1, r2, r3, r4, r5⟩ := hR n hn
                rw [hcc] at r2 r3 r4 r5
                have r6 := (zLs_le n (zE9 n)).2.2
                obtain ⟨i9, hi9, ec9⟩ := nI_of (of_decide_eq_false c16)
                rw [ec9]
                refine zG_s rfl rfl ?_
                refine zN_get rfl hI.ob rfl ?_
                refine zG_s rfl rfl ?_
                refine zG_s rfl rfl ?_
                refine zG_s rfl rfl ?_
                refine zG_cV1 rfl rfl hK.1 rfl rfl (ct_placeOf hC hn hp hi9) ?_
                rw [hcc]
                have hk9 := zfs_le (fun k => decide (p ≤ zPlP (zLs n (zE9 n)).2.2 k) && decide (zct (fun j => decide (p ≤ zPlP (zLs n (zE9 n)).2.2 j)) k = i9)) (zLs n (zE9 n)).2.2.length
                change zPlAt (zLs n (zE9 n)).2.2 p i9 ≤ (zLs n (zE9 n)).2.2.length at hk9
                have hz9 : zo_listed s (nI n) (nI p) (nI i9) (nI w) = (zListed n p i9 w, s) := by rw [zo_listed, zb_i hn (by omega), zb_i hp (by omega), if_neg (nI_pos hi9), zb_i hw (by omega), nI_cl hi9]
                have hzl : zListed n p i9 w = if zPlAt (zLs n (zE9 n)).2.2 p i9 < (zLs n (zE9 n)).2.2.length then nI (if w = 0 then ((zLs n (zE9 n)).2.2.getD (zPlAt (zLs n (zE9 n)).2.2 p i9) (0, 0, 0)).1 else ((zLs n (zE9 n)).2.2.getD (zPlAt (zLs n (zE9 n)).2.2 p i9) (0, 0, 0)).2.1) else -3 := rfl
                rw [zix]
                generalize zPlAt (zLs n (zE9 n)).2.2 p i9 = K at *
                generalize (zLs n (zE9 n)).2.2 = L at *
                refine zN_st5 rfl (fun _ _ _ => rfl) rfl ?_
                refine zG_s rfl rfl ?_
                by_cases hKL : K < L.length
                case neg =>
                  rw [if_neg hKL] at hzl ⊢
                  refine zN_if rfl (fun q => absurd q (by decide)) (fun _ => ?_)
                  refine zG_s rfl rfl ?_
                  exact zG_ret rfl rfl (zfin (by rw [hz9, hzl]) hF hI)
                rw [if_pos hKL] at hzl ⊢
                refine zN_ge0 rfl (by omega) ?_
                refine zG_s rfl rfl ?_
                refine zN_ne0 rfl (by omega) (fun c25 => ?_) (fun c26 => ?_)
                · skip
                  refine zG_s rfl rfl ?_
                  refine zN_get rfl hI.ob rfl ?_
                  refine zN_get rfl hK.1 rfl ?_
                  refine zG_s rfl rfl ?_
                  obtain ⟨⟨g1, g2, g3⟩, g4⟩ := hK.Sr
                  refine zN_qld (tt := 2) rfl g2 (by omega) (by omega) (g3 n (by omega)) ?_
                  refine zG_s rfl rfl ?_
                  refine zN_ald rfl (g4 n (by omega)) (by omega) (by omega) (r5 K hKL).2.1 ?_
                  -- leaf 7
                  exact zG_ret rfl rfl (zfin (by rw [hz9, hzl, if_neg (by omega)]) hF hI)
                · skip
                  refine zG_s rfl rfl ?_
                  refine zN_get rfl hI.ob rfl ?_
                  refine zN_get rfl hK.1 rfl ?_
                  refine zG_s rfl rfl ?_
                  obtain ⟨⟨g1, g2, g3⟩, g4⟩ := hK.Rr
                  refine zN_qld (tt := 2) rfl g2 (by omega) (by omega) (g3 n (by omega)) ?_
                  refine zG_s rfl rfl ?_
                  refine zN_ald rfl (g4 n (by omega)) (by omega) (by omega) (r5 K hKL).1 ?_
                  refine zG_s rfl rfl ?_
                  -- leaf 8
                  exact zG_ret rfl rfl (zfin (by rw [hz9, hzl, if_pos c26]) hF hI)
              · skip
                have c27 := zraw_nle (n := 1) (by decide) c21
                refine zG_s rfl rfl ?_
                -- leaf 9
                exact zG_ret rfl rfl (zfin (by rw [zo_listed, zb_i hn (by omega), zb_i hp (by omega), if_neg (of_decide_eq_false c16), zb_no c27]) hF hI)
theorem co_tears {d : Nat} {h : zH} {s : zST} {a b c : Int32} (hI : zCI h s) (hW : zWT s) : zCallP (d + 4) 116 [.ref 2, .int a, .int b, .int c] h (zOut h (zo_tears s a b c)) := by
  have hF : zFr zcR h h := zFr.rf
  refine zG_mP (t := tX9_tears) (ls0 := [.ref 2, .int a, .int b, .int c]) rfl rfl (zdnR (zdnI (zdnI (zdnI zdn0)))) rfl ?_
  refine zG_s rfl rfl ?_
  refine zG_cS1 rfl rfl ct_isSpace ?_
  refine zN_ifb rfl (fun c1 => ?_) (fun c2 => ?_)
  · skip
    refine zG_s rfl rfl ?_
    -- leaf 1
    exact zG_ret rfl rfl (zfin (by rw [zo_tears, zb_no c1]) hF hI)
  · skip
    obtain ⟨i, hi, rfl⟩ := zin_of c2 (by omega)
    refine zG_s rfl rfl ?_
    refine zG_cS1 rfl rfl ct_isSpace ?_
    refine zN_ifb rfl (fun c3 => ?_) (fun c4 => ?_)
    · skip
      refine zG_s rfl rfl ?_
      -- leaf 2
      exact zG_ret rfl rfl (zfin (by rw [zo_tears, zb_i hi (by omega), zb_no c3]) hF hI)
    · skip
      obtain ⟨j, hj, rfl⟩ := zin_of c4 (by omega)
      have hP := hW.1 i hi
      have hP2 := hW.1 j hj
      refine zG_s rfl rfl ?_
      refine zN_get rfl hI.ob rfl ?_
      refine zG_s rfl rfl ?_
      refine zN_qa (tt := 0) rfl hI.as (by omega) (by omega) ?_
      refine zG_s rfl rfl ?_
      refine zN_get rfl hI.ob rfl ?_
      refine zG_s rfl rfl ?_
      refine zN_qa (tt := 0) rfl hI.as (by omega) (by omega) ?_
      refine zG_s rfl rfl ?_
      refine zG_cS1 rfl rfl (ct_isMap (hI.sp i hi) (hI.sp j hj) hP.ok hP2.ok) ?_
      first | refine zN_ifnb rfl (fun c5 => ?_) (fun c6 => ?_) | refine zN_ne0 rfl (by omega) (fun c5 => ?_) (fun c6 => ?_)
      · skip
        obtain ⟨w, w1, w2, rfl, w4, w5⟩ := zMp_w hP.1 c5
        refine zG_s rfl rfl ?_
        refine zN_get rfl hI.ob rfl ?_
        refine zG_s rfl rfl ?_
        refine zN_qa (tt := 0) rfl hI.as (by omega) (by omega) ?_
        refine zG_s rfl rfl ?_
        refine zN_get rfl hI.ob rfl ?_
        refine zG_s rfl rfl ?_
        refine zN_qa (tt := 0) rfl hI.as (by omega) (by omega) ?_
        refine zG_s rfl rfl ?_
        refine zG_cS1 rfl rfl (ct_firstTear (hI.sp i hi) (hI.sp j hj) hP.ok hP2.ok w2 w5) ?_
        -- leaf 3
        exact zG_ret rfl rfl (zfin (by rw [zo_tears, zb_i hi (by omega), zb_i hj (by omega), if_pos c5, w4]) hF hI)
      · skip
        refine zG_s rfl rfl ?_
        -- leaf 4
        exact zG_ret rfl rfl (zfin (by rw [zo_tears, zb_i hi (by omega), zb_i hj (by omega), if_neg (by rw [c6]; simp)]) hF hI)
theorem co_maps {d : Nat} {h : zH} {s : zST} {a b : Int32} (hI : zCI h s) (hW : zWT s) : zCallP (d + 13) 117 [.ref 2, .int a, .int b] h (zOut h (zo_maps s a b)) := by
  have hF : zFr zcR h h := zFr.rf
  refine zG_mP (t := tX9_maps) (ls0 := [.ref 2, .int a, .int b]) rfl rfl (zdnR (zdnI (zdnI zdn0))) rfl ?_
  refine zG_s rfl rfl ?_
  refine zG_cS1 rfl rfl ct_isSpace ?_
  refine zN_ifb rfl (fun c1 => ?_) (fun c2 => ?_)
  · skip
    refine zG_s rfl rfl ?_
    -- leaf 1
    exact zG_ret rfl rfl (zfin (by rw [zo_maps, zb_no c1]) hF hI)
  · skip
    obtain ⟨i, hi, rfl⟩ := zin_of c2 (by omega)
    refine zG_s rfl rfl ?_
    refine zG_cS1 rfl rfl ct_isSpace ?_
    refine zN_ifb rfl (fun c3 => ?_) (fun c4 => ?_)
    · skip
      refine zG_s rfl rfl ?_
      -- leaf 2
      exact zG_ret rfl rfl (zfin (by rw [zo_maps, zb_i hi (by omega), zb_no c3]) hF hI)
    · skip
      obtain ⟨j, hj, rfl⟩ := zin_of c4 (by omega)
      have hP := hW.1 i hi
      have hP2 := hW.1 j hj
      have hn := hP.1
      refine zG_s rfl rfl ?_
      refine zN_get rfl hI.ob rfl ?_
      refine zG_s rfl rfl ?_
      refine zN_qa (tt := 0) rfl hI.as (by omega) (by omega) ?_
      refine zN_get rfl (hI.sp _ (by omega)).1 rfl ?_
      refine zG_s rfl rfl ?_
      refine zN_ile (y := 5) rfl (by omega) (by omega) (fun c5 => ?_) (fun c6 => ?_)
      · skip
        refine zG_s rfl rfl ?_
        refine zN_get rfl hI.ob rfl ?_
        refine zG_s rfl rfl ?_
        refine zN_get rfl hI.ob rfl ?_
        refine zG_s rfl rfl ?_
        refine zN_qa (tt := 0) rfl hI.as (by omega) (by omega) ?_
        refine zG_s rfl rfl ?_
        refine zN_get rfl hI.ob rfl ?_
        refine zG_s rfl rfl ?_
        refine zN_qa (tt := 0) rfl hI.as (by omega) (by omega) ?_
        obtain ⟨nA, nB, ex, fe, fl9, fh9, tl9, th9, im9, hM9⟩ := hI.ma
        refine zG_cQV rfl rfl hM9.1 rfl rfl (ct_wholeMaps (by omega) hI.ma (hI.sp i hi) (hI.sp j hj) hP.ok hP2.ok (by unfold zmN; omega) (by unfold zmN; omega)) (fun h3 hB => ?_)
        have hF := hF.tr (hB.1.mono zcR_m)
        have hI := hI.u_ma hB.2 hB.1
        -- leaf 3
        exact zG_ret rfl rfl (zfin (by rw [zo_maps, zb_i hi (by omega), zb_i hj (by omega), if_neg (by omega)]) hF hI)
      · skip
        refine zG_s rfl rfl ?_
        -- leaf 4
        exact zG_ret rfl rfl (zfin (by rw [zo_maps, zb_i hi (by omega), zb_i hj (by omega), if_pos c6]) hF hI)
theorem co_fence {d : Nat} {h : zH} {s : zST} {a b c e : Int32} (hI : zCI h s) (hW : zWT s) : zCallP (d + 5) 118 [.ref 2, .int a, .int b, .int c, .int e] h (zOut h (zo_fence s a b c e)) := by
  have hF : zFr zcR h h := zFr.rf
  refine zG_mP (t := tX9_fence) (ls0 := [.ref 2, .int a, .int b, .int c, .int e, .null, .null]) rfl rfl (zdnR (zdnI (zdnI (zdnI (zdnI zdn0))))) rfl ?_
  refine zG_s rfl rfl ?_
  refine zG_cS1 rfl rfl ct_isSpace ?_
  refine zN_ifb rfl (fun c1 => ?_) (fun c2 => ?_)
  · skip
    refine zG_s rfl rfl ?_
    -- leaf 1
    exact zG_ret rfl rfl (zfin (by rw [zo_fence, zb_no c1]) hF hI)
  · skip
    obtain ⟨i, hi, rfl⟩ := zin_of c2 (by omega)
    refine zG_s rfl rfl ?_
    refine zG_cS1 rfl rfl ct_isSpace ?_
    refine zN_ifb rfl (fun c3 => ?_) (fun c4 => ?_)
    · skip
      refine zG_s rfl rfl ?_
      -- leaf 2
      exact zG_ret rfl rfl (zfin (by rw [zo_fence, zb_i hi (by omega), zb_no c3]) hF hI)
    · skip
      obtain ⟨j, hj, rfl⟩ := zin_of c4 (by omega)
      have hP := hW.1 i hi
      have hP2 := hW.1 j hj
      have hn := hP.1
      refine zG_s rfl rfl ?_
      refine zN_get rfl hI.ob rfl ?_
      refine zG_s rfl rfl ?_
      refine zN_qa (tt := 0) rfl hI.as (by omega) (by omega) ?_
      refine zN_get rfl (hI.sp _ (by omega)).1 rfl ?_
      refine zG_s rfl rfl ?_
      refine zN_ile (y := 3) rfl (by omega) (by omega) (fun c5 => ?_) (fun c6 => ?_)
      · skip
        refine zG_s rfl rfl ?_
        refine zN_get rfl hI.ob rfl ?_
        refine zG_s rfl rfl ?_
        refine zN_qa (tt := 0) rfl hI.as (by omega) (by omega) ?_
        refine zN_sta5 rfl (fun _ _ _ => rfl) rfl ?_
        refine zG_s rfl rfl ?_
        refine zN_get rfl hI.ob rfl ?_
        refine zG_s rfl rfl ?_
        refine zN_qa (tt := 0) rfl hI.as (by omega) (by omega) ?_
        refine zN_sta6 rfl (fun _ _ _ => rfl) rfl ?_
        refine zG_s rfl rfl ?_
        refine zG_s rfl rfl ?_
        refine zG_s rfl rfl ?_
        refine zG_cS1 rfl rfl (ct_isWhole (hI.sp i hi) (hI.sp j hj) hP.ok hP2.ok) ?_
        first | refine zN_ifb rfl (fun c7 => ?_) (fun c8 => ?_) | refine zN_eq0 rfl (by omega) (fun c7 => ?_) (fun c8 => ?_)
        · skip
          refine zG_s rfl rfl ?_
          -- leaf 3
          exact zG_ret rfl rfl (zfin (by rw [zo_fence, zb_i hi (by omega), zb_i hj (by omega), if_neg (by omega), if_neg (by rw [c7]; simp)]) hF hI)
        · skip
          refine zG_s rfl rfl ?_
          refine zG_s rfl rfl ?_
          refine zG_s rfl rfl ?_
          refine zG_cS1 rfl rfl (ct_isWhole (hI.sp i hi) (hI.sp j hj) hP.ok hP2.ok) ?_
          first | refine zN_ifnb rfl (fun c9 => ?_) (fun c10 => ?_) | refine zN_ne0 rfl (by omega) (fun c9 => ?_) (fun c10 => ?_)
          · skip
            obtain ⟨u, u1, u2, rfl, u4, u5⟩ := zWh_w hn c8
            obtain ⟨v, v1, v2, rfl, v4, v5⟩ := zWh_w hn c9
            refine zG_s rfl rfl ?_
            refine zN_get rfl hI.ob rfl ?_
            refine zG_s rfl rfl ?_
            refine zG_s rfl rfl ?_
            refine zG_s rfl rfl ?_
            refine zG_s rfl rfl ?_
            obtain ⟨fr9, qu9, hZ⟩ := hI.fe
            refine zG_cVP rfl rfl hZ.1 rfl rfl (ct_fsteps (by omega) hZ (hI.sp i hi) (hI.sp j hj) hP.ok hP2.ok (by unfold zfN; omega) (by unfold zfN; omega) (by omega) u1 v1 u5) (fun w3 h3 hB => ?_)
            obtain ⟨w9, hw9, e9, hF3, hZ3⟩ := hB
            have e9 : w3 = some (.int w9) := e9
            subst e9
            have hF := hF.tr (hF3.mono zcR_f)
            have hI := hI.u_fe hZ3 hF3
            -- leaf 4
            exact zG_ret rfl rfl (zfin (by rw [zo_fence, zb_i hi (by omega), zb_i hj (by omega), if_neg (by omega), if_pos (by rw [c8, c9]; rfl), u4, v4, zFdW_eq hw9]) hF hI)
          · skip
            refine zG_s rfl rfl ?_
            -- leaf 5
            exact zG_ret rfl rfl (zfin (by rw [zo_fence, zb_i hi (by omega), zb_i hj (by omega), if_neg (by omega), if_neg (by rw [c10]; simp)]) hF hI)
      · skip
        refine zG_s rfl rfl ?_
        -- leaf 6
        exact zG_ret rfl rfl (zfin (by rw [zo_fence, zb_i hi (by omega), zb_i hj (by omega), if_pos c6]) hF hI)
theorem co_fixed {d : Nat} {h : zH} {s : zST} {a c : Int32} (hI : zCI h s) (hW : zWT s) : zCallP (d + 4) 119 [.ref 2, .int a, .int c] h (zOut h (zo_fixed s a c)) := by
  have hF : zFr zcR h h := zFr.rf
  refine zG_mP (t := tX9_fixed) (ls0 := [.ref 2, .int a, .int c, .null, .null]) rfl rfl (zdnR (zdnI (zdnI zdn0))) rfl ?_
  refine zG_s rfl rfl ?_
  refine zG_cS1 rfl rfl ct_isSpace ?_
  refine zN_ifb rfl (fun c1 => ?_) (fun c2 => ?_)
  · skip
    refine zG_s rfl rfl ?_
    -- leaf 1
    exact zG_ret rfl rfl (zfin (by rw [zo_fixed, zb_no c1]) hF hI)
  · skip
    obtain ⟨i, hi, rfl⟩ := zin_of c2 (by omega)
    have hP := hW.1 i hi
    have hn := hP.1
    refine zG_s rfl rfl ?_
    refine zN_get rfl hI.ob rfl ?_
    refine zG_s rfl rfl ?_
    refine zN_qa (tt := 0) rfl hI.as (by omega) (by omega) ?_
    refine zG_s rfl rfl ?_
    refine zN_get rfl hI.ob rfl ?_
    refine zG_s rfl rfl ?_
    refine zN_qa (tt := 0) rfl hI.as (by omega) (by omega) ?_
    refine zG_s rfl rfl ?_
    refine zG_cS1 rfl rfl (ct_isWhole (hI.sp i hi) (hI.sp i hi) hP.ok hP.ok) ?_
    first | refine zN_ifnb rfl (fun c3 => ?_) (fun c4 => ?_) | refine zN_ne0 rfl (by omega) (fun c3 => ?_) (fun c4 => ?_)
    · skip
      obtain ⟨w, w1, w2, rfl, w4, w5⟩ := zWh_w hn c3
      refine zG_s rfl rfl ?_
      refine zN_st3 rfl (fun _ _ _ => rfl) rfl ?_
      refine zG_s rfl rfl ?_
      refine zN_st4 rfl (fun _ _ _ => rfl) rfl ?_
      have main33 : ∀ x, x ≤ (s.1 i).1 → zGoP (d + 3) tX9_fixed 33 [.ref 2, .int (nI i), .int (nI w), .int (nI (zbits (fun x => decide (zDig w x = x)) x)), .int (nI x)] [] h (zOut h (zo_fixed s (nI i) (nI w))) := by
        refine zdown ((s.1 i).1) ?_ (fun x hp33 ih33 => ?_)
        · skip
          refine zG_s rfl rfl ?_
          refine zG_s rfl rfl ?_
          refine zN_get rfl hI.ob rfl ?_
          refine zG_s rfl rfl ?_
          refine zN_qa (tt := 0) rfl hI.as (by omega) (by omega) ?_
          refine zN_get rfl (hI.sp _ (by omega)).1 rfl ?_
          refine zN_ige rfl (by omega) (by omega) (fun c5 => ?_) (fun c6 => absurd c6 (by omega))
          refine zG_s rfl rfl ?_
          -- leaf 2
          exact zG_ret rfl rfl (zfin (by rw [zo_fixed, zb_i hi (by omega), if_pos c3, w4]) hF hI)
        · skip
          have hdl := zDig_lt w x
          refine zG_s rfl rfl ?_
          refine zG_s rfl rfl ?_
          refine zN_get rfl hI.ob rfl ?_
          refine zG_s rfl rfl ?_
          refine zN_qa (tt := 0) rfl hI.as (by omega) (by omega) ?_
          refine zN_get rfl (hI.sp _ (by omega)).1 rfl ?_
          refine zN_ige rfl (by omega) (by omega) (fun c7 => absurd c7 (by omega)) (fun c8 => ?_)
          refine zG_s rfl rfl ?_
          refine zG_s rfl rfl ?_
          refine zG_cS1 rfl rfl (ct_digit (by omega) (by omega)) ?_
          refine zG_s rfl rfl ?_
          refine zN_ine rfl (by omega) (by omega) (fun c9 => ?_) (fun c10 => ?_)
          · skip
            refine zN_inc4 rfl rfl ?_
            refine zG_s rfl rfl ?_
            -- leaf 3
            rw [zbits_no (decide_eq_false c9)] at ih33
            exact ih33
          · skip
            refine zG_s rfl rfl ?_
            refine zG_s rfl rfl ?_
            refine zG_s rfl rfl ?_
            refine zN_shl (x := 1) rfl (by omega) ?_
            refine zN_or rfl ?_
            refine zN_st3 rfl (fun _ _ _ => rfl) rfl ?_
            refine zN_inc4 rfl rfl ?_
            refine zG_s rfl rfl ?_
            -- leaf 4
            rw [zbits_yes (decide_eq_true c10)] at ih33
            exact ih33
      exact main33 0 (by omega)
    · skip
      refine zG_s rfl rfl ?_
      -- leaf 5
      exact zG_ret rfl rfl (zfin (by rw [zo_fixed, zb_i hi (by omega), if_neg (by rw [c4]; simp)]) hF hI)
