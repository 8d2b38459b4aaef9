theorem co_points {d : Nat} {h : zH} {s : zST} {a b : Int32} (hI : zCI h s) (hW : zWT s) : zCallP (d + 2) 98 [.ref 2, .int a, .int b] h (zOut h (zo_points s a b)) := by
  have hF : zFr zcR h h := zFr.rf
  refine zG_mP (t := tX9_points) (ls0 := [.ref 2, .int a, .int b, .null]) rfl rfl (zdnR (zdnI (zdnI zdn0))) rfl ?_
  refine zG_s rfl rfl ?_
  refine zG_cS1 rfl rfl ct_isSpace ?_
  refine zN_ifb rfl (fun c1 => ?_) (fun c2 => ?_)
  · skip
    refine zG_s rfl rfl ?_
    -- leaf 1
    exact zG_ret rfl rfl (zfin (by rw [zo_points, zb_no c1]) hF hI)
  · skip
    obtain ⟨i, hi, rfl⟩ := zin_of c2 (by omega)
    refine zG_s rfl rfl ?_
    refine zG_cS1 rfl rfl ct_isSize ?_
    refine zN_ifnb rfl (fun c3 => ?_) (fun c4 => ?_)
    · skip
      obtain ⟨m, hm, rfl⟩ := zin_of c3 (by omega)
      refine zG_s rfl rfl ?_
      refine zN_get rfl hI.ob rfl ?_
      refine zG_s rfl rfl ?_
      refine zN_qa (tt := 0) rfl hI.as (by omega) (by omega) ?_
      refine zN_get rfl (hI.sp _ (by omega)).1 rfl ?_
      refine zN_st3 rfl (fun _ _ _ => rfl) rfl ?_
      refine zG_s rfl rfl ?_
      refine zN_get rfl hI.ob rfl ?_
      refine zG_s rfl rfl ?_
      refine zN_qa (tt := 0) rfl hI.as (by omega) (by omega) ?_
      refine zG_s rfl rfl ?_
      refine zG_cQN rfl rfl (hI.sp i hi).1 rfl rfl (cs_scatter (by omega) (hI.sp i hi) (by omega)) (fun h1 hB => ?_)
      have hF := hF.tr (hB.1.mono (zcR_s (by omega) (by omega)))
      have hI := hI.u_sp hi hB.2 hB.1
      refine zG_s rfl rfl ?_
      -- leaf 2
      exact zG_ret rfl rfl (zfin (by rw [zo_points, zb_i hi (by omega), zb_i hm (by omega)]; first | done | rfl) hF hI)
    · skip
      refine zG_s rfl rfl ?_
      -- leaf 3
      exact zG_ret rfl rfl (zfin (by rw [zo_points, zb_i hi (by omega), zb_no c4]) hF hI)
theorem co_nest {d : Nat} {h : zH} {s : zST} {a b c : Int32} (hI : zCI h s) (hW : zWT s) : zCallP (d + 3) 99 [.ref 2, .int a, .int b, .int c] h (zOut h (zo_nest s a b c)) := by
  have hF : zFr zcR h h := zFr.rf
  refine zG_mP (t := tX9_nest) (ls0 := [.ref 2, .int a, .int b, .int c]) rfl rfl (zdnR (zdnI (zdnI (zdnI zdn0)))) rfl ?_
  refine zG_s rfl rfl ?_
  refine zG_cS1 rfl rfl ct_isSpace ?_
  refine zN_ifb rfl (fun c1 => ?_) (fun c2 => ?_)
  · skip
    refine zG_s rfl rfl ?_
    -- leaf 1
    exact zG_ret rfl rfl (zfin (by rw [zo_nest, zb_no c1]) hF hI)
  · skip
    obtain ⟨i, hi, rfl⟩ := zin_of c2 (by omega)
    have hP := hW.1 i hi
    have hn := hP.1
    refine zG_s rfl rfl ?_
    refine zN_get rfl hI.ob rfl ?_
    refine zG_s rfl rfl ?_
    refine zN_qa (tt := 0) rfl hI.as (by omega) (by omega) ?_
    refine zG_s rfl rfl ?_
    refine zG_cV1 rfl rfl (hI.sp i hi).1 rfl rfl (ct_hasPoint (hI.sp i hi).1 hn) ?_
    refine zN_ifb rfl (fun c3 => ?_) (fun c4 => ?_)
    · skip
      refine zG_s rfl rfl ?_
      -- leaf 2
      exact zG_ret rfl rfl (zfin (by rw [zo_nest, zb_i hi (by omega), zb_no c3]) hF hI)
    · skip
      obtain ⟨x, hx, rfl⟩ := zin_of c4 (by omega)
      refine zG_s rfl rfl ?_
      refine zN_get rfl hI.ob rfl ?_
      refine zG_s rfl rfl ?_
      refine zN_qa (tt := 0) rfl hI.as (by omega) (by omega) ?_
      refine zG_s rfl rfl ?_
      refine zG_cV1 rfl rfl (hI.sp i hi).1 rfl rfl (ct_hasPoint (hI.sp i hi).1 hn) ?_
      refine zN_ifnb rfl (fun c5 => ?_) (fun c6 => ?_)
      · skip
        obtain ⟨y, hy, rfl⟩ := zin_of c5 (by omega)
        refine zG_s rfl rfl ?_
        refine zN_get rfl hI.ob rfl ?_
        refine zG_s rfl rfl ?_
        refine zN_qa (tt := 0) rfl hI.as (by omega) (by omega) ?_
        refine zG_s rfl rfl ?_
        refine zG_s rfl rfl ?_
        refine zG_cQV rfl rfl (hI.sp i hi).1 rfl rfl (cs_enclose (by omega) (hI.sp i hi) hP hx hy) (fun h1 hB => ?_)
        have hF := hF.tr (hB.1.mono (zcR_s (by omega) (by omega)))
        have hI := hI.u_sp hi hB.2 hB.1
        -- leaf 3
        exact zG_ret rfl rfl (zfin (by rw [zo_nest, zb_i hi (by omega), zb_i hx (by omega), zb_i hy (by omega)]; first | done | rfl) hF hI)
      · skip
        refine zG_s rfl rfl ?_
        -- leaf 4
        exact zG_ret rfl rfl (zfin (by rw [zo_nest, zb_i hi (by omega), zb_i hx (by omega), zb_no c6]) hF hI)
theorem co_of {d : Nat} {h : zH} {s : zST} {a b c : Int32} (hI : zCI h s) (hW : zWT s) : zCallP (d + 7) 100 [.ref 2, .int a, .int b, .int c] h (zOut h (zo_of s a b c)) := by
  have hF : zFr zcR h h := zFr.rf
  refine zG_mP (t := tX9_of) (ls0 := [.ref 2, .int a, .int b, .int c, .null]) rfl rfl (zdnR (zdnI (zdnI (zdnI zdn0)))) rfl ?_
  refine zG_s rfl rfl ?_
  refine zG_cS1 rfl rfl ct_isSpace ?_
  refine zN_ifb rfl (fun c1 => ?_) (fun c2 => ?_)
  · skip
    refine zG_s rfl rfl ?_
    -- leaf 1
    exact zG_ret rfl rfl (zfin (by rw [zo_of, zb_no c1]) hF hI)
  · skip
    obtain ⟨i, hi, rfl⟩ := zin_of c2 (by omega)
    have hP := hW.1 i hi
    have hn := hP.1
    obtain ⟨s1, fl, fh, s2, s3, sv⟩ := hI.sp i hi
    refine zG_s rfl rfl ?_
    refine zN_get rfl hI.ob rfl ?_
    refine zG_s rfl rfl ?_
    refine zN_qa (tt := 0) rfl hI.as (by omega) (by omega) ?_
    refine zG_s rfl rfl ?_
    refine zG_cV1 rfl rfl s1 rfl rfl (ct_hasPoint s1 hn) ?_
    refine zN_ifnb rfl (fun c3 => ?_) (fun c4 => ?_)
    · skip
      obtain ⟨x, hx, rfl⟩ := zin_of c3 (by omega)
      refine zG_s rfl rfl ?_
      refine zN_get rfl hI.ob rfl ?_
      refine zG_s rfl rfl ?_
      refine zN_qa (tt := 0) rfl hI.as (by omega) (by omega) ?_
      refine zN_sta4 rfl (fun _ _ _ => rfl) rfl ?_
      refine zG_s rfl rfl ?_
      rcases zcs6 c with c5 | c6 | c7 | c8 | c9 | c10 | c11
      · skip
        subst c5
        refine zG_s rfl rfl ?_
        refine zG_s rfl rfl ?_
        refine zN_get rfl s1 rfl ?_
        refine zG_s rfl rfl ?_
        refine zN_ald rfl s2 (by omega) (by omega) (sv x hx).1 ?_
        -- leaf 2
        exact zG_ret rfl rfl (zfin (by rw [zo_of, zb_i hi (by omega), zb_i hx (by omega), zb_i (show 0 < 6 by decide) (by omega)]; first | done | rfl) hF hI)
      · skip
        subst c6
        refine zG_s rfl rfl ?_
        refine zG_s rfl rfl ?_
        refine zN_get rfl s1 rfl ?_
        refine zG_s rfl rfl ?_
        refine zN_ald rfl s3 (by omega) (by omega) (sv x hx).2 ?_
        -- leaf 3
        exact zG_ret rfl rfl (zfin (by rw [zo_of, zb_i hi (by omega), zb_i hx (by omega), zb_i (show 1 < 6 by decide) (by omega)]; first | done | rfl) hF hI)
      · skip
        subst c7
        refine zG_s rfl rfl ?_
        refine zG_s rfl rfl ?_
        refine zG_s rfl rfl ?_
        refine zG_cV1 rfl rfl s1 rfl rfl (ct_height ⟨hI.sp i hi, hP.ok⟩ hx) ?_
        -- leaf 4
        exact zG_ret rfl rfl (zfin (by rw [zo_of, zb_i hi (by omega), zb_i hx (by omega), zb_i (show 2 < 6 by decide) (by omega)]; first | done | rfl) hF hI)
      · skip
        subst c8
        refine zG_s rfl rfl ?_
        refine zG_s rfl rfl ?_
        refine zN_get rfl s1 rfl ?_
        refine zG_s rfl rfl ?_
        refine zN_ald rfl s2 (by omega) (by omega) (sv x hx).1 ?_
        refine zG_s rfl rfl ?_
        refine zN_get rfl s1 rfl ?_
        refine zG_s rfl rfl ?_
        refine zN_ald rfl s3 (by omega) (by omega) (sv x hx).2 ?_
        refine zN_and rfl ?_
        -- leaf 5
        exact zG_ret rfl rfl (zfin (by rw [zo_of, zb_i hi (by omega), zb_i hx (by omega), zb_i (show 3 < 6 by decide) (by omega)]; first | done | rfl) hF hI)
      · skip
        subst c9
        refine zG_s rfl rfl ?_
        refine zG_s rfl rfl ?_
        refine zG_s rfl rfl ?_
        refine zG_cV1 rfl rfl s1 rfl rfl (ct_component ⟨hI.sp i hi, hP.ok⟩ hx) ?_
        -- leaf 6
        exact zG_ret rfl rfl (zfin (by rw [zo_of, zb_i hi (by omega), zb_i hx (by omega), zb_i (show 4 < 6 by decide) (by omega)]; first | done | rfl) hF hI)
      · skip
        subst c10
        refine zG_s rfl rfl ?_
        refine zG_s rfl rfl ?_
        refine zN_get rfl hI.ob rfl ?_
        refine zG_s rfl rfl ?_
        obtain ⟨n9, ec, gl, gh, gb, ga, gt, gs, gr, ge, gm, hG⟩ := hI.go
        refine zG_cQN rfl rfl hG.o rfl rfl (ct_enter (by omega) hG (hI.sp i hi) hP.ok (by unfold zgN; omega)) (fun h1 hA => ?_)
        have hI0 := hI
        have hI := hI0.u_go hA.x hA.1
        have hF := hA.1.mono zcR_g
        refine zG_s rfl rfl ?_
        refine zN_get rfl hI.ob rfl ?_
        refine zG_s rfl rfl ?_
        obtain ⟨gl, gh, gb, ga, gt, gs, hG⟩ := hA.g
        refine zG_cQV rfl rfl hG.o rfl rfl (ct_beatsOf (by omega) hA hP.ok hP.rf hx) (fun h2 hA2 => ?_)
        have hI := hI0.u_go hA2.x hA2.1
        have hF := hA2.1.mono zcR_g
        -- leaf 7
        exact zG_ret rfl rfl (zfin (by rw [zo_of, zb_i hi (by omega), zb_i hx (by omega), zb_i (show 5 < 6 by decide) (by omega)]; first | done | rfl) hF hI)
      · skip
        refine zN_tsd (p2 := 132) rfl (zin_out (by decide) c11) rfl ?_
        refine zG_s rfl rfl ?_
        -- leaf 8
        exact zG_ret rfl rfl (zfin (by rw [zo_of, zb_i hi (by omega), zb_i hx (by omega), zb_no c11]) hF hI)
    · skip
      refine zG_s rfl rfl ?_
      -- leaf 9
      exact zG_ret rfl rfl (zfin (by rw [zo_of, zb_i hi (by omega), zb_no c4]) hF hI)
theorem co_about {d : Nat} {h : zH} {s : zST} {a b c : Int32} (hI : zCI h s) (hW : zWT s) : zCallP (d + 4) 101 [.ref 2, .int a, .int b, .int c] h (zOut h (zo_about s a b c)) := by
  have hF : zFr zcR h h := zFr.rf
  refine zG_mP (t := tX9_about) (ls0 := [.ref 2, .int a, .int b, .int c, .null, .null]) rfl rfl (zdnR (zdnI (zdnI (zdnI zdn0)))) rfl ?_
  refine zG_s rfl rfl ?_
  refine zG_cS1 rfl rfl ct_isSpace ?_
  refine zN_ifb rfl (fun c1 => ?_) (fun c2 => ?_)
  · skip
    refine zG_s rfl rfl ?_
    -- leaf 1
    exact zG_ret rfl rfl (zfin (by rw [zo_about, zb_no c1]) hF hI)
  · skip
    obtain ⟨i, hi, rfl⟩ := zin_of c2 (by omega)
    have hP := hW.1 i hi
    have hn := hP.1
    have hS := hI.sp i hi
    have s1 := hS.1
    have hn2 := zpow_le hn
    refine zG_s rfl rfl ?_
    refine zN_get rfl hI.ob rfl ?_
    refine zG_s rfl rfl ?_
    refine zN_qa (tt := 0) rfl hI.as (by omega) (by omega) ?_
    refine zG_s rfl rfl ?_
    refine zG_cV1 rfl rfl s1 rfl rfl (ct_hasSet s1 hn) ?_
    refine zN_ifnb rfl (fun c3 => ?_) (fun c4 => ?_)
    · skip
      obtain ⟨p, hp, rfl⟩ := zin_of c3 (by omega)
      refine zG_s rfl rfl ?_
      refine zN_get rfl hI.ob rfl ?_
      refine zG_s rfl rfl ?_
      refine zN_qa (tt := 0) rfl hI.as (by omega) (by omega) ?_
      refine zN_sta4 rfl (fun _ _ _ => rfl) rfl ?_
      refine zG_s rfl rfl ?_
      rcases zcs4 c with c5 | c6 | c7 | c8 | c9
      · skip
        subst c5
        refine zG_s rfl rfl ?_
        refine zG_s rfl rfl ?_
        refine zG_s rfl rfl ?_
        refine zG_cV1 rfl rfl s1 rfl rfl (ct_inside hS hn (by omega) (fun x hx => hP.b hx)) ?_
        -- leaf 2
        exact zG_ret rfl rfl (zfin (by rw [zo_about, zb_i hi (by omega), zb_i hp (by omega), zb_i (show 0 < 4 by decide) (by omega)]; first | done | rfl) hF hI)
      · skip
        subst c6
        refine zG_s rfl rfl ?_
        refine zG_s rfl rfl ?_
        refine zG_s rfl rfl ?_
        refine zG_cV1 rfl rfl s1 rfl rfl (ct_closure ⟨hS, hP.ok⟩ (by omega)) ?_
        -- leaf 3
        exact zG_ret rfl rfl (zfin (by rw [zo_about, zb_i hi (by omega), zb_i hp (by omega), zb_i (show 1 < 4 by decide) (by omega)]; first | done | rfl) hF hI)
      · skip
        subst c7
        refine zG_s rfl rfl ?_
        refine zG_s rfl rfl ?_
        refine zG_s rfl rfl ?_
        refine zG_cV1 rfl rfl s1 rfl rfl (ct_closure ⟨hS, hP.ok⟩ (by omega)) ?_
        refine zG_s rfl rfl ?_
        refine zG_s rfl rfl ?_
        refine zG_cV1 rfl rfl s1 rfl rfl (ct_inside hS hn (by omega) (fun x hx => hP.b hx)) ?_
        refine zG_s rfl rfl ?_
        refine zN_not rfl ?_
        refine zN_andn rfl ?_
        -- leaf 4
        exact zG_ret rfl rfl (zfin (by rw [zo_about, zb_i hi (by omega), zb_i hp (by omega), zb_i (show 2 < 4 by decide) (by omega)]; first | done | rfl) hF hI)
      · skip
        subst c8
        refine zG_s rfl rfl ?_
        refine zG_s rfl rfl ?_
        refine zG_cV1 rfl rfl s1 rfl rfl (ct_all s1 hn) ?_
        refine zG_s rfl rfl ?_
        refine zG_s rfl rfl ?_
        refine zN_not rfl ?_
        refine zN_andn rfl ?_
        have hz8 : zan (1 <<< (s.1 i).1 - 1) p < 256 := Nat.lt_of_le_of_lt (zan_le _ _) (by omega)
        have hz7 : zIns (s.1 i).1 (s.1 i).2 p < 256 := zbits_lt8 _ hn
        have hz6 : zIns (s.1 i).1 (s.1 i).2 (zan (1 <<< (s.1 i).1 - 1) p) < 256 := zbits_lt8 _ hn
        refine zN_st5 rfl (fun _ _ _ => rfl) rfl ?_
        refine zG_s rfl rfl ?_
        refine zG_s rfl rfl ?_
        refine zG_cV1 rfl rfl s1 rfl rfl (ct_inside hS hn (by omega) (fun x hx => hP.b hx)) ?_
        rw [show zbits (fun x => p.testBit x && decide (zan ((s.1 i).2 x) p = 0)) (s.1 i).1 = zIns (s.1 i).1 (s.1 i).2 p from rfl]
        refine zG_s rfl rfl ?_
        have jn116 : ∀ w : Nat, w = (if zIns (s.1 i).1 (s.1 i).2 p = p then 1 else 0) → zGoP (d + 3) tX9_about 116 [.ref 2, .int (nI i), .int (nI p), .int (nI 3), .ref (68 + 6 * i), .int (nI (zan (1 <<< (s.1 i).1 - 1) p))] [.int (nI w)] h (zOut h (zo_about s (nI i) (nI p) (nI 3))) := by
          intro w ew
          refine zG_s rfl rfl ?_
          refine zG_s rfl rfl ?_
          refine zG_cV1 rfl rfl s1 rfl rfl (ct_inside hS hn (by omega) (fun x hx => hP.b hx)) ?_
          rw [show zbits (fun x => (zan (1 <<< (s.1 i).1 - 1) p).testBit x && decide (zan ((s.1 i).2 x) (zan (1 <<< (s.1 i).1 - 1) p) = 0)) (s.1 i).1 = zIns (s.1 i).1 (s.1 i).2 (zan (1 <<< (s.1 i).1 - 1) p) from rfl]
          refine zG_s rfl rfl ?_
          have jn133 : ∀ w2 : Nat, w2 = (if zIns (s.1 i).1 (s.1 i).2 (zan (1 <<< (s.1 i).1 - 1) p) = zan (1 <<< (s.1 i).1 - 1) p then 2 else 0) → zGoP (d + 3) tX9_about 133 [.ref 2, .int (nI i), .int (nI p), .int (nI 3), .ref (68 + 6 * i), .int (nI (zan (1 <<< (s.1 i).1 - 1) p))] [.int (nI w2), .int (nI w)] h (zOut h (zo_about s (nI i) (nI p) (nI 3))) := by
            intro w2 ew2
            refine zN_add rfl ?_
            -- leaf 5
            exact zG_ret rfl rfl (zfin (by rw [zo_about, zb_i hi (by omega), zb_i hp (by omega), zb_i (show 3 < 4 by decide) (by omega), ew, ew2]; rfl) hF hI)
          refine zN_ine rfl (by omega) (by omega) (fun c10 => ?_) (fun c11 => ?_)
          · skip
            refine zG_s rfl rfl ?_
            -- leaf 6
            exact jn133 0 (by rw [if_neg (fun g => c10 g)])
          · skip
            refine zG_s rfl rfl ?_
            refine zG_s rfl rfl ?_
            -- leaf 7
            exact jn133 2 (by rw [if_pos c11])
        refine zN_ine rfl (by omega) (by omega) (fun c12 => ?_) (fun c13 => ?_)
        · skip
          refine zG_s rfl rfl ?_
          -- leaf 8
          exact jn116 0 (by rw [if_neg (fun g => c12 g)])
        · skip
          refine zG_s rfl rfl ?_
          refine zG_s rfl rfl ?_
          -- leaf 9
          exact jn116 1 (by rw [if_pos c13])
      · skip
        refine zN_tsd (p2 := 135) rfl (zin_out (by decide) c9) rfl ?_
        refine zG_s rfl rfl ?_
        -- leaf 10
        exact zG_ret rfl rfl (zfin (by rw [zo_about, zb_i hi (by omega), zb_i hp (by omega), zb_no c9]) hF hI)
    · skip
      refine zG_s rfl rfl ?_
      -- leaf 11
      exact zG_ret rfl rfl (zfin (by rw [zo_about, zb_i hi (by omega), zb_no c4]) hF hI)
theorem co_told {d : Nat} {h : zH} {s : zST} {a b : Int32} (hI : zCI h s) (hW : zWT s) : zCallP (d + 5) 102 [.ref 2, .int a, .int b] h (zOut h (zo_told s a b)) := by
  have hF : zFr zcR h h := zFr.rf
  refine zG_mP (t := tX9_told) (ls0 := [.ref 2, .int a, .int b, .null]) rfl rfl (zdnR (zdnI (zdnI zdn0))) rfl ?_
  refine zG_s rfl rfl ?_
  refine zG_cS1 rfl rfl ct_isSpace ?_
  refine zN_ifnb rfl (fun c1 => ?_) (fun c2 => ?_)
  · skip
    obtain ⟨i, hi, rfl⟩ := zin_of c1 (by omega)
    have hP := hW.1 i hi
    have hn := hP.1
    have hS := hI.sp i hi
    have s1 := hS.1
    refine zG_s rfl rfl ?_
    refine zN_get rfl hI.ob rfl ?_
    refine zG_s rfl rfl ?_
    refine zN_qa (tt := 0) rfl hI.as (by omega) (by omega) ?_
    refine zN_sta3 rfl (fun _ _ _ => rfl) rfl ?_
    refine zG_s rfl rfl ?_
    rcases zcs7 b with c3 | c4 | c5 | c6 | c7 | c8 | c9 | c10
    · skip
      subst c3
      refine zG_s rfl rfl ?_
      refine zG_s rfl rfl ?_
      refine zN_get rfl (hI.sp _ (by omega)).1 rfl ?_
      -- leaf 1
      exact zG_ret rfl rfl (zfin (by rw [zo_told, zb_i hi (by omega), zb_i (show 0 < 7 by decide) (by omega)]; first | done | rfl) hF hI)
    · skip
      subst c4
      refine zG_s rfl rfl ?_
      refine zG_s rfl rfl ?_
      refine zG_cV1 rfl rfl s1 rfl rfl (ct_strictPairs ⟨hS, hP.ok⟩) ?_
      -- leaf 2
      exact zG_ret rfl rfl (zfin (by rw [zo_told, zb_i hi (by omega), zb_i (show 1 < 7 by decide) (by omega)]; first | done | rfl) hF hI)
    · skip
      subst c5
      refine zG_s rfl rfl ?_
      refine zG_s rfl rfl ?_
      refine zG_cV1 rfl rfl s1 rfl rfl (ct_covers ⟨hS, hP.ok⟩) ?_
      -- leaf 3
      exact zG_ret rfl rfl (zfin (by rw [zo_told, zb_i hi (by omega), zb_i (show 2 < 7 by decide) (by omega)]; first | done | rfl) hF hI)
    · skip
      subst c6
      refine zG_s rfl rfl ?_
      refine zG_s rfl rfl ?_
      refine zG_cV1 rfl rfl s1 rfl rfl (ct_components ⟨hS, hP.ok⟩) ?_
      -- leaf 4
      exact zG_ret rfl rfl (zfin (by rw [zo_told, zb_i hi (by omega), zb_i (show 3 < 7 by decide) (by omega)]; first | done | rfl) hF hI)
    · skip
      subst c7
      refine zG_s rfl rfl ?_
      refine zG_s rfl rfl ?_
      refine zN_get rfl (hI.sp _ (by omega)).1 rfl ?_
      first | refine zN_ifnb rfl (fun c11 => ?_) (fun c12 => ?_) | refine zN_ne0 rfl (by omega) (fun c11 => ?_) (fun c12 => ?_)
      · skip
        refine zG_s rfl rfl ?_
        refine zG_cV1 rfl rfl s1 rfl rfl (ct_greatestHeight ⟨hS, hP.ok⟩) ?_
        -- leaf 5
        exact zG_ret rfl rfl (zfin (by rw [zo_told, zb_i hi (by omega), zb_i (show 4 < 7 by decide) (by omega)]; show (if (s.1 i).1 = 0 then (-3 : Int32) else _, s) = _; rw [if_neg (by omega)]) hF hI)
      · skip
        refine zG_s rfl rfl ?_
        refine zG_s rfl rfl ?_
        -- leaf 6
        exact zG_ret rfl rfl (zfin (by rw [zo_told, zb_i hi (by omega), zb_i (show 4 < 7 by decide) (by omega)]; show (if (s.1 i).1 = 0 then (-3 : Int32) else _, s) = _; rw [if_pos c12]) hF hI)
    · skip
      subst c8
      refine zG_s rfl rfl ?_
      refine zG_s rfl rfl ?_
      refine zG_cV1 rfl rfl s1 rfl rfl (ct_openSets ⟨hS, hP.ok⟩) ?_
      -- leaf 7
      exact zG_ret rfl rfl (zfin (by rw [zo_told, zb_i hi (by omega), zb_i (show 5 < 7 by decide) (by omega)]; first | done | rfl) hF hI)
    · skip
      subst c9
      refine zG_s rfl rfl ?_
      refine zG_s rfl rfl ?_
      refine zG_cV1 rfl rfl s1 rfl rfl (ct_isPlain ⟨hS, hP.ok⟩) ?_
      first | refine zN_ifb rfl (fun c13 => ?_) (fun c14 => ?_) | refine zN_eq0 rfl (by omega) (fun c13 => ?_) (fun c14 => ?_)
      · skip
        refine zG_s rfl rfl ?_
        -- leaf 8
        exact zG_ret rfl rfl (zfin (by rw [zo_told, zb_i hi (by omega), zb_i (show 6 < 7 by decide) (by omega)]; show (nI (b2n (decide _)), s) = _; rw [c13]; rfl) hF hI)
      · skip
        refine zG_s rfl rfl ?_
        refine zG_s rfl rfl ?_
        -- leaf 9
        exact zG_ret rfl rfl (zfin (by rw [zo_told, zb_i hi (by omega), zb_i (show 6 < 7 by decide) (by omega)]; show (nI (b2n (decide _)), s) = _; rw [c14]; rfl) hF hI)
    · skip
      refine zN_tsd (p2 := 115) rfl (zin_out (by decide) c10) rfl ?_
      refine zG_s rfl rfl ?_
      -- leaf 10
      exact zG_ret rfl rfl (zfin (by rw [zo_told, zb_i hi (by omega), zb_no c10]) hF hI)
  · skip
    refine zG_s rfl rfl ?_
    -- leaf 11
    exact zG_ret rfl rfl (zfin (by rw [zo_told, zb_no c2]) hF hI)
theorem co_path {d : Nat} {h : zH} {s : zST} {a b c : Int32} (hI : zCI h s) (hW : zWT s) : zCallP (d + 4) 103 [.ref 2, .int a, .int b, .int c] h (zOut h (zo_path s a b c)) := by
  have hF : zFr zcR h h := zFr.rf
  refine zG_mP (t := tX9_path) (ls0 := [.ref 2, .int a, .int b, .int c]) rfl rfl (zdnR (zdnI (zdnI (zdnI zdn0)))) rfl ?_
  refine zG_s rfl rfl ?_
  refine zG_cS1 rfl rfl ct_isSpace ?_
  refine zN_ifb rfl (fun c1 => ?_) (fun c2 => ?_)
  · skip
    refine zG_s rfl rfl ?_
    -- leaf 1
    exact zG_ret rfl rfl (zfin (by rw [zo_path, zb_no c1]) hF hI)
  · skip
    obtain ⟨i, hi, rfl⟩ := zin_of c2 (by omega)
    have hP := hW.1 i hi
    have hn := hP.1
    have hS := hI.sp i hi
    refine zG_s rfl rfl ?_
    refine zN_get rfl hI.ob rfl ?_
    refine zG_s rfl rfl ?_
    refine zN_qa (tt := 0) rfl hI.as (by omega) (by omega) ?_
    refine zG_s rfl rfl ?_
    refine zG_cV1 rfl rfl hS.1 rfl rfl (ct_hasPoint hS.1 hn) ?_
    refine zN_ifb rfl (fun c3 => ?_) (fun c4 => ?_)
    · skip
      refine zG_s rfl rfl ?_
      -- leaf 2
      exact zG_ret rfl rfl (zfin (by rw [zo_path, zb_i hi (by omega), zb_no c3]) hF hI)
    · skip
      obtain ⟨x, hx, rfl⟩ := zin_of c4 (by omega)
      refine zG_s rfl rfl ?_
      refine zN_get rfl hI.ob rfl ?_
      refine zG_s rfl rfl ?_
      refine zN_qa (tt := 0) rfl hI.as (by omega) (by omega) ?_
      refine zG_s rfl rfl ?_
      refine zG_cV1 rfl rfl hS.1 rfl rfl (ct_hasPoint hS.1 hn) ?_
      refine zN_ifnb rfl (fun c5 => ?_) (fun c6 => ?_)
      · skip
        obtain ⟨y, hy, rfl⟩ := zin_of c5 (by omega)
        refine zG_s rfl rfl ?_
        refine zN_get rfl hI.ob rfl ?_
        refine zG_s rfl rfl ?_
        refine zN_qa (tt := 0) rfl hI.as (by omega) (by omega) ?_
        refine zG_s rfl rfl ?_
        refine zG_s rfl rfl ?_
        refine zG_cV1 rfl rfl hS.1 rfl rfl (ct_steps ⟨hS, hP.ok⟩ hx hy) ?_
        -- leaf 3
        exact zG_ret rfl rfl (zfin (by rw [zo_path, zb_i hi (by omega), zb_i hx (by omega), zb_i hy (by omega)]; first | done | rfl) hF hI)
      · skip
        refine zG_s rfl rfl ?_
        -- leaf 4
        exact zG_ret rfl rfl (zfin (by rw [zo_path, zb_i hi (by omega), zb_i hx (by omega), zb_no c6]) hF hI)
theorem co_may {d : Nat} {h : zH} {s : zST} {a b c : Int32} (hI : zCI h s) (hW : zWT s) : zCallP (d + 7) 104 [.ref 2, .int a, .int b, .int c] h (zOut h (zo_may s a b c)) := by
  have hF : zFr zcR h h := zFr.rf
  refine zG_mP (t := tX9_may) (ls0 := [.ref 2, .int a, .int b, .int c]) rfl rfl (zdnR (zdnI (zdnI (zdnI zdn0)))) rfl ?_
  refine zG_s rfl rfl ?_
  refine zG_cS1 rfl rfl ct_isSpace ?_
  refine zN_ifb rfl (fun c1 => ?_) (fun c2 => ?_)
  · skip
    refine zG_s rfl rfl ?_
    -- leaf 1
    exact zG_ret rfl rfl (zfin (by rw [zo_may, zb_no c1]) hF hI)
  · skip
    obtain ⟨i, hi, rfl⟩ := zin_of c2 (by omega)
    have hP := hW.1 i hi
    have hn := hP.1
    have hS := hI.sp i hi
    have hn2 := zpow_le hn
    refine zG_s rfl rfl ?_
    refine zG_cS1 rfl rfl ct_isKind ?_
    refine zN_ifb rfl (fun c3 => ?_) (fun c4 => ?_)
    · skip
      refine zG_s rfl rfl ?_
      -- leaf 2
      exact zG_ret rfl rfl (zfin (by rw [zo_may, zb_i hi (by omega), zb_no c3]) hF hI)
    · skip
      obtain ⟨k, hk, rfl⟩ := zin_of c4 (by omega)
      refine zG_s rfl rfl ?_
      refine zN_get rfl hI.ob rfl ?_
      refine zG_s rfl rfl ?_
      refine zN_qa (tt := 0) rfl hI.as (by omega) (by omega) ?_
      refine zG_s rfl rfl ?_
      refine zG_cV1 rfl rfl hS.1 rfl rfl (ct_hasSet hS.1 hn) ?_
      refine zN_ifnb rfl (fun c5 => ?_) (fun c6 => ?_)
      · skip
        obtain ⟨p, hp, rfl⟩ := zin_of c5 (by omega)
        refine zG_s rfl rfl ?_
        refine zN_get rfl hI.ob rfl ?_
        refine zG_s rfl rfl ?_
        refine zN_get rfl hI.ob rfl ?_
        refine zG_s rfl rfl ?_
        refine zN_qa (tt := 0) rfl hI.as (by omega) (by omega) ?_
        obtain ⟨n9, ec, gl, gh, gb, ga, gt, gs, gr, ge, gm, hG⟩ := hI.go
        refine zG_cQN rfl rfl hG.o rfl rfl (ct_enter (by omega) hG hS hP.ok (by unfold zgN; omega)) (fun h1 hA => ?_)
        have hI0 := hI
        have hI := hI0.u_go hA.x hA.1
        have hF := hA.1.mono zcR_g
        refine zG_s rfl rfl ?_
        refine zN_get rfl hI.ob rfl ?_
        refine zG_s rfl rfl ?_
        refine zG_s rfl rfl ?_
        obtain ⟨gl, gh, gb, ga, gt, gs, hG⟩ := hA.g
        refine zG_cQV rfl rfl hG.o rfl rfl (ct_goers (x := 0) (by omega) hA hP.ok hP.rf hk hp) (fun h2 hA2 => ?_)
        have hI := hI0.u_go hA2.x hA2.1
        have hF := hA2.1.mono zcR_g
        -- leaf 3
        exact zG_ret rfl rfl (zfin (by rw [zo_may, zb_i hi (by omega), zb_i hk (by omega), zb_i hp (by omega)]; first | done | rfl) hF hI)
      · skip
        refine zG_s rfl rfl ?_
        -- leaf 4
        exact zG_ret rfl rfl (zfin (by rw [zo_may, zb_i hi (by omega), zb_i hk (by omega), zb_no c6]) hF hI)
theorem co_price {d : Nat} {h : zH} {s : zST} {a b c : Int32} (hI : zCI h s) (hW : zWT s) : zCallP (d + 4) 105 [.ref 2, .int a, .int b, .int c] h (zOut h (zo_price s a b c)) := by
  have hF : zFr zcR h h := zFr.rf
  refine zG_mP (t := tX9_price) (ls0 := [.ref 2, .int a, .int b, .int c]) rfl rfl (zdnR (zdnI (zdnI (zdnI zdn0)))) rfl ?_
  refine zG_s rfl rfl ?_
  refine zG_cS1 rfl rfl ct_isSpace ?_
  refine zN_ifb rfl (fun c1 => ?_) (fun c2 => ?_)
  · skip
    refine zG_s rfl rfl ?_
    -- leaf 1
    exact zG_ret rfl rfl (zfin (by rw [zo_price, zb_no c1]) hF hI)
  · skip
    obtain ⟨i, hi, rfl⟩ := zin_of c2 (by omega)
    have hP := hW.1 i hi
    have hn := hP.1
    have hS := hI.sp i hi
    have hn2 := zpow_le hn
    refine zG_s rfl rfl ?_
    refine zG_cS1 rfl rfl ct_isKind ?_
    refine zN_ifb rfl (fun c3 => ?_) (fun c4 => ?_)
    · skip
      refine zG_s rfl rfl ?_
      -- leaf 2
      exact zG_ret rfl rfl (zfin (by rw [zo_price, zb_i hi (by omega), zb_no c3]) hF hI)
    · skip
      obtain ⟨k, hk, rfl⟩ := zin_of c4 (by omega)
      refine zG_s rfl rfl ?_
      refine zN_get rfl hI.ob rfl ?_
      refine zG_s rfl rfl ?_
      refine zN_qa (tt := 0) rfl hI.as (by omega) (by omega) ?_
      refine zG_s rfl rfl ?_
      refine zG_cV1 rfl rfl hS.1 rfl rfl (ct_hasPoint hS.1 hn) ?_
      refine zN_ifnb rfl (fun c5 => ?_) (fun c6 => ?_)
      · skip
        obtain ⟨x, hx, rfl⟩ := zin_of c5 (by omega)
        refine zG_s rfl rfl ?_
        refine zN_get rfl hI.ob rfl ?_
        refine zG_s rfl rfl ?_
        refine zN_get rfl hI.ob rfl ?_
        refine zG_s rfl rfl ?_
        refine zN_qa (tt := 0) rfl hI.as (by omega) (by omega) ?_
        obtain ⟨n9, ec, gl, gh, gb, ga, gt, gs, gr, ge, gm, hG⟩ := hI.go
        refine zG_cQN rfl rfl hG.o rfl rfl (ct_enter (by omega) hG hS hP.ok (by unfold zgN; omega)) (fun h1 hA => ?_)
        have hI0 := hI
        have hI := hI0.u_go hA.x hA.1
        have hF := hA.1.mono zcR_g
        refine zG_s rfl rfl ?_
        refine zN_get rfl hI.ob rfl ?_
        refine zG_s rfl rfl ?_
        refine zG_s rfl rfl ?_
        refine zG_s rfl rfl ?_
        refine zN_get rfl hI.ob rfl ?_
        refine zG_s rfl rfl ?_
        refine zN_qa (tt := 0) rfl hI.as (by omega) (by omega) ?_
        refine zG_cV1 rfl rfl (hI.sp i hi).1 rfl rfl (ct_all (hI.sp i hi).1 hn) ?_
        obtain ⟨-, gl, gh, gb, ga, gt, gs, hG, hV, hM⟩ := hA
        refine zG_cV1 rfl rfl hG.o rfl rfl (ct_priceOf hG hV hP.ok hk hx (by omega)) ?_
        -- leaf 3
        exact zG_ret rfl rfl (zfin (by rw [zo_price, zb_i hi (by omega), zb_i hk (by omega), zb_i hx (by omega)]; first | done | rfl) hF hI)
      · skip
        refine zG_s rfl rfl ?_
        -- leaf 4
        exact zG_ret rfl rfl (zfin (by rw [zo_price, zb_i hi (by omega), zb_i hk (by omega), zb_no c6]) hF hI)
theorem co_left {d : Nat} {h : zH} {s : zST} {a b c : Int32} (hI : zCI h s) (hW : zWT s) : zCallP (d + 8) 106 [.ref 2, .int a, .int b, .int c] h (zOut h (zo_left s a b c)) := by
  have hF : zFr zcR h h := zFr.rf
  refine zG_mP (t := tX9_left) (ls0 := [.ref 2, .int a, .int b, .int c]) rfl rfl (zdnR (zdnI (zdnI (zdnI zdn0)))) rfl ?_
  refine zG_s rfl rfl ?_
  refine zG_cS1 rfl rfl ct_isSpace ?_
  refine zN_ifb rfl (fun c1 => ?_) (fun c2 => ?_)
  · skip
    refine zG_s rfl rfl ?_
    -- leaf 1
    exact zG_ret rfl rfl (zfin (by rw [zo_left, zb_no c1]) hF hI)
  · skip
    obtain ⟨i, hi, rfl⟩ := zin_of c2 (by omega)
    have hP := hW.1 i hi
    have hn := hP.1
    have hS := hI.sp i hi
    refine zG_s rfl rfl ?_
    refine zG_cS1 rfl rfl ct_isKind ?_
    refine zN_ifb rfl (fun c3 => ?_) (fun c4 => ?_)
    · skip
      refine zG_s rfl rfl ?_
      -- leaf 2
      exact zG_ret rfl rfl (zfin (by rw [zo_left, zb_i hi (by omega), zb_no c3]) hF hI)
    · skip
      obtain ⟨k, hk, rfl⟩ := zin_of c4 (by omega)
      refine zG_s rfl rfl ?_
      refine zG_cS1 rfl rfl ct_isOrder ?_
      refine zN_ifnb rfl (fun c5 => ?_) (fun c6 => ?_)
      · skip
        obtain ⟨o, ho, rfl⟩ := zin_of c5 (by omega)
        refine zG_s rfl rfl ?_
        refine zN_get rfl hI.ob rfl ?_
        refine zG_s rfl rfl ?_
        refine zN_get rfl hI.ob rfl ?_
        refine zG_s rfl rfl ?_
        refine zN_qa (tt := 0) rfl hI.as (by omega) (by omega) ?_
        refine zG_s rfl rfl ?_
        refine zG_s rfl rfl ?_
        obtain ⟨n9, ec, gl, gh, gb, ga, gt, gs, gr, ge, gm, hG⟩ := hI.go
        refine zG_cQV rfl rfl hG.o rfl rfl (ct_leftBy (by omega) hG hS hP.ok hP.rf (by unfold zgN; omega) hk ho) (fun h1 hA => ?_)
        have hI := hI.u_go hA.x hA.1
        have hF := hA.1.mono zcR_g
        -- leaf 3
        exact zG_ret rfl rfl (zfin (by rw [zo_left, zb_i hi (by omega), zb_i hk (by omega), zb_i ho (by omega)]; first | done | rfl) hF hI)
      · skip
        refine zG_s rfl rfl ?_
        -- leaf 4
        exact zG_ret rfl rfl (zfin (by rw [zo_left, zb_i hi (by omega), zb_i hk (by omega), zb_no c6]) hF hI)
theorem ct_settle {d : Nat} {h : zH} {s : zST} {j m : Nat} {lo : Nat → Nat} (hI : zCI h s) (hj : j < 6) (hX : zSq h 5 m lo) (hm : m ≤ 8) : zCallP (d + 2) 155 [.ref 2, .int (nI j)] h (zRV (.int (nI m)) (fun h1 => zFr zcR h h1 ∧ zCI h1 (zsSp s j m lo))) := by
  refine zG_mP (t := tX9_settle) (ls0 := [.ref 2, .int (nI j)]) rfl rfl (zdnR (zdnI zdn0)) rfl ?_
  refine zG_s rfl rfl ?_
  refine zN_get rfl hI.ob rfl ?_
  refine zG_s rfl rfl ?_
  refine zN_qa (tt := 0) rfl hI.as (by omega) (by omega) ?_
  refine zG_s rfl rfl ?_
  refine zN_get rfl hI.ob rfl ?_
  refine zG_cQN rfl rfl (hI.sp j hj).1 rfl rfl (cs_become (by omega) (hI.sp j hj) hX hm (by unfold zApart; omega)) (fun h1 hB => ?_)
  have hF := hB.1.mono (zcR_s (o := 68 + 6 * j) (by omega) (by omega))
  have hX := zSp.fs hB.1 (show zApart (68 + 6 * j) 5 by unfold zApart; omega) hX
  have hI := hI.u_sp hj hB.2 hB.1
  refine zG_s rfl rfl ?_
  refine zN_get rfl hI.ob rfl ?_
  refine zN_get rfl hX.1 rfl ?_
  -- leaf 1
  exact zG_ret rfl rfl ⟨rfl, hF, hI⟩
theorem co_reduce {d : Nat} {h : zH} {s : zST} {a b c e : Int32} (hI : zCI h s) (hW : zWT s) : zCallP (d + 8) 107 [.ref 2, .int a, .int b, .int c, .int e] h (zOut h (zo_reduce s a b c e)) := by
  have hF : zFr zcR h h := zFr.rf
  refine zG_mP (t := tX9_reduce) (ls0 := [.ref 2, .int a, .int b, .int c, .int e]) rfl rfl (zdnR (zdnI (zdnI (zdnI (zdnI zdn0))))) rfl ?_
  refine zG_s rfl rfl ?_
  refine zG_cS1 rfl rfl ct_isSpace ?_
  refine zN_ifb rfl (fun c1 => ?_) (fun c2 => ?_)
  · skip
    refine zG_s rfl rfl ?_
    -- leaf 1
    exact zG_ret rfl rfl (zfin (by rw [zo_reduce, zb_no c1]) hF hI)
  · skip
    obtain ⟨i, hi, rfl⟩ := zin_of c2 (by omega)
    have hP := hW.1 i hi
    have hn := hP.1
    have hS := hI.sp i hi
    refine zG_s rfl rfl ?_
    refine zG_cS1 rfl rfl ct_isKind ?_
    refine zN_ifb rfl (fun c3 => ?_) (fun c4 => ?_)
    · skip
      refine zG_s rfl rfl ?_
      -- leaf 2
      exact zG_ret rfl rfl (zfin (by rw [zo_reduce, zb_i hi (by omega), zb_no c3]) hF hI)
    · skip
      obtain ⟨k, hk, rfl⟩ := zin_of c4 (by omega)
      refine zG_s rfl rfl ?_
      refine zG_cS1 rfl rfl ct_isOrder ?_
      refine zN_ifb rfl (fun c5 => ?_) (fun c6 => ?_)
      · skip
        refine zG_s rfl rfl ?_
        -- leaf 3
        exact zG_ret rfl rfl (zfin (by rw [zo_reduce, zb_i hi (by omega), zb_i hk (by omega), zb_no c5]) hF hI)
      · skip
        obtain ⟨o, ho, rfl⟩ := zin_of c6 (by omega)
        refine zG_s rfl rfl ?_
        refine zG_cS1 rfl rfl ct_isSpace ?_
        refine zN_ifnb rfl (fun c7 => ?_) (fun c8 => ?_)
        · skip
          obtain ⟨j, hj, rfl⟩ := zin_of c7 (by omega)
          refine zG_s rfl rfl ?_
          refine zN_get rfl hI.ob rfl ?_
          refine zG_s rfl rfl ?_
          refine zN_get rfl hI.ob rfl ?_
          refine zG_s rfl rfl ?_
          refine zN_qa (tt := 0) rfl hI.as (by omega) (by omega) ?_
          refine zG_s rfl rfl ?_
          refine zN_get rfl hI.ob rfl ?_
          refine zG_s rfl rfl ?_
          refine zN_get rfl hI.ob rfl ?_
          refine zG_s rfl rfl ?_
          refine zN_qa (tt := 0) rfl hI.as (by omega) (by omega) ?_
          refine zG_s rfl rfl ?_
          refine zG_s rfl rfl ?_
          obtain ⟨n9, ec, gl, gh, gb, ga, gt, gs, gr, ge, gm, hG⟩ := hI.go
          refine zG_cQV rfl rfl hG.o rfl rfl (ct_leftBy (by omega) hG hS hP.ok hP.rf (by unfold zgN; omega) hk ho) (fun h1 hA => ?_)
          have hI := hI.u_go hA.x hA.1
          have hF := hA.1.mono zcR_g
          obtain ⟨m9, l9, h9, hX⟩ := hI.wk
          refine zG_cQN rfl rfl hX.1 rfl rfl (cs_part (by omega) hX (hI.sp i hi) hP (by unfold zApart; omega) (zLeft_lt hn)) (fun h2 hB => ?_)
          have hF := hF.tr (hB.1.mono zcR_s5)
          have hI := hI.u_wk hB.2 hB.1
          refine zG_s rfl rfl ?_
          refine zG_s rfl rfl ?_
          refine zG_cQV rfl rfl hI.ob rfl rfl (ct_settle hI hj hB.2 (Nat.le_trans (zct_le _ _) hn)) (fun h3 hB3 => ?_)
          have hF := hF.tr hB3.1
          have hI := hB3.2
          -- leaf 4
          exact zG_ret rfl rfl (zfin (by rw [zo_reduce, zb_i hi (by omega), zb_i hk (by omega), zb_i ho (by omega), zb_i hj (by omega)]; first | done | rfl) hF hI)
        · skip
          refine zG_s rfl rfl ?_
          -- leaf 5
          exact zG_ret rfl rfl (zfin (by rw [zo_reduce, zb_i hi (by omega), zb_i hk (by omega), zb_i ho (by omega), zb_no c8]) hF hI)
theorem co_retract {d : Nat} {h : zH} {s : zST} {a : Int32} (hI : zCI h s) (hW : zWT s) : zCallP (d + 5) 109 [.ref 2, .int a] h (zOut h (zo_retract s a)) := by
  have hF : zFr zcR h h := zFr.rf
  refine zG_mP (t := tX9_retract) (ls0 := [.ref 2, .int a]) rfl rfl (zdnR (zdnI zdn0)) rfl ?_
  refine zG_s rfl rfl ?_
  refine zG_cS1 rfl rfl ct_isSpace ?_
  refine zN_ifnb rfl (fun c1 => ?_) (fun c2 => ?_)
  · skip
    obtain ⟨i, hi, rfl⟩ := zin_of c1 (by omega)
    have hP := hW.1 i hi
    have hn := hP.1
    have hS := hI.sp i hi
    refine zG_s rfl rfl ?_
    refine zN_get rfl hI.ob rfl ?_
    refine zG_s rfl rfl ?_
    refine zN_get rfl hI.ob rfl ?_
    refine zG_s rfl rfl ?_
    refine zN_qa (tt := 0) rfl hI.as (by omega) (by omega) ?_
    obtain ⟨n9, ec, gl, gh, gb, ga, gt, gs, gr, ge, gm, hG⟩ := hI.go
    refine zG_cQN rfl rfl hG.o rfl rfl (ct_enter (by omega) hG hS hP.ok (by unfold zgN; omega)) (fun h1 hA => ?_)
    have hI0 := hI
    have hI := hI0.u_go hA.x hA.1
    have hF := hA.1.mono zcR_g
    refine zG_s rfl rfl ?_
    refine zN_get rfl hI.ob rfl ?_
    obtain ⟨gl, gh, gb, ga, gt, gs, hG⟩ := hA.g
    refine zG_cQV rfl rfl hG.o rfl rfl (ct_retraction (by omega) hA hP.ok) (fun h2 hA2 => ?_)
    obtain ⟨im2, hA2⟩ := hA2
    have hI := hI0.u_go hA2.x hA2.1
    have hF := hA2.1.mono zcR_g
    -- leaf 1
    exact zG_ret rfl rfl (zfin (by rw [zo_retract, zb_i hi (by omega)]; first | done | rfl) hF hI)
  · skip
    refine zG_s rfl rfl ?_
    -- leaf 2
    exact zG_ret rfl rfl (zfin (by rw [zo_retract, zb_no c2]) hF hI)
