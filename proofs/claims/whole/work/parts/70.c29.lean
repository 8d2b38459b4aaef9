theorem co_feed {d : Nat} {h : zH} {s : zST} {e : Int64} {b : Int32} (hI : zCI h s) (hW : zWT s) : zCallP (d + 2) 127 [.ref 2, .long e, .int b] h (zOut h (zo_feed s e b)) := by
  have hF : zFr zcR h h := zFr.rf
  obtain ⟨p9, f, t1, t2, t3⟩ := hI.ta
  obtain ⟨hl, hB⟩ := hW.2.2.1
  refine zG_mP (t := tX9_feed) (ls0 := [.ref 2, .long e, .null, .int b]) rfl rfl (zdnR (zdnL (zdnI zdn0))) rfl ?_
  refine zG_s rfl rfl ?_
  refine zG_s rfl rfl ?_
  refine zN_if2 rfl (fun c1 => ?_) (fun c2 => ?_)
  · skip
    have c3 := zraw1_lt (n := 9) c1
    refine zG_s rfl rfl ?_
    -- leaf 1
    exact zG_ret rfl rfl (zfin (by rw [zo_feed, zb1_no c3]) hF hI)
  · skip
    refine zG_s rfl rfl ?_
    refine zG_s rfl rfl ?_
    refine zN_if2 rfl (fun c4 => ?_) (fun c5 => ?_)
    · skip
      have c6 := zraw1_le (n := 8) (by decide) c2 c4
      obtain ⟨n, hn, hn0, rfl⟩ := c6
      refine zG_s rfl rfl ?_
      refine zN_get rfl hI.ob rfl ?_
      refine zG_s rfl rfl ?_
      refine zG_s rfl rfl ?_
      rcases Nat.lt_or_ge 100 (s.2.2.2.1.1 + n) with g9 | g9
      · refine zG_cV1 rfl rfl t1 rfl rfl (ct_appendNo (B := s.2.2.2.1.2) (by omega) t1 t2 hl (by omega) g9) ?_
        refine zN_ifb (x := false) rfl (fun _ => ?_) (fun q => by cases q)
        refine zG_s rfl rfl ?_
        exact zG_ret rfl rfl (zfin (by rw [zo_feed, zb1_i hn hn0 (by decide), if_pos g9]) hF hI)
      refine zG_cQV rfl rfl t1 rfl rfl (ct_append (B := s.2.2.2.1.2) (by omega) t1 t2 hl (by omega) g9) (fun h1 hB1 => ?_)
      obtain ⟨hF1, u1, f1, u2, u3, u4⟩ := hB1
      have hI := hI.u_ta (ln := s.2.2.2.1.1 + n) (B := fun j => if j < s.2.2.2.1.1 then s.2.2.2.1.2 j else zEb e (j - s.2.2.2.1.1)) ⟨p9, f1, u1, u2, fun i hi => by
        show f1 i = zS8 (if i < s.2.2.2.1.1 then s.2.2.2.1.2 i else zEb e (i - s.2.2.2.1.1))
        by_cases g : i < s.2.2.2.1.1
        · rw [if_pos g, u3 i g, t3 i g]
        · rw [if_neg g]
          have := u4 (i - s.2.2.2.1.1) (by have hi : i < s.2.2.2.1.1 + n := hi; omega)
          rwa [show s.2.2.2.1.1 + (i - s.2.2.2.1.1) = i by omega] at this⟩ hF1
      have hF := hF.tr (hF1.mono (zcR_a (by omega) (by omega)))
      refine zN_eq0 (x := 1) rfl (by omega) (fun q => absurd q (by decide)) (fun c8 => ?_)
      refine zG_s rfl rfl ?_
      refine zN_get rfl hI.ob rfl ?_
      refine zN_get rfl u1 rfl ?_
      refine zG_s rfl rfl ?_
      -- leaf 2
      exact zG_ret rfl rfl (zfin (by rw [zo_feed, zb1_i hn hn0 (by decide), if_neg (by omega)]) hF hI)
    · skip
      have c9 := zraw1_nle (n := 8) (by decide) c5
      refine zG_s rfl rfl ?_
      -- leaf 3
      exact zG_ret rfl rfl (zfin (by rw [zo_feed, zb1_no c9]) hF hI)
theorem co_space {d : Nat} {h : zH} {s : zST} {a : Int32} (hI : zCI h s) (hW : zWT s) : zCallP (d + 6) 128 [.ref 2, .int a] h (zOut h (zo_space s a)) := by
  have hF : zFr zcR h h := zFr.rf
  obtain ⟨p9, f, t1, t2, t3⟩ := hI.ta
  obtain ⟨hl, hB⟩ := hW.2.2.1
  refine zG_mP (t := tX9_space) (ls0 := [.ref 2, .int a, .null]) rfl rfl (zdnR (zdnI zdn0)) rfl ?_
  refine zG_s rfl rfl ?_
  refine zG_cS1 rfl rfl ct_isSpace ?_
  refine zN_ifnb rfl (fun c1 => ?_) (fun c2 => ?_)
  · skip
    obtain ⟨i, hi, rfl⟩ := zin_of c1 (by omega)
    refine zG_s rfl rfl ?_
    refine zN_get rfl hI.ob rfl ?_
    refine zG_s rfl rfl ?_
    refine zN_get rfl hI.ob rfl ?_
    obtain ⟨m9, l9, h9, hX⟩ := hI.wk
    refine zG_cQV rfl rfl t1 rfl rfl (ct_read (B := s.2.2.2.1.2) (by omega) (by omega) t1 t2 (fun i hi => ⟨t3 i hi, hB i hi⟩) hl hX (by omega)) (fun h1 hB1 => ?_)
    obtain ⟨hF1, u1, ⟨m8, l8, h8, hX⟩, hV⟩ := hB1
    have hF := hF.tr (hF1.mono (fun j hj => by unfold zsS at hj; unfold zcR; omega))
    have u2 := hF1.eq (show ¬ (62 = 61 ∨ zsS 5 62) by unfold zsS; omega) t2
    have hrd : (zRead s.2.2.2.1.2 s.2.2.2.1.1).2.1 ≤ 100 ∧ ((zRead s.2.2.2.1.2 s.2.2.2.1.1).1 = true → zPre (zRead s.2.2.2.1.2 s.2.2.2.1.1).2.2.1 (zRead s.2.2.2.1.2 s.2.2.2.1.1).2.2.2) := ⟨Nat.le_trans zRead_le hl, zRead_pre⟩
    have hI := hI.u_tw (ln := s.2.2.2.1.1) (B := s.2.2.2.1.2) ⟨_, f, u1, u2, t3⟩ hX hF1
    generalize hR9 : zRead s.2.2.2.1.2 s.2.2.2.1.1 = R9 at *
    refine zN_st2 rfl (fun _ _ _ => rfl) rfl ?_
    refine zG_s rfl rfl ?_
    refine zN_get rfl hI.ob rfl ?_
    refine zG_s rfl rfl ?_
    refine zN_put (fs' := [.ref 62, .int (nI 0), .int (nI R9.2.1)]) rfl u1 rfl rfl rfl ?_
    have hFr : zFr (fun j => j = 61) h1 (zset h1 61 (.inr (8, [.ref 62, .int (nI 0), .int (nI R9.2.1)]))) := zFr.rf.set rfl
    have hFq := hFr.mono (S' := zaS 61) (fun j hj => by subst hj; exact ⟨by omega, by omega⟩)
    have hI := hI.u_ta (ln := 0) (B := s.2.2.2.1.2) ⟨_, f, zset_eq _ _ _, hFr.eq (show ¬ (62 = 61) by omega) u2, fun i hi => absurd hi (Nat.not_lt_zero i)⟩ hFq
    have hF := hF.tr (hFq.mono (zcR_a (by omega) (by omega)))
    have u3 : (zset h1 61 (.inr (8, [.ref 62, .int (nI 0), .int (nI R9.2.1)]))).2.2 61 = .inr (8, [.ref 62, .int (nI 0), .int (nI R9.2.1)]) := zset_eq _ _ _
    refine zG_s rfl rfl ?_
    first | refine zN_ifb rfl (fun c3 => ?_) (fun c4 => ?_) | refine zN_eq0 rfl (by omega) (fun c3 => ?_) (fun c4 => ?_)
    · skip
      refine zG_s rfl rfl ?_
      refine zG_s rfl rfl ?_
      refine zN_get rfl hI.ob rfl ?_
      refine zN_get rfl u3 rfl ?_
      refine zG_s rfl rfl ?_
      -- leaf 1
      exact zG_ret rfl rfl (zfin (by rw [zo_space, zb_i hi (by omega), hR9, if_neg (by rw [c3]; simp)]; first | done | rfl) hF hI)
    · skip
      refine zG_s rfl rfl ?_
      refine zG_s rfl rfl ?_
      have hX2 : zSq (zset h1 61 (.inr (8, [.ref 62, .int (nI 0), .int (nI R9.2.1)]))) 5 R9.2.2.1 R9.2.2.2 := zSp_ne (hV c4) (by omega) (by omega) (by omega)
      refine zG_cQV rfl rfl hI.ob rfl rfl (ct_settle hI hi hX2 (hrd.2 c4).1) (fun h3 hB3 => ?_)
      have hF := hF.tr hB3.1
      have hI := hB3.2
      refine zG_s rfl rfl ?_
      -- leaf 2
      exact zG_ret rfl rfl (zfin (by rw [zo_space, zb_i hi (by omega), hR9, if_pos c4]; first | done | rfl) hF hI)
  · skip
    refine zG_s rfl rfl ?_
    -- leaf 3
    exact zG_ret rfl rfl (zfin (by rw [zo_space, zb_no c2]) hF hI)
theorem co_seed {d : Nat} {h : zH} {s : zST} {a : Int32} (hI : zCI h s) (hW : zWT s) : zCallP (d + 1) 129 [.ref 2, .int a] h (zOut h (zo_seed s a)) := by
  have hF : zFr zcR h h := zFr.rf
  refine zG_mP (t := tX9_seed) (ls0 := [.ref 2, .int a, .null]) rfl rfl (zdnR (zdnI zdn0)) rfl ?_
  refine zG_s rfl rfl ?_
  refine zN_get rfl hI.ob rfl ?_
  refine zN_st2 rfl (fun _ _ _ => rfl) rfl ?_
  refine zG_s rfl rfl ?_
  refine zG_s rfl rfl ?_
  refine zN_put (fs' := [.ref 3, .ref 4, .ref 5, .ref 8, .ref 18, .ref 26, .ref 29, .ref 56, .ref 61, .ref 63, .ref 65, .ref 66, .ref 67, .int a, .int s.2.2.1.2.1, .int (nI (b2n s.2.2.1.2.2))]) rfl hI.ob rfl rfl rfl ?_
  have hFq : zFr (fun j => j = 2) h (zset h 2 (.inr (9, [.ref 3, .ref 4, .ref 5, .ref 8, .ref 18, .ref 26, .ref 29, .ref 56, .ref 61, .ref 63, .ref 65, .ref 66, .ref 67, .int a, .int s.2.2.1.2.1, .int (nI (b2n s.2.2.1.2.2))]))) := zFr.rf.set rfl
  have hI := hI.u_ob (Z := (a, s.2.2.1.2)) (zset_eq _ _ _) hFq
  have hF := hF.tr (hFq.mono (fun j hj => by subst hj; unfold zcR; omega))
  refine zG_s rfl rfl ?_
  -- leaf 1
  exact zG_ret rfl rfl (zfin (by rw [zo_seed]; first | done | rfl) hF hI)
theorem ct_drawn {d : Nat} {h : zH} {s : zST} (hI : zCI h s) : zCallP (d + 1) 161 [.ref 2] h (zRV (.int (nI (zTop16 (zNxt s.2.2.1.1)))) (fun h1 => zFr (fun j => j = 2) h h1 ∧ zCI h1 (zsZ s (zNxt s.2.2.1.1)))) := by
  refine zG_mP (t := tX9_drawn) (ls0 := [.ref 2]) rfl rfl (zdnR zdn0) rfl ?_
  refine zG_s rfl rfl ?_
  refine zG_s rfl rfl ?_
  refine zN_get rfl hI.ob rfl ?_
  refine zG_s rfl rfl ?_
  refine zG_s rfl rfl ?_
  refine zG_s rfl rfl ?_
  refine zG_s (st' := [.int (zNxt s.2.2.1.1), .ref 2]) rfl rfl ?_
  refine zN_put (fs' := [.ref 3, .ref 4, .ref 5, .ref 8, .ref 18, .ref 26, .ref 29, .ref 56, .ref 61, .ref 63, .ref 65, .ref 66, .ref 67, .int (zNxt s.2.2.1.1), .int s.2.2.1.2.1, .int (nI (b2n s.2.2.1.2.2))]) rfl hI.ob rfl rfl rfl ?_
  have hFq : zFr (fun j => j = 2) h (zset h 2 (.inr (9, [.ref 3, .ref 4, .ref 5, .ref 8, .ref 18, .ref 26, .ref 29, .ref 56, .ref 61, .ref 63, .ref 65, .ref 66, .ref 67, .int (zNxt s.2.2.1.1), .int s.2.2.1.2.1, .int (nI (b2n s.2.2.1.2.2))]))) := zFr.rf.set rfl
  have hI := hI.u_ob (Z := (zNxt s.2.2.1.1, s.2.2.1.2)) (zset_eq _ _ _) hFq
  refine zG_s rfl rfl ?_
  refine zN_get rfl hI.ob rfl ?_
  refine zG_s rfl rfl ?_
  refine zG_s (st' := [.int (nI (zTop16 (zNxt s.2.2.1.1)))]) rfl (by rw [← ztop]; rfl) ?_
  -- leaf 1
  exact zG_ret rfl rfl ⟨rfl, hFq, hI⟩
