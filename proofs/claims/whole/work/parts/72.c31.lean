theorem ct_pointedSpaces {d : Nat} {h : zH} {s : zST} (hI : zCI h s) (hW : zWT s) : zCall (d + 1) 162 [.ref 2] h (some (.int (nI (zct (fun i => decide (0 < (s.1 i).1)) 6))), h) := by
  generalize hcq : (fun i => decide (0 < (s.1 i).1)) = cq
  have hcx : ∀ i, cq i = decide (0 < (s.1 i).1) := fun i => by rw [← hcq]
  refine zG_m (t := tX9_pointedSpaces) (ls0 := [.ref 2, .null, .null]) rfl rfl (zdnR zdn0) rfl ?_
  refine zG_s rfl rfl ?_
  refine zN_st1 rfl (fun _ _ _ => rfl) rfl ?_
  refine zG_s rfl rfl ?_
  refine zN_st2 rfl (fun _ _ _ => rfl) rfl ?_
  have main4 : ∀ i, i ≤ 6 → zGo (d) tX9_pointedSpaces 4 [.ref 2, .int (nI (zct cq i)), .int (nI i)] [] h (some (.int (nI (zct cq 6))), h) := by
    refine zdown (6) ?_ (fun i hp4 ih4 => ?_)
    · skip
      refine zG_s rfl rfl ?_
      refine zG_s rfl rfl ?_
      refine zN_ige rfl (by omega) (by omega) (fun c1 => ?_) (fun c2 => absurd c2 (by omega))
      refine zG_s rfl rfl ?_
      -- leaf 1
      exact zG_ret rfl rfl rfl
    · skip
      have hn := (hW.1 i hp4).1
      refine zG_s rfl rfl ?_
      refine zG_s rfl rfl ?_
      refine zN_ige rfl (by omega) (by omega) (fun c3 => absurd c3 (by omega)) (fun c4 => ?_)
      refine zG_s rfl rfl ?_
      refine zG_s rfl rfl ?_
      refine zN_get rfl hI.ob rfl ?_
      refine zG_s rfl rfl ?_
      refine zN_qa (tt := 0) rfl hI.as (by omega) (by omega) ?_
      refine zN_get rfl (hI.sp _ (by omega)).1 rfl ?_
      refine zN_le0 rfl (by omega) (fun c5 => ?_) (fun c6 => ?_)
      · skip
        refine zG_s rfl rfl ?_
        refine zN_add rfl ?_
        refine zN_st1 rfl (fun _ _ _ => rfl) rfl ?_
        refine zN_inc2 rfl rfl ?_
        refine zG_s rfl rfl ?_
        -- leaf 2
        rw [zct_no (by rw [hcx]; exact decide_eq_false (by omega))] at ih4
        exact ih4
      · skip
        refine zG_s rfl rfl ?_
        refine zG_s rfl rfl ?_
        refine zN_add rfl ?_
        refine zN_st1 rfl (fun _ _ _ => rfl) rfl ?_
        refine zN_inc2 rfl rfl ?_
        refine zG_s rfl rfl ?_
        -- leaf 3
        rw [zct_yes (by rw [hcx]; exact decide_eq_true (by omega))] at ih4
        exact ih4
  exact main4 0 (by omega)
theorem ct_allPoints {d : Nat} {h : zH} {s : zST} (hI : zCI h s) : zCall (d + 1) 163 [.ref 2] h (some (.int (nI (zsm (fun i => (s.1 i).1) 6))), h) := by
  refine zG_m (t := tX9_allPoints) (ls0 := [.ref 2, .null, .null]) rfl rfl (zdnR zdn0) rfl ?_
  refine zG_s rfl rfl ?_
  refine zN_st1 rfl (fun _ _ _ => rfl) rfl ?_
  refine zG_s rfl rfl ?_
  refine zN_st2 rfl (fun _ _ _ => rfl) rfl ?_
  have main4 : ∀ i, i ≤ 6 → zGo (d) tX9_allPoints 4 [.ref 2, .int (nI (zsm (fun i => (s.1 i).1) i)), .int (nI i)] [] h (some (.int (nI (zsm (fun i => (s.1 i).1) 6))), h) := by
    refine zdown (6) ?_ (fun i hp4 ih4 => ?_)
    · skip
      refine zG_s rfl rfl ?_
      refine zG_s rfl rfl ?_
      refine zN_ige rfl (by omega) (by omega) (fun c1 => ?_) (fun c2 => absurd c2 (by omega))
      refine zG_s rfl rfl ?_
      -- leaf 1
      exact zG_ret rfl rfl rfl
    · skip
      refine zG_s rfl rfl ?_
      refine zG_s rfl rfl ?_
      refine zN_ige rfl (by omega) (by omega) (fun c3 => absurd c3 (by omega)) (fun c4 => ?_)
      refine zG_s rfl rfl ?_
      refine zG_s rfl rfl ?_
      refine zN_get rfl hI.ob rfl ?_
      refine zG_s rfl rfl ?_
      refine zN_qa (tt := 0) rfl hI.as (by omega) (by omega) ?_
      refine zN_get rfl (hI.sp _ (by omega)).1 rfl ?_
      refine zN_add rfl ?_
      refine zN_st1 rfl (fun _ _ _ => rfl) rfl ?_
      refine zN_inc2 rfl rfl ?_
      refine zG_s rfl rfl ?_
      -- leaf 2
      rw [zsm] at ih4
      exact ih4
  exact main4 0 (by omega)
theorem ct_plainSpaces {d : Nat} {h : zH} {s : zST} (hI : zCI h s) (hW : zWT s) : zCall (d + 3) 164 [.ref 2] h (some (.int (nI (zbits (fun i => zPlain (s.1 i).1 (s.1 i).2) 6))), h) := by
  generalize hcq : (fun i => zPlain (s.1 i).1 (s.1 i).2) = cq
  have hcx : ∀ i, cq i = zPlain (s.1 i).1 (s.1 i).2 := fun i => by rw [← hcq]
  refine zG_m (t := tX9_plainSpaces) (ls0 := [.ref 2, .null, .null]) rfl rfl (zdnR zdn0) rfl ?_
  refine zG_s rfl rfl ?_
  refine zN_st1 rfl (fun _ _ _ => rfl) rfl ?_
  refine zG_s rfl rfl ?_
  refine zN_st2 rfl (fun _ _ _ => rfl) rfl ?_
  have main4 : ∀ i, i ≤ 6 → zGo (d + 2) tX9_plainSpaces 4 [.ref 2, .int (nI (zbits cq i)), .int (nI i)] [] h (some (.int (nI (zbits cq 6))), h) := by
    refine zdown (6) ?_ (fun i hp4 ih4 => ?_)
    · skip
      refine zG_s rfl rfl ?_
      refine zG_s rfl rfl ?_
      refine zN_ige rfl (by omega) (by omega) (fun c1 => ?_) (fun c2 => absurd c2 (by omega))
      refine zG_s rfl rfl ?_
      -- leaf 1
      exact zG_ret rfl rfl rfl
    · skip
      refine zG_s rfl rfl ?_
      refine zG_s rfl rfl ?_
      refine zN_ige rfl (by omega) (by omega) (fun c3 => absurd c3 (by omega)) (fun c4 => ?_)
      refine zG_s rfl rfl ?_
      refine zG_s rfl rfl ?_
      refine zN_get rfl hI.ob rfl ?_
      refine zG_s rfl rfl ?_
      refine zN_qa (tt := 0) rfl hI.as (by omega) (by omega) ?_
      refine zG_cV1 rfl rfl (hI.sp i hp4).1 rfl rfl (ct_isPlain ⟨hI.sp i hp4, (hW.1 i hp4).ok⟩) ?_
      have jn30 : ∀ w : Nat, w = (if cq i then 1 <<< i else 0) → zGo (d + 2) tX9_plainSpaces 30 [.ref 2, .int (nI (zbits cq i)), .int (nI i)] [.int (nI w), .int (nI (zbits cq i))] h (some (.int (nI (zbits cq 6))), h) := by
        intro w ew
        refine zN_or rfl ?_
        refine zN_st1 rfl (fun _ _ _ => rfl) rfl ?_
        refine zN_inc2 rfl rfl ?_
        refine zG_s rfl rfl ?_
        -- leaf 2
        cases q : cq i with
        | true =>
          rw [zbits_yes q] at ih4
          rw [ew, q]
          exact ih4
        | false =>
          rw [zbits_no q] at ih4
          rw [ew, q, if_neg (by simp), Nat.or_zero]
          exact ih4
      first | refine zN_ifb rfl (fun c5 => ?_) (fun c6 => ?_) | refine zN_eq0 rfl (by omega) (fun c5 => ?_) (fun c6 => ?_)
      · skip
        refine zG_s rfl rfl ?_
        -- leaf 3
        exact jn30 0 (by rw [hcx, show zPlain (s.1 i).1 (s.1 i).2 = false from c5]; rfl)
      · skip
        refine zG_s rfl rfl ?_
        refine zG_s rfl rfl ?_
        refine zN_shl (x := 1) rfl (by omega) ?_
        refine zG_s rfl rfl ?_
        -- leaf 4
        exact jn30 _ (by rw [hcx, show zPlain (s.1 i).1 (s.1 i).2 = true from c6]; rfl)
  exact main4 0 (by omega)
theorem co_many {d : Nat} {h : zH} {s : zST} {a : Int32} (hI : zCI h s) (hW : zWT s) : zCallP (d + 4) 141 [.ref 2, .int a] h (zOut h (zo_many s a)) := by
  have hF : zFr zcR h h := zFr.rf
  obtain ⟨p9, f, t1, t2, t3⟩ := hI.ta
  obtain ⟨w9, -, u1, tr, u2, u3⟩ := hI.ac
  refine zG_mP (t := tX9_many) (ls0 := [.ref 2, .int a]) rfl rfl (zdnR (zdnI zdn0)) rfl ?_
  refine zG_s rfl rfl ?_
  rcases zcs5 a with c1 | c2 | c3 | c4 | c5 | c6
  · skip
    subst c1
    refine zG_s rfl rfl ?_
    refine zG_s rfl rfl ?_
    refine zG_cV1 rfl rfl hI.ob rfl rfl (ct_pointedSpaces hI hW) ?_
    -- leaf 1
    exact zG_ret rfl rfl (zfin (by rw [zo_many, zb_i (show 0 < 5 by decide) (by omega)]; first | done | rfl) hF hI)
  · skip
    subst c2
    refine zG_s rfl rfl ?_
    refine zG_s rfl rfl ?_
    refine zG_cV1 rfl rfl hI.ob rfl rfl (ct_allPoints hI) ?_
    -- leaf 2
    exact zG_ret rfl rfl (zfin (by rw [zo_many, zb_i (show 1 < 5 by decide) (by omega)]; first | done | rfl) hF hI)
  · skip
    subst c3
    refine zG_s rfl rfl ?_
    refine zG_s rfl rfl ?_
    refine zG_cV1 rfl rfl hI.ob rfl rfl (ct_plainSpaces hI hW) ?_
    -- leaf 3
    exact zG_ret rfl rfl (zfin (by rw [zo_many, zb_i (show 2 < 5 by decide) (by omega)]; first | done | rfl) hF hI)
  · skip
    subst c4
    refine zG_s rfl rfl ?_
    refine zG_s rfl rfl ?_
    refine zN_get rfl hI.ob rfl ?_
    refine zN_get rfl t1 rfl ?_
    -- leaf 4
    exact zG_ret rfl rfl (zfin (by rw [zo_many, zb_i (show 3 < 5 by decide) (by omega)]; first | done | rfl) hF hI)
  · skip
    subst c5
    refine zG_s rfl rfl ?_
    refine zG_s rfl rfl ?_
    refine zN_get rfl hI.ob rfl ?_
    refine zN_get rfl u1 rfl ?_
    -- leaf 5
    exact zG_ret rfl rfl (zfin (by rw [zo_many, zb_i (show 4 < 5 by decide) (by omega)]; first | done | rfl) hF hI)
  · skip
    refine zN_tsd (p2 := 67) rfl (zin_out (by decide) c6) rfl ?_
    refine zG_s rfl rfl ?_
    -- leaf 6
    exact zG_ret rfl rfl (zfin (by rw [zo_many, zb_no c6]) hF hI)
theorem co_keep {d : Nat} {h : zH} {s : zST} (hI : zCI h s) (hW : zWT s) : zCallP (d + 2) 142 [.ref 2] h (zOut h (zo_keep s)) := by
  refine zG_mP (t := tX9_keep) (ls0 := [.ref 2, .null]) rfl rfl (zdnR zdn0) rfl ?_
  refine zG_s rfl rfl ?_
  refine zN_st1 rfl (fun _ _ _ => rfl) rfl ?_
  have main2 : ∀ i, i ≤ 6 → ∀ h1 : zH, zFr zcR h h1 → zCI h1 (s.1, (fun j => if j < i then s.1 j else s.2.1 j), s.2.2) → zGoP (d + 1) tX9_keep 2 [.ref 2, .int (nI i)] [] h1 (zOut h (zo_keep s)) := by
    refine zdown (6) ?_ (fun i hp2 ih2 => ?_)
    · skip
      intro h1 hF hI
      refine zG_s rfl rfl ?_
      refine zG_s rfl rfl ?_
      refine zN_ige rfl (by omega) (by omega) (fun c1 => ?_) (fun c2 => absurd c2 (by omega))
      refine zG_s rfl rfl ?_
      refine zG_s rfl rfl ?_
      refine zN_get rfl hI.ob rfl ?_
      refine zN_put (fs' := [.ref 3, .ref 4, .ref 5, .ref 8, .ref 18, .ref 26, .ref 29, .ref 56, .ref 61, .ref 63, .ref 65, .ref 66, .ref 67, .int s.2.2.1.1, .int s.2.2.1.1, .int (nI (b2n s.2.2.1.2.2))]) rfl hI.ob rfl rfl rfl ?_
      have hFq : zFr (fun j => j = 2) h1 (zset h1 2 (.inr (9, [.ref 3, .ref 4, .ref 5, .ref 8, .ref 18, .ref 26, .ref 29, .ref 56, .ref 61, .ref 63, .ref 65, .ref 66, .ref 67, .int s.2.2.1.1, .int s.2.2.1.1, .int (nI (b2n s.2.2.1.2.2))]))) := zFr.rf.set rfl
      have hI := hI.u_ob (Z := (s.2.2.1.1, s.2.2.1.1, s.2.2.1.2.2)) (zset_eq _ _ _) hFq
      have hF := hF.tr (hFq.mono (fun j hj => by subst hj; unfold zcR; omega))
      refine zG_s rfl rfl ?_
      refine zG_s rfl rfl ?_
      refine zN_put (fs' := [.ref 3, .ref 4, .ref 5, .ref 8, .ref 18, .ref 26, .ref 29, .ref 56, .ref 61, .ref 63, .ref 65, .ref 66, .ref 67, .int s.2.2.1.1, .int s.2.2.1.1, .int (nI 1)]) rfl hI.ob rfl rfl rfl ?_
      have hFq := (zFr.rf (h := (zset h1 2 (.inr (9, [.ref 3, .ref 4, .ref 5, .ref 8, .ref 18, .ref 26, .ref 29, .ref 56, .ref 61, .ref 63, .ref 65, .ref 66, .ref 67, .int s.2.2.1.1, .int s.2.2.1.1, .int (nI (b2n s.2.2.1.2.2))])))) (S := fun j => j = 2)).set (k := 2) (c := .inr (9, [.ref 3, .ref 4, .ref 5, .ref 8, .ref 18, .ref 26, .ref 29, .ref 56, .ref 61, .ref 63, .ref 65, .ref 66, .ref 67, .int s.2.2.1.1, .int s.2.2.1.1, .int (nI 1)])) rfl
      have hI := hI.u_ob (Z := (s.2.2.1.1, s.2.2.1.1, true)) (zset_eq _ _ _) hFq
      have hF := hF.tr (hFq.mono (fun j hj => by subst hj; unfold zcR; omega))
      refine zG_s rfl rfl ?_
      -- leaf 1
      exact zG_ret rfl rfl (zfin rfl hF (hI.kp6 (Q := s.1) (fun i hi => if_pos hi)))
    · skip
      intro h1 hF hI
      refine zG_s rfl rfl ?_
      refine zG_s rfl rfl ?_
      refine zN_ige rfl (by omega) (by omega) (fun c3 => absurd c3 (by omega)) (fun c4 => ?_)
      refine zG_s rfl rfl ?_
      refine zN_get rfl hI.ob rfl ?_
      refine zG_s rfl rfl ?_
      refine zN_qa (tt := 0) rfl hI.ak (by omega) (by omega) ?_
      refine zG_s rfl rfl ?_
      refine zN_get rfl hI.ob rfl ?_
      refine zG_s rfl rfl ?_
      refine zN_qa (tt := 0) rfl hI.as (by omega) (by omega) ?_
      refine zG_cQN rfl rfl (hI.kp i hp2).1 rfl rfl (cs_become (by omega) (hI.kp i hp2) (hI.sp i hp2) (hW.1 i hp2).1 (by unfold zApart; omega)) (fun h2 hB => ?_)
      have hF := hF.tr (hB.1.mono (zcR_s (o := 71 + 6 * i) (by omega) (by omega)))
      have hI : zCI h2 (s.1, (fun j => if j = i then ((s.1 i).1, (s.1 i).2) else (if j < i then s.1 j else s.2.1 j)), s.2.2) := hI.u_kp hp2 hB.2 hB.1
      rw [zKp_s] at hI
      refine zN_inc1 rfl rfl ?_
      refine zG_s rfl rfl ?_
      -- leaf 2
      exact ih2 _ hF hI
  exact main2 0 (by omega) h zFr.rf hI
theorem co_again {d : Nat} {h : zH} {s : zST} (hI : zCI h s) (hW : zWT s) : zCallP (d + 2) 143 [.ref 2] h (zOut h (zo_again s)) := by
  have hF : zFr zcR h h := zFr.rf
  have hI0 := hI
  refine zG_mP (t := tX9_again) (ls0 := [.ref 2, .null]) rfl rfl (zdnR zdn0) rfl ?_
  refine zG_s rfl rfl ?_
  refine zN_get rfl hI.ob rfl ?_
  first | refine zN_ifnb rfl (fun c1 => ?_) (fun c2 => ?_) | refine zN_ne0 rfl (by omega) (fun c1 => ?_) (fun c2 => ?_)
  · skip
    refine zG_s rfl rfl ?_
    refine zN_st1 rfl (fun _ _ _ => rfl) rfl ?_
    have main12 : ∀ i, i ≤ 6 → ∀ h1 : zH, zFr zcR h h1 → zCI h1 ((fun j => if j < i then s.2.1 j else s.1 j), s.2) → zGoP (d + 1) tX9_again 12 [.ref 2, .int (nI i)] [] h1 (zOut h (zo_again s)) := by
      refine zdown (6) ?_ (fun i hp12 ih12 => ?_)
      · skip
        intro h1 hF hI
        refine zG_s rfl rfl ?_
        refine zG_s rfl rfl ?_
        refine zN_ige rfl (by omega) (by omega) (fun c3 => ?_) (fun c4 => absurd c4 (by omega))
        refine zG_s rfl rfl ?_
        refine zG_s rfl rfl ?_
        refine zN_get rfl hI.ob rfl ?_
        refine zN_put (fs' := [.ref 3, .ref 4, .ref 5, .ref 8, .ref 18, .ref 26, .ref 29, .ref 56, .ref 61, .ref 63, .ref 65, .ref 66, .ref 67, .int s.2.2.1.2.1, .int s.2.2.1.2.1, .int (nI (b2n s.2.2.1.2.2))]) rfl hI.ob rfl rfl rfl ?_
        have hFq : zFr (fun j => j = 2) h1 (zset h1 2 (.inr (9, [.ref 3, .ref 4, .ref 5, .ref 8, .ref 18, .ref 26, .ref 29, .ref 56, .ref 61, .ref 63, .ref 65, .ref 66, .ref 67, .int s.2.2.1.2.1, .int s.2.2.1.2.1, .int (nI (b2n s.2.2.1.2.2))]))) := zFr.rf.set rfl
        have hI := hI.u_ob (Z := (s.2.2.1.2.1, s.2.2.1.2.1, s.2.2.1.2.2)) (zset_eq _ _ _) hFq
        have hF := hF.tr (hFq.mono (fun j hj => by subst hj; unfold zcR; omega))
        have hI := hI.sp6 (Q := s.2.1) (fun i hi => if_pos hi)
        refine zG_s rfl rfl ?_
        refine zG_cV1 rfl rfl hI.ob rfl rfl (ct_allPoints hI) ?_
        -- leaf 1
        exact zG_ret rfl rfl (zfin (by rw [zo_again, if_pos c1]; simp only [c1]) hF hI)
      · skip
        intro h1 hF hI
        refine zG_s rfl rfl ?_
        refine zG_s rfl rfl ?_
        refine zN_ige rfl (by omega) (by omega) (fun c5 => absurd c5 (by omega)) (fun c6 => ?_)
        refine zG_s rfl rfl ?_
        refine zN_get rfl hI.ob rfl ?_
        refine zG_s rfl rfl ?_
        refine zN_qa (tt := 0) rfl hI.as (by omega) (by omega) ?_
        refine zG_s rfl rfl ?_
        refine zN_get rfl hI.ob rfl ?_
        refine zG_s rfl rfl ?_
        refine zN_qa (tt := 0) rfl hI.ak (by omega) (by omega) ?_
        refine zG_cQN rfl rfl (hI.sp i hp12).1 rfl rfl (cs_become (by omega) (hI.sp i hp12) (hI.kp i hp12) (hW.2.1 i hp12).1 (by unfold zApart; omega)) (fun h2 hB => ?_)
        have hF := hF.tr (hB.1.mono (zcR_s (o := 68 + 6 * i) (by omega) (by omega)))
        have hI : zCI h2 ((fun j => if j = i then ((s.2.1 i).1, (s.2.1 i).2) else (if j < i then s.2.1 j else s.1 j)), s.2) := hI.u_sp hp12 hB.2 hB.1
        refine zN_inc1 rfl rfl ?_
        refine zG_s rfl rfl ?_
        -- leaf 2
        rw [zSp_s9] at hI
        exact ih12 _ hF hI
    exact main12 0 (by omega) h zFr.rf hI
  · skip
    refine zG_s rfl rfl ?_
    -- leaf 3
    exact zG_ret rfl rfl (zfin (by rw [zo_again, if_neg (by rw [c2]; simp)]) hF hI0)
theorem co_shelf0 {d : Nat} {h : zH} {s : zST} {a c : Int32} (hI : zCI h s) (hW : zWT s) : zCallP (d + 2) 137 [.ref 2, .int a, .int (nI 0), .int c] h (zOut h (zo_shelf s a (nI 0) c)) := by
  have hF : zFr zcR h h := zFr.rf
  obtain ⟨f, g, v1, v2, v3⟩ := hI.sv
  refine zG_mP (t := tX9_shelf) (ls0 := [.ref 2, .int a, .int (nI 0), .int c]) rfl rfl (zdnR (zdnI (zdnI (zdnI zdn0)))) rfl ?_
  refine zG_s rfl rfl ?_
  refine zG_cS1 rfl rfl ct_isShelf ?_
  refine zN_ifb rfl (fun c1 => ?_) (fun c2 => ?_)
  · skip
    refine zG_s rfl rfl ?_
    -- leaf 1
    exact zG_ret rfl rfl (zfin (by rw [zo_shelf, zb_no c1]) hF hI)
  · skip
    obtain ⟨i, hi, rfl⟩ := zin_of c2 (by omega)
    refine zG_s rfl rfl ?_
    refine zN_lt0 rfl (by omega) ?_
    refine zG_s rfl rfl ?_
    refine zG_s rfl rfl ?_
    refine zN_ile (x := 0) (y := 2) rfl (by omega) (by omega) (fun c5 => ?_) (fun q => absurd q (by omega))
    refine zG_s rfl rfl ?_
    refine zN_ne0 (x := 0) rfl (by omega) (fun q => absurd q (by decide)) (fun c8 => ?_)
    refine zG_s rfl rfl ?_
    refine zG_cS1 rfl rfl ct_isKind ?_
    refine zN_ifb rfl (fun c9 => ?_) (fun c10 => ?_)
    · skip
      refine zG_s rfl rfl ?_
      -- leaf 2
      exact zG_ret rfl rfl (zfin (by rw [zo_shelf, zb_i hi (by omega), zb_i (show 0 < 3 by decide) (by decide), if_pos rfl, zb_no c9]) hF hI)
    · skip
      obtain ⟨k, hk, rfl⟩ := zin_of c10 (by omega)
      refine zG_s rfl rfl ?_
      refine zG_s rfl rfl ?_
      refine zN_ine (x := 0) (y := 1) rfl (by omega) (by omega) (fun c11 => ?_) (fun q => absurd q (by decide))
      refine zG_s rfl rfl ?_
      refine zN_ne0 (x := 0) rfl (by omega) (fun q => absurd q (by decide)) (fun c14 => ?_)
      refine zG_s rfl rfl ?_
      refine zN_get rfl hI.ob rfl ?_
      refine zG_s rfl rfl ?_
      refine zG_s rfl rfl ?_
      refine zN_ast rfl v1 (by omega) (by omega) rfl ?_
      have hFq := (zFr.rf (h := h) (S := fun j => j = 66 ∨ j = 67)).set (k := 66) (c := .inl (0, 4, .inl (upd f i (nI k)))) (Or.inl rfl)
      have hI := hI.u_sv (V := fun j => if j = i then (k + 1, (s.2.2.2.2.2.1 i).2) else s.2.2.2.2.2.1 j) ⟨_, g, zset_eq _ _ _, by rw [zset_ne _ _ (by omega)]; exact v2, zSv_up v3 (zHvI_s (c := k + 1) (by omega)).symm (fun q => absurd q (by omega))⟩ hFq
      have hF := hF.tr (hFq.mono (fun j hj => by unfold zcR; omega))
      refine zG_s rfl rfl ?_
      refine zG_s rfl rfl ?_
      -- leaf 3
      exact zG_ret rfl rfl (zfin (by rw [zo_shelf, zb_i hi (by omega), zb_i (show 0 < 3 by decide) (by decide), if_pos rfl, zb_i hk (by omega)]; first | done | rfl) hF hI)
theorem co_shelf2 {d : Nat} {h : zH} {s : zST} {a c : Int32} (hI : zCI h s) (hW : zWT s) : zCallP (d + 2) 137 [.ref 2, .int a, .int (nI 2), .int c] h (zOut h (zo_shelf s a (nI 2) c)) := by
  have hF : zFr zcR h h := zFr.rf
  obtain ⟨f, g, v1, v2, v3⟩ := hI.sv
  refine zG_mP (t := tX9_shelf) (ls0 := [.ref 2, .int a, .int (nI 2), .int c]) rfl rfl (zdnR (zdnI (zdnI (zdnI zdn0)))) rfl ?_
  refine zG_s rfl rfl ?_
  refine zG_cS1 rfl rfl ct_isShelf ?_
  refine zN_ifb rfl (fun c1 => ?_) (fun c2 => ?_)
  · skip
    refine zG_s rfl rfl ?_
    -- leaf 1
    exact zG_ret rfl rfl (zfin (by rw [zo_shelf, zb_no c1]) hF hI)
  · skip
    obtain ⟨i, hi, rfl⟩ := zin_of c2 (by omega)
    refine zG_s rfl rfl ?_
    refine zN_lt0 rfl (by omega) ?_
    refine zG_s rfl rfl ?_
    refine zG_s rfl rfl ?_
    refine zN_ile (x := 2) (y := 2) rfl (by omega) (by omega) (fun c5 => ?_) (fun q => absurd q (by omega))
    refine zG_s rfl rfl ?_
    refine zN_ne0 (x := 2) rfl (by omega) (fun c7 => ?_) (fun q => absurd q (by decide))
    refine zG_s rfl rfl ?_
    refine zG_s rfl rfl ?_
    refine zN_ine (x := 2) (y := 1) rfl (by omega) (by omega) (fun c9 => ?_) (fun q => absurd q (by decide))
    refine zG_s rfl rfl ?_
    refine zN_ne0 (x := 2) rfl (by omega) (fun c11 => ?_) (fun q => absurd q (by decide))
    refine zG_s rfl rfl ?_
    refine zG_s rfl rfl ?_
    refine zN_ine (x := 2) (y := 1) rfl (by omega) (by omega) (fun c13 => ?_) (fun q => absurd q (by decide))
    refine zG_s rfl rfl ?_
    refine zN_get rfl hI.ob rfl ?_
    refine zG_s rfl rfl ?_
    refine zG_s rfl rfl ?_
    refine zN_ast rfl v1 (by omega) (by omega) rfl ?_
    have hFq := (zFr.rf (h := h) (S := fun j => j = 66 ∨ j = 67)).set (k := 66) (c := .inl (0, 4, .inl (upd f i (-11)))) (Or.inl rfl)
    have hI := hI.u_sv (V := fun j => if j = i then (0, (s.2.2.2.2.2.1 i).2) else s.2.2.2.2.2.1 j) ⟨_, g, zset_eq _ _ _, by rw [zset_ne _ _ (by omega)]; exact v2, zSv_up v3 rfl (fun q => absurd q (by omega))⟩ hFq
    have hF := hF.tr (hFq.mono (fun j hj => by unfold zcR; omega))
    refine zG_s rfl rfl ?_
    -- leaf 2
    exact zG_ret rfl rfl (zfin (by rw [zo_shelf, zb_i hi (by omega), zb_i (show 2 < 3 by decide) (by decide), if_neg (by decide), if_neg (by decide)]; first | done | rfl) hF hI)
theorem co_shelf1 {d : Nat} {h : zH} {s : zST} {a c : Int32} (hI : zCI h s) (hW : zWT s) : zCallP (d + 2) 137 [.ref 2, .int a, .int (nI 1), .int c] h (zOut h (zo_shelf s a (nI 1) c)) := by
  have hF : zFr zcR h h := zFr.rf
  obtain ⟨f, g, v1, v2, v3⟩ := hI.sv
  refine zG_mP (t := tX9_shelf) (ls0 := [.ref 2, .int a, .int (nI 1), .int c]) rfl rfl (zdnR (zdnI (zdnI (zdnI zdn0)))) rfl ?_
  refine zG_s rfl rfl ?_
  refine zG_cS1 rfl rfl ct_isShelf ?_
  refine zN_ifb rfl (fun c1 => ?_) (fun c2 => ?_)
  · skip
    refine zG_s rfl rfl ?_
    -- leaf 1
    exact zG_ret rfl rfl (zfin (by rw [zo_shelf, zb_no c1]) hF hI)
  · skip
    obtain ⟨i, hi, rfl⟩ := zin_of c2 (by omega)
    refine zG_s rfl rfl ?_
    refine zN_lt0 rfl (by omega) ?_
    refine zG_s rfl rfl ?_
    refine zG_s rfl rfl ?_
    refine zN_ile (x := 1) (y := 2) rfl (by omega) (by omega) (fun c5 => ?_) (fun q => absurd q (by omega))
    refine zG_s rfl rfl ?_
    refine zN_ne0 (x := 1) rfl (by omega) (fun c7 => ?_) (fun q => absurd q (by decide))
    refine zG_s rfl rfl ?_
    refine zG_s rfl rfl ?_
    refine zN_ine (x := 1) (y := 1) rfl (by omega) (by omega) (fun q => absurd rfl q) (fun c10 => ?_)
    refine zG_s rfl rfl ?_
    refine zG_cS1 rfl rfl ct_isSheet ?_
    refine zN_ifnb rfl (fun c11 => ?_) (fun c12 => ?_)
    · skip
      obtain ⟨k, hk, rfl⟩ := zin_of c11 (by omega)
      obtain ⟨f2, hS, hf2⟩ := hI.sh k hk
      obtain ⟨hst, hln⟩ := hW.2.2.2.1 k hk
      refine zG_s rfl rfl ?_
      refine zN_ne0 (x := 1) rfl (by omega) (fun c13 => ?_) (fun q => absurd q (by decide))
      refine zG_s rfl rfl ?_
      refine zG_s rfl rfl ?_
      refine zN_ine (x := 1) (y := 1) rfl (by omega) (by omega) (fun q => absurd rfl q) (fun c16 => ?_)
      refine zG_s rfl rfl ?_
      refine zN_get rfl hI.ob rfl ?_
      refine zG_s rfl rfl ?_
      refine zN_qa (tt := 1) rfl hI.ah (by omega) (by omega) ?_
      refine zN_get rfl hS.1 rfl ?_
      refine zG_s rfl rfl ?_
      refine zN_seq1 rfl (by omega) (fun c17 => ?_) (fun c18 => ?_)
      · skip
        refine zG_s rfl rfl ?_
        refine zN_get rfl hI.ob rfl ?_
        refine zG_s rfl rfl ?_
        refine zG_s rfl rfl ?_
        refine zN_ast rfl v1 (by omega) (by omega) rfl ?_
        have hFq := (zFr.rf (h := h) (S := fun j => j = 66 ∨ j = 67)).set (k := 66) (c := .inl (0, 4, .inl (upd f i (-11)))) (Or.inl rfl)
        have hI := hI.u_sv (V := fun j => if j = i then (0, (s.2.2.2.2.2.1 i).2) else s.2.2.2.2.2.1 j) ⟨_, g, zset_eq _ _ _, by rw [zset_ne _ _ (by omega)]; exact v2, zSv_up v3 rfl (fun q => absurd q (by omega))⟩ hFq
        have hF := hF.tr (hFq.mono (fun j hj => by unfold zcR; omega))
        refine zG_s rfl rfl ?_
        -- leaf 2
        exact zG_ret rfl rfl (zfin (by rw [zo_shelf, zb_i hi (by omega), zb_i (show 1 < 3 by decide) (by decide), if_neg (by decide), if_pos rfl, zb_i hk (by omega), if_pos c17]; first | done | rfl) hF hI)
      · skip
        refine zG_s rfl rfl ?_
        refine zN_get rfl hI.ob rfl ?_
        refine zG_s rfl rfl ?_
        refine zG_s rfl rfl ?_
        refine zG_s rfl rfl ?_
        refine zN_get rfl hI.ob rfl ?_
        refine zG_s rfl rfl ?_
        refine zN_qa (tt := 1) rfl hI.ah (by omega) (by omega) ?_
        refine zN_get rfl hS.1 rfl ?_
        obtain ⟨t9, ht9⟩ : ∃ t, (s.2.2.2.2.1 k).1 = t + 1 := ⟨(s.2.2.2.2.1 k).1 - 1, by omega⟩
        rw [show zbv (s.2.2.2.2.1 k).1 = nI t9 from by rw [ht9]; rfl]
        refine zN_add rfl ?_
        refine zN_ast rfl v1 (by omega) (by omega) rfl ?_
        have hFq := (zFr.rf (h := h) (S := fun j => j = 66 ∨ j = 67)).set (k := 66) (c := .inl (0, 4, .inl (upd f i (nI (10 + t9))))) (Or.inl rfl)
        have o1 := hFq.eq (j := 2) (by omega) hI.ob
        have o2 := zQa.fr hFq (by omega) hI.ah
        have hS := (⟨hFq.eq (by omega) hS.1, hFq.eq (by omega) hS.2⟩ : zSh _ (104 + 2 * k) _ _ f2)
        have v2b : (zset h 66 (.inl (0, 4, .inl (upd f i (nI (10 + t9)))))).2.2 67 = .inl (0, 4, .inl g) := by rw [zset_ne _ _ (by omega)]; exact v2
        refine zG_s rfl rfl ?_
        refine zN_get rfl o1 rfl ?_
        refine zG_s rfl rfl ?_
        refine zG_s rfl rfl ?_
        refine zN_get rfl o1 rfl ?_
        refine zG_s rfl rfl ?_
        refine zN_qa (tt := 1) rfl o2 (by omega) (by omega) ?_
        refine zN_get rfl hS.1 rfl ?_
        refine zN_ast rfl v2b (by omega) (by omega) rfl ?_
        refine zG_s rfl rfl ?_
        refine zG_s rfl rfl ?_
        -- leaf 3
        have hFq2 := hFq.set (k := 67) (c := .inl (0, 4, .inl (upd g i (nI (s.2.2.2.2.1 k).2.1)))) (Or.inr rfl)
        have hI := hI.u_sv (V := fun j => if j = i then (10 + (s.2.2.2.2.1 k).1, (s.2.2.2.2.1 k).2.1) else s.2.2.2.2.2.1 j) ⟨upd f i (nI (10 + t9)), upd g i (nI (s.2.2.2.2.1 k).2.1), by rw [zset_ne _ _ (by omega)]; exact zset_eq _ _ _, zset_eq _ _ _, zSv_up2 v3 (by rw [zHvI_s (by omega), ht9]; rfl)⟩ hFq2
        have hF := hF.tr (hFq2.mono (fun j hj => by unfold zcR; omega))
        exact zG_ret rfl rfl (zfin (by rw [zo_shelf, zb_i hi (by omega), zb_i (show 1 < 3 by decide) (by decide), if_neg (by decide), if_pos rfl, zb_i hk (by omega), if_neg c18]; first | done | rfl) hF hI)
    · skip
      refine zG_s rfl rfl ?_
      -- leaf 4
      exact zG_ret rfl rfl (zfin (by rw [zo_shelf, zb_i hi (by omega), zb_i (show 1 < 3 by decide) (by decide), if_neg (by decide), if_pos rfl, zb_no c12]) hF hI)
theorem co_shelfX {d : Nat} {h : zH} {s : zST} {a b c : Int32} (hI : zCI h s) (hW : zWT s) (hb : zin b 3 = false) : zCallP (d + 2) 137 [.ref 2, .int a, .int b, .int c] h (zOut h (zo_shelf s a b c)) := by
  have hF : zFr zcR h h := zFr.rf
  refine zG_mP (t := tX9_shelf) (ls0 := [.ref 2, .int a, .int b, .int c]) rfl rfl (zdnR (zdnI (zdnI (zdnI zdn0)))) rfl ?_
  refine zG_s rfl rfl ?_
  refine zG_cS1 rfl rfl ct_isShelf ?_
  refine zN_ifb rfl (fun c1 => ?_) (fun c2 => ?_)
  · skip
    refine zG_s rfl rfl ?_
    -- leaf 1
    exact zG_ret rfl rfl (zfin (by rw [zo_shelf, zb_no c1]) hF hI)
  · skip
    obtain ⟨i, hi, rfl⟩ := zin_of c2 (by omega)
    refine zG_s rfl rfl ?_
    refine zN_if rfl (fun c3 => ?_) (fun c4 => ?_)
    · skip
      refine zG_s rfl rfl ?_
      -- leaf 2
      exact zG_ret rfl rfl (zfin (by rw [zo_shelf, zb_i hi (by omega), zb_no hb]) hF hI)
    · skip
      refine zG_s rfl rfl ?_
      refine zG_s rfl rfl ?_
      refine zN_if2 rfl (fun q => by rw [zraw_le (n := 2) (by decide) c4 q] at hb; cases hb) (fun c6 => ?_)
      refine zG_s rfl rfl ?_
      -- leaf 3
      exact zG_ret rfl rfl (zfin (by rw [zo_shelf, zb_i hi (by omega), zb_no hb]) hF hI)
theorem co_shelf {d : Nat} {h : zH} {s : zST} {a b c : Int32} (hI : zCI h s) (hW : zWT s) : zCallP (d + 2) 137 [.ref 2, .int a, .int b, .int c] h (zOut h (zo_shelf s a b c)) := by
  rcases zcs3 b with rfl | rfl | rfl | e
  · exact co_shelf0 hI hW
  · exact co_shelf1 hI hW
  · exact co_shelf2 hI hW
  · exact co_shelfX hI hW e
theorem ct_runX {d : Nat} {h0 h : zH} {o w : Nat} {w0 b x : Int32} (ho2 : 2 ≤ o) (hA : zAc h0 o w0 [] h) (hw : w < 6) : zCallP (d + 11) 3 [.ref o, .int (nI w), .int b, .int x] h (zRV (.int (zAct w b x).1) (zAc h0 o (nI w) (zAct w b x).2)) := by
  rcases zcs3 b with rfl | rfl | rfl | e
  · exact ct_run0 ho2 hA hw (by decide)
  · exact ct_run1 ho2 hA hw (by decide)
  · exact ct_run2 ho2 hA hw (by decide)
  · have e2 : zAct w b x = (nI 0, []) := by rw [zAct, zn_no e]
    rw [e2]
    obtain ⟨r, hr, hp⟩ := ct_runx (d := d + 10) hA (w := w) (x := x) e
    exact ⟨r, hr, hp⟩
theorem co_act {d : Nat} {h : zH} {s : zST} {a b c : Int32} (hI : zCI h s) (hW : zWT s) : zCallP (d + 12) 139 [.ref 2, .int a, .int b, .int c] h (zOut h (zo_act s a b c)) := by
  obtain ⟨w0, -, u1, tr, u2, u3⟩ := hI.ac
  refine zG_mP (t := tX9_act) (ls0 := [.ref 2, .int a, .int b, .int c]) rfl rfl (zdnR (zdnI (zdnI (zdnI zdn0)))) rfl ?_
  refine zG_s rfl rfl ?_
  refine zN_get rfl hI.ob rfl ?_
  refine zG_cV0 rfl rfl u1 rfl rfl (ct_clear u1) ?_
  have hFr : zFr (fun j => j = 63) h (zset h 63 (.inr (0, [.ref (63 + 1), .int (nI 0), .int w0]))) := zFr.rf.set rfl
  have hFq := hFr.mono (S' := zaS 63) (fun j hj => by subst hj; exact ⟨by omega, by omega⟩)
  have hA : zAc h 63 w0 [] (zset h 63 (.inr (0, [.ref (63 + 1), .int (nI 0), .int w0]))) := ⟨hFq, zset_eq _ _ _, tr, by rw [zset_ne _ _ (by omega)]; exact u2, fun i hi => absurd hi (Nat.not_lt_zero i)⟩
  have hI0 := hI
  have hI := hI0.u_ac (TL := []) ⟨w0, zFr.rf, hA.2.1, hA.2.2⟩ hFq
  have hF := hFq.mono (zcR_a (o := 63) (by omega) (by omega))
  obtain ⟨f, g, v1, v2, v3⟩ : zc_sv _ s.2.2.2.2.2.1 := hI.sv
  refine zG_s rfl rfl ?_
  refine zG_cS1 rfl rfl ct_isShelf ?_
  refine zN_ifb rfl (fun c1 => ?_) (fun c2 => ?_)
  · skip
    refine zG_s rfl rfl ?_
    -- leaf 1
    exact zG_ret rfl rfl (zfin (by rw [zo_act, zn_no c1]; first | done | rfl) hF hI)
  · skip
    obtain ⟨i, hi, rfl⟩ := zin_of c2 (by decide)
    obtain ⟨hc1, hc2, hc3, hc4, hc5, hc6⟩ := hW.2.2.2.2.1 i hi
    refine zG_s rfl rfl ?_
    refine zN_get rfl hI.ob rfl ?_
    refine zG_s rfl rfl ?_
    refine zN_ald rfl v1 (by omega) (by omega) (v3 i hi).1 ?_
    refine zG_cS1 rfl rfl ct_isKind ?_
    refine zN_ifnb rfl (fun c3 => ?_) (fun c4 => ?_)
    · skip
      rw [zHvI_k (by omega), decide_eq_true_eq] at c3
      refine zG_s rfl rfl ?_
      refine zN_get rfl hI.ob rfl ?_
      refine zG_s rfl rfl ?_
      refine zN_get rfl hI.ob rfl ?_
      refine zG_s rfl rfl ?_
      refine zN_ald rfl v1 (by omega) (by omega) ((v3 i hi).1.trans (zHvI_s (by omega))) ?_
      refine zG_s rfl rfl ?_
      refine zG_s rfl rfl ?_
      refine zG_cQV rfl rfl hA.2.1 rfl rfl (ct_runX (by omega) hA (by omega)) (fun h2 hB => ?_)
      have hI := hI0.u_ac (TL := (zAct ((s.2.2.2.2.2.1 i).1 - 1) b c).2) ⟨nI ((s.2.2.2.2.2.1 i).1 - 1), zFr.rf, hB.2.1, hB.2.2⟩ hB.1
      have hF := hB.1.mono (zcR_a (o := 63) (by omega) (by omega))
      -- leaf 2
      exact zG_ret rfl rfl (zfin (by rw [zo_act, zn_i hi (by omega)]; show (if 1 ≤ (s.2.2.2.2.2.1 i).1 ∧ (s.2.2.2.2.2.1 i).1 ≤ 6 then _ else _) = _; rw [if_pos c3]) hF hI)
    · skip
      refine zG_s rfl rfl ?_
      -- leaf 3
      rw [zHvI_k (by omega), decide_eq_false_iff_not] at c4
      exact zG_ret rfl rfl (zfin (by rw [zo_act, zn_i hi (by omega)]; show (if 1 ≤ (s.2.2.2.2.2.1 i).1 ∧ (s.2.2.2.2.2.1 i).1 ≤ 6 then _ else _) = _; rw [if_neg c4]; first | done | rfl) hF hI)
theorem co_trace {d : Nat} {h : zH} {s : zST} {a : Int32} (hI : zCI h s) (hW : zWT s) : zCallP (d + 1) 140 [.ref 2, .int a] h (zOut h (zo_trace s a)) := by
  have hF : zFr zcR h h := zFr.rf
  obtain ⟨w0, -, u1, tr, u2, u3⟩ := hI.ac
  have hL := hW.2.2.2.2.2
  refine zG_mP (t := tX9_trace) (ls0 := [.ref 2, .int a]) rfl rfl (zdnR (zdnI zdn0)) rfl ?_
  refine zG_s rfl rfl ?_
  refine zN_if rfl (fun c1 => ?_) (fun c2 => ?_)
  · skip
    refine zG_s rfl rfl ?_
    -- leaf 1
    exact zG_ret rfl rfl (zfin (by rw [zo_trace, zraw_lt0 c1]; first | done | rfl) hF hI)
  · skip
    refine zG_s rfl rfl ?_
    refine zG_s rfl rfl ?_
    refine zN_get rfl hI.ob rfl ?_
    refine zN_get rfl u1 rfl ?_
    refine zN_if2 rfl (fun c3 => ?_) (fun c4 => ?_)
    · skip
      refine zG_s rfl rfl ?_
      -- leaf 2
      exact zG_ret rfl rfl (zfin (by rw [zo_trace, zraw_ge (by omega) c3]; first | done | rfl) hF hI)
    · skip
      obtain ⟨j, hj, rfl⟩ := zin_of (zraw_in (by omega) c2 c4) (by omega)
      refine zG_s rfl rfl ?_
      refine zG_s rfl rfl ?_
      refine zN_ige (y := 30) rfl (by omega) (by omega) (fun q => absurd q (by omega)) (fun c6 => ?_)
      refine zG_s rfl rfl ?_
      refine zN_get rfl hI.ob rfl ?_
      refine zN_get rfl u1 rfl ?_
      refine zG_s rfl rfl ?_
      refine zN_ald rfl u2 (by omega) (by omega) (u3 j hj) ?_
      refine zG_s rfl rfl ?_
      -- leaf 3
      exact zG_ret rfl rfl (zfin (by rw [zo_trace, zin_n hj (by omega), if_pos rfl, nI_cl (by omega)]; first | done | rfl) hF hI)
theorem co_takenX {d : Nat} {h : zH} {s : zST} {a b : Int32} (hI : zCI h s) (hW : zWT s) (hb : zin b 13 = false) : zCallP (d + 2) 138 [.ref 2, .int a, .int b] h (zOut h (zo_taken s a b)) := by
  have hF : zFr zcR h h := zFr.rf
  have hb6 : zin b 6 = false := by
    cases q : zin b 6 with
    | false => rfl
    | true =>
      obtain ⟨j, hj, rfl⟩ := zin_of q (by decide)
      rw [zin_n (by omega) (by decide)] at hb
      cases hb
  refine zG_mP (t := tX9_taken) (ls0 := [.ref 2, .int a, .int b, .null, .null]) rfl rfl (zdnR (zdnI (zdnI zdn0))) rfl ?_
  have jn17 : True → zGoP (d + 1) tX9_taken 17 [.ref 2, .int a, .int b, .null, .null] [.int (nI 0)] h (zOut h (zo_taken s a b)) := by
    intro _
    refine zN_st3 rfl (fun _ _ _ => rfl) rfl ?_
    refine zG_s rfl rfl ?_
    refine zG_cS1 rfl rfl ct_isShelf ?_
    refine zN_ifb rfl (fun c1 => ?_) (fun c2 => ?_)
    · skip
      refine zG_s rfl rfl ?_
      -- leaf 1
      exact zG_ret rfl rfl (zfin (by rw [zo_taken, zb_no c1]) hF hI)
    · skip
      refine zG_s rfl rfl ?_
      refine zG_cS1 rfl rfl ct_isKind ?_
      rw [hb6]
      refine zN_ne0 (x := 0) rfl (by omega) (fun q => absurd q (by decide)) (fun c4 => ?_)
      refine zG_s rfl rfl ?_
      refine zN_ne0 (x := 0) rfl (by omega) (fun q => absurd q (by decide)) (fun c6 => ?_)
      refine zG_s rfl rfl ?_
      -- leaf 2
      obtain ⟨i, hi, rfl⟩ := zin_of c2 (by decide)
      exact zG_ret rfl rfl (zfin (by rw [zo_taken, zb_i hi (by omega), zb_no hb]) hF hI)
  refine zG_s rfl rfl ?_
  refine zG_s rfl rfl ?_
  refine zN_if2 rfl (fun c7 => ?_) (fun c8 => ?_)
  · skip
    refine zG_s rfl rfl ?_
    -- leaf 3
    exact jn17 trivial
  · skip
    refine zG_s rfl rfl ?_
    refine zG_s rfl rfl ?_
    refine zN_if2 rfl (fun c9 => ?_) (fun q => by rw [zb12 c8 q] at hb; cases hb)
    refine zG_s rfl rfl ?_
    -- leaf 4
    exact jn17 trivial
theorem co_takenK {d : Nat} {h : zH} {s : zST} {a : Int32} {k : Nat} (hI : zCI h s) (hW : zWT s) (hk : k < 13) : zCallP (d + 2) 138 [.ref 2, .int a, .int (nI k)] h (zOut h (zo_taken s a (nI k))) := by
  have hF : zFr zcR h h := zFr.rf
  obtain ⟨f, g, v1, v2, v3⟩ := hI.sv
  obtain ⟨ka, ka1, ka2⟩ := hI.ka
  refine zG_mP (t := tX9_taken) (ls0 := [.ref 2, .int a, .int (nI k), .null, .null]) rfl rfl (zdnR (zdnI (zdnI zdn0))) rfl ?_
  have jn17 : ∀ w : Bool, w = decide (10 ≤ k) → zGoP (d + 1) tX9_taken 17 [.ref 2, .int a, .int (nI k), .null, .null] [.int (nI (b2n w))] h (zOut h (zo_taken s a (nI k))) := by
    intro w ew
    refine zN_st3 rfl (fun _ _ _ => rfl) rfl ?_
    refine zG_s rfl rfl ?_
    refine zG_cS1 rfl rfl ct_isShelf ?_
    refine zN_ifb rfl (fun c1 => ?_) (fun c2 => ?_)
    · skip
      refine zG_s rfl rfl ?_
      -- leaf 1
      exact zG_ret rfl rfl (zfin (by rw [zo_taken, zb_no c1]) hF hI)
    · skip
      obtain ⟨i, hi, rfl⟩ := zin_of c2 (by decide)
      obtain ⟨hc1, hc2, hc3, hc4, hc5, hc6⟩ := hW.2.2.2.2.1 i hi
      have hrs : zo_taken s (nI i) (nI k) = if 6 ≤ k ∧ k < 10 then (-1, s) else (zTkn (s.2.2.2.2.2.1 i).1 (s.2.2.2.2.2.1 i).2 k, s) := by rw [zo_taken, zb_i hi (by omega), zb_i hk (by omega)]
      refine zG_s rfl rfl ?_
      have jn38 : ¬ (6 ≤ k ∧ k < 10) → zGoP (d + 1) tX9_taken 38 [.ref 2, .int (nI i), .int (nI k), .int (nI (b2n w)), .null] [] h (zOut h (zo_taken s (nI i) (nI k))) := by
        intro hk2
        refine zG_s rfl rfl ?_
        refine zN_get rfl hI.ob rfl ?_
        refine zG_s rfl rfl ?_
        refine zN_ald rfl v1 (by omega) (by omega) (v3 i hi).1 ?_
        refine zN_st4 rfl (fun _ _ _ => rfl) rfl ?_
        refine zG_s rfl rfl ?_
        refine zN_if rfl (fun c3 => ?_) (fun c4 => ?_)
        · skip
          rw [zHvI_ge (by omega), decide_eq_true_eq] at c3
          refine zG_s rfl rfl ?_
          refine zN_ifb rfl (fun c5 => ?_) (fun c6 => ?_)
          · skip
            refine zG_s rfl rfl ?_
            refine zG_cS1 rfl rfl ct_isKind ?_
            refine zN_ifb rfl (fun c7 => ?_) (fun c8 => ?_)
            · skip
              refine zG_s rfl rfl ?_
              -- leaf 2
              have hk10 : ¬ 10 ≤ k := of_decide_eq_false (ew.symm.trans c5)
              rw [zHvI_k (by omega), decide_eq_false_iff_not] at c7
              exact zG_ret rfl rfl (zfin (by rw [hrs, if_neg hk2, zTkn, if_neg c3, if_neg hk10, if_neg (fun q => c7 ⟨by omega, q.1⟩)]) hF hI)
            · skip
              have hk10 : ¬ 10 ≤ k := of_decide_eq_false (ew.symm.trans c5)
              rw [zHvI_k (by omega), decide_eq_true_eq] at c8
              rw [zHvI_s (show (s.2.2.2.2.2.1 i).1 ≠ 0 by omega)]
              refine zG_s rfl rfl ?_
              refine zG_s rfl rfl ?_
              refine zG_cS1 rfl rfl (ct_isUnder ka1 ka2 (by omega) (by omega)) ?_
              refine zN_ifb rfl (fun c9 => ?_) (fun c10 => ?_)
              · skip
                refine zG_s rfl rfl ?_
                -- leaf 3
                have hk10 : ¬ 10 ≤ k := of_decide_eq_false (ew.symm.trans c5)
                exact zG_ret rfl rfl (zfin (by rw [hrs, if_neg hk2, zTkn, if_neg c3, if_neg hk10, if_neg (fun q => by rw [c9] at q; exact absurd q.2 (by simp))]) hF hI)
              · skip
                refine zG_s rfl rfl ?_
                refine zG_s rfl rfl ?_
                -- leaf 4
                have hk10 : ¬ 10 ≤ k := of_decide_eq_false (ew.symm.trans c5)
                exact zG_ret rfl rfl (zfin (by rw [hrs, if_neg hk2, zTkn, if_neg c3, if_neg hk10, if_pos ⟨c8.2, c10⟩]) hF hI)
          · skip
            refine zG_s rfl rfl ?_
            refine zG_s rfl rfl ?_
            refine zN_if2 rfl (fun c11 => ?_) (fun c12 => ?_)
            · skip
              refine zG_s rfl rfl ?_
              -- leaf 5
              rw [zHvI_eq (by omega) (by omega) c3, decide_eq_true_eq] at c11
              have hk10 : 10 ≤ k := of_decide_eq_true (ew.symm.trans c6)
              exact zG_ret rfl rfl (zfin (by rw [hrs, if_neg hk2, zTkn, if_neg c3, if_pos hk10, if_neg c11]) hF hI)
            · skip
              rw [zHvI_eq (by omega) (by omega) c3, decide_eq_false_iff_not, Decidable.not_not] at c12
              have hk10 : 10 ≤ k := of_decide_eq_true (ew.symm.trans c6)
              refine zG_s rfl rfl ?_
              refine zN_get rfl hI.ob rfl ?_
              refine zG_s rfl rfl ?_
              refine zN_ald rfl v2 (by omega) (by omega) ((v3 i hi).2 (by omega)) ?_
              refine zG_s rfl rfl ?_
              -- leaf 6
              exact zG_ret rfl rfl (zfin (by rw [hrs, if_neg hk2, zTkn, if_neg c3, if_pos hk10, if_pos c12]) hF hI)
        · skip
          refine zG_s rfl rfl ?_
          -- leaf 7
          rw [zHvI_ge (by omega), decide_eq_false_iff_not, Decidable.not_not] at c4
          exact zG_ret rfl rfl (zfin (by rw [hrs, if_neg hk2, zTkn, if_pos c4]) hF hI)
      refine zG_cS1 rfl rfl ct_isKind ?_
      refine zN_ifnb rfl (fun c13 => ?_) (fun c14 => ?_)
      · skip
        -- leaf 8
        obtain ⟨j, hj, e⟩ := zin_of c13 (by decide)
        have := (nI_inj (by omega) (by omega)).mp e
        exact jn38 (by omega)
      · skip
        refine zG_s rfl rfl ?_
        refine zN_ifnb rfl (fun c15 => ?_) (fun c16 => ?_)
        · skip
          -- leaf 9
          have hk10 : 10 ≤ k := of_decide_eq_true (ew.symm.trans c15)
          exact jn38 (by omega)
        · skip
          refine zG_s rfl rfl ?_
          -- leaf 10
          have hk10 : ¬ 10 ≤ k := of_decide_eq_false (ew.symm.trans c16)
          have hk6 : ¬ k < 6 := fun q => by
            rw [zin_n q (by decide)] at c14
            cases c14
          exact zG_ret rfl rfl (zfin (by rw [hrs, if_pos (by omega)]) hF hI)
  refine zG_s rfl rfl ?_
  refine zG_s rfl rfl ?_
  refine zN_ilt (y := 10) rfl (by omega) (by omega) (fun c17 => ?_) (fun c18 => ?_)
  · skip
    refine zG_s rfl rfl ?_
    -- leaf 11
    exact jn17 false (decide_eq_false (by omega)).symm
  · skip
    refine zG_s rfl rfl ?_
    refine zG_s rfl rfl ?_
    refine zN_igt (y := 12) rfl (by omega) (by omega) (fun q => absurd q (by omega)) (fun c20 => ?_)
    refine zG_s rfl rfl ?_
    refine zG_s rfl rfl ?_
    -- leaf 12
    exact jn17 true (decide_eq_true (by omega)).symm
theorem co_taken {d : Nat} {h : zH} {s : zST} {a b : Int32} (hI : zCI h s) (hW : zWT s) : zCallP (d + 2) 138 [.ref 2, .int a, .int b] h (zOut h (zo_taken s a b)) := by
  cases q : zin b 13 with
  | false => exact co_takenX hI hW q
  | true =>
    obtain ⟨k, hk, rfl⟩ := zin_of q (by decide)
    exact co_takenK hI hW hk
