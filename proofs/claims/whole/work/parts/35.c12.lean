theorem ct_areSame {d : Nat} {h : zH} {o qa qb na nb : Nat} {la ha lb hb : Nat → Nat} (ho2 : 2 ≤ o) (hM0 : zMx h o) (hA : zSp h qa na la ha) (hB : zSp h qb nb lb hb) (hOa : zOk na la ha) (hOb : zOk nb lb hb) (h1 : zmN o qa) (h2 : zmN o qb) {sa sb : Nat} (hsa : sa < 256) (hsb : sb < 256) : zCallP (d + 12) 40 [.ref o, .ref qa, .int (nI sa), .ref qb, .int (nI sb)] h (zRV (.int (nI (b2n (zSame (zPos sa na) (zPl la sa) (zPl ha sa) (zPos sb nb) (zPl lb sb) (zPl hb sb)).isSome))) (fun h1 => zFr (zmS o) h h1 ∧ ∃ (nA nB : Nat) (ex fe : Bool) (fl fh tl th : Nat → Nat) (im : Nat → Int32), zM0 h1 o nA nB ex fe fl fh tl th im ∧ ∀ J, zSame (zPos sa na) (zPl la sa) (zPl ha sa) (zPos sb nb) (zPl lb sb) (zPl hb sb) = some J → ∀ j, j < zPos sa na → im j = nI (J j))) := by
  obtain ⟨nA, nB, ex, fe, fl, fh, tl, th, im, hM⟩ := hM0
  have pa := zPl_ok (s := sa) (lo := la) (hi := ha) hOa.1
  have pb := zPl_ok (s := sb) (lo := lb) (hi := hb) hOb.1
  have pa1 := pa.1
  have pb1 := pb.1
  have ap1 : zApart (o + 1) qa := by unfold zmN at h1; unfold zApart; omega
  have ap2 : zApart (o + 4) qb := by unfold zmN at h2; unfold zApart; omega
  have ap3 : zApart (o + 1) qb := by unfold zmN at h2; unfold zApart; omega
  generalize hQ : (zRV (.int (nI (b2n (zSame (zPos sa na) (zPl la sa) (zPl ha sa) (zPos sb nb) (zPl lb sb) (zPl hb sb)).isSome))) (fun h1 => zFr (zmS o) h h1 ∧ ∃ (nA nB : Nat) (ex fe : Bool) (fl fh tl th : Nat → Nat) (im : Nat → Int32), zM0 h1 o nA nB ex fe fl fh tl th im ∧ ∀ J, zSame (zPos sa na) (zPl la sa) (zPl ha sa) (zPos sb nb) (zPl lb sb) (zPl hb sb) = some J → ∀ j, j < zPos sa na → im j = nI (J j))) = Q
  refine zG_mP (t := tX4_areSame) (ls0 := [.ref o, .ref qa, .int (nI sa), .ref qb, .int (nI sb)]) rfl rfl (zdnR (zdnR (zdnI (zdnR (zdnI zdn0))))) rfl ?_
  refine zG_s rfl rfl ?_
  refine zN_get rfl hM.1 rfl ?_
  refine zG_s rfl rfl ?_
  refine zG_s rfl rfl ?_
  refine zG_cQN rfl rfl hM.2.2.1.1 rfl rfl (cp_part (by omega) hM.2.2.1 hA hOa ap1 hsa) (fun h2 hP2 => ?_)
  obtain ⟨hF2, hS2⟩ := hP2
  have hM2 := hM.q1 hF2 hS2
  refine zG_s rfl rfl ?_
  refine zN_get rfl hM2.1 rfl ?_
  refine zG_s rfl rfl ?_
  refine zG_s rfl rfl ?_
  refine zG_cQN rfl rfl hM2.2.2.2.1 rfl rfl (cp_part (by omega) hM2.2.2.2 (zSp.fs hF2 ap3 hB) hOb ap2 hsb) (fun h3 hP3 => ?_)
  obtain ⟨hF3, hS3⟩ := hP3
  have hM3 := hM2.q4 hF3 hS3
  have hF4 := (hF2.mono zmS_s1).tr (hF3.mono zmS_s4)
  have hM5 := hM3.p_b (e2 := true) (f2 := true)
  have hF5 := hF4.set (c := .inr (4, [.ref (o + 1), .ref (o + 4), .ref (o + 7), .int (nI (b2n true)), .int (nI (b2n true))])) (zmS_in (o := o) (k := 0) (by omega))
  refine zG_s rfl rfl ?_
  refine zG_s rfl rfl ?_
  refine zN_put (fs' := [.ref (o + 1), .ref (o + 4), .ref (o + 7), .int (nI (b2n true)), .int (nI (b2n fe))]) rfl hM3.1 rfl rfl rfl ?_
  refine zG_s rfl rfl ?_
  refine zG_s rfl rfl ?_
  refine zN_put (fs' := [.ref (o + 1), .ref (o + 4), .ref (o + 7), .int (nI (b2n true)), .int (nI (b2n true))]) rfl (zset_eq _ _ _) rfl rfl rfl ?_
  rw [zset_set]
  refine zG_s rfl rfl ?_
  refine zN_get rfl hM5.1 rfl ?_
  refine zN_get rfl hM5.2.2.1.1 rfl ?_
  refine zG_s rfl rfl ?_
  refine zN_get rfl hM5.1 rfl ?_
  refine zN_get rfl hM5.2.2.2.1 rfl ?_
  refine zN_ine rfl (by omega) (by omega) (fun c1 => ?_) (fun c2 => ?_)
  · skip
    refine zG_s rfl rfl ?_
    -- leaf 1
    have e0 : zSame (zPos sa na) (zPl la sa) (zPl ha sa) (zPos sb nb) (zPl lb sb) (zPl hb sb) = none := if_neg c1
    rw [← hQ]
    exact zG_ret rfl rfl ⟨by rw [e0]; rfl, hF5, _, _, _, _, _, _, _, _, _, hM5, fun J e => by rw [e0] at e; cases e⟩
  · skip
    refine zG_s rfl rfl ?_
    refine zG_s rfl rfl ?_
    refine zG_s rfl rfl ?_
    refine zG_cqV rfl rfl (by rw [show d + 11 = (d + 8 - zPos sa na) + zPos sa na + 3 by omega]; exact ct_fillF ho2 pa pb _ _ 0 0 (fun _ => 0) _ (by omega) hM5 (by omega) (fun j hj => absurd hj (by omega))) (fun h6 hP6 => ?_)
    obtain ⟨hF6, im6, hM6, -, hJ6⟩ := hP6
    have e0 : zSame (zPos sa na) (zPl la sa) (zPl ha sa) (zPos sb nb) (zPl lb sb) (zPl hb sb) = zFf true (zPos sb nb) (zPl la sa) (zPl ha sa) (zPl lb sb) (zPl hb sb) (zPos sa na) 0 0 (fun _ => 0) := if_pos (by assumption)
    rw [← e0] at hJ6 ⊢
    generalize zSame (zPos sa na) (zPl la sa) (zPl ha sa) (zPos sb nb) (zPl lb sb) (zPl hb sb) = S at hJ6 hQ ⊢
    refine zN_if rfl (fun c3 => ?_) (fun c4 => ?_)
    · skip
      refine zG_s rfl rfl ?_
      -- leaf 2
      cases S with
      | none => rw [← hQ]; exact zG_ret rfl rfl ⟨rfl, hF5.tr hF6, _, _, _, _, _, _, _, _, _, hM6, hJ6⟩
      | some v => exact absurd (show zc1 .le (nI 1) = true from c3) (by decide)
    · skip
      refine zG_s rfl rfl ?_
      refine zG_s rfl rfl ?_
      -- leaf 3
      cases S with
      | none => exact absurd (show zc1 .le (nI 0) = false from c4) (by decide)
      | some v => rw [← hQ]; exact zG_ret rfl rfl ⟨rfl, hF5.tr hF6, _, _, _, _, _, _, _, _, _, hM6, hJ6⟩
theorem ct_renumberings {d : Nat} {h : zH} {o qa qb na nb : Nat} {la ha lb hb : Nat → Nat} (ho2 : 2 ≤ o) (hM0 : zMx h o) (hA : zSp h qa na la ha) (hB : zSp h qb nb lb hb) (hOa : zOk na la ha) (hOb : zOk nb lb hb) (h1 : zmN o qa) (h2 : zmN o qb) : zCallP (d + 12) 41 [.ref o, .ref qa, .ref qb] h (zRV (.int (nI (zRenum na la ha nb lb hb))) (fun h1 => zFr (zmS o) h h1 ∧ zMx h1 o)) := by
  obtain ⟨nA, nB, ex, fe, fl, fh, tl, th, im, hM⟩ := hM0
  have pa1 := hOa.1
  have pb1 := hOb.1
  have ap1 : zApart (o + 1) qa := by unfold zmN at h1; unfold zApart; omega
  have ap2 : zApart (o + 4) qb := by unfold zmN at h2; unfold zApart; omega
  have ap3 : zApart (o + 1) qb := by unfold zmN at h2; unfold zApart; omega
  refine zG_mP (t := tX4_renumberings) (ls0 := [.ref o, .ref qa, .ref qb]) rfl rfl (zdnR (zdnR (zdnR zdn0))) rfl ?_
  refine zG_s rfl rfl ?_
  refine zN_get rfl hM.1 rfl ?_
  refine zG_s rfl rfl ?_
  refine zG_cQN rfl rfl hM.2.2.1.1 rfl rfl (cp_become (by omega) hM.2.2.1 hA hOa.1 ap1) (fun h2 hP2 => ?_)
  obtain ⟨hF2, hS2⟩ := hP2
  have hM2 := hM.q1 hF2 hS2
  refine zG_s rfl rfl ?_
  refine zN_get rfl hM2.1 rfl ?_
  refine zG_s rfl rfl ?_
  refine zG_cQN rfl rfl hM2.2.2.2.1 rfl rfl (cp_become (by omega) hM2.2.2.2 (zSp.fs hF2 ap3 hB) hOb.1 ap2) (fun h3 hP3 => ?_)
  obtain ⟨hF3, hS3⟩ := hP3
  have hM3 := hM2.q4 hF3 hS3
  have hF4 := (hF2.mono zmS_s1).tr (hF3.mono zmS_s4)
  have hM5 := hM3.p_b (e2 := true) (f2 := false)
  have hF5 := hF4.set (c := .inr (4, [.ref (o + 1), .ref (o + 4), .ref (o + 7), .int (nI (b2n true)), .int (nI (b2n false))])) (zmS_in (o := o) (k := 0) (by omega))
  refine zG_s rfl rfl ?_
  refine zG_s rfl rfl ?_
  refine zN_put (fs' := [.ref (o + 1), .ref (o + 4), .ref (o + 7), .int (nI (b2n true)), .int (nI (b2n fe))]) rfl hM3.1 rfl rfl rfl ?_
  refine zG_s rfl rfl ?_
  refine zG_s rfl rfl ?_
  refine zN_put (fs' := [.ref (o + 1), .ref (o + 4), .ref (o + 7), .int (nI (b2n true)), .int (nI (b2n false))]) rfl (zset_eq _ _ _) rfl rfl rfl ?_
  rw [zset_set]
  refine zG_s rfl rfl ?_
  refine zN_get rfl hM5.1 rfl ?_
  refine zN_get rfl hM5.2.2.1.1 rfl ?_
  refine zG_s rfl rfl ?_
  refine zN_get rfl hM5.1 rfl ?_
  refine zN_get rfl hM5.2.2.2.1 rfl ?_
  refine zN_ine rfl (by omega) (by omega) (fun c1 => ?_) (fun c2 => ?_)
  · skip
    refine zG_s rfl rfl ?_
    -- leaf 1
    have e0 : zRenum na la ha nb lb hb = 0 := if_neg c1
    rw [e0]
    exact zG_ret rfl rfl ⟨rfl, hF5, _, _, _, _, _, _, _, _, _, hM5⟩
  · skip
    refine zG_s rfl rfl ?_
    refine zG_s rfl rfl ?_
    refine zG_s rfl rfl ?_
    refine zG_cqV rfl rfl (by rw [show d + 11 = (d + 8 - na) + na + 3 by omega]; exact ct_fillC ho2 hOa hOb _ _ 0 0 (fun _ => 0) _ (by omega) hM5 (by omega) (fun j hj => absurd hj (by omega))) (fun h6 hP6 => ?_)
    obtain ⟨hF6, im6, hM6, -⟩ := hP6
    refine zG_s rfl rfl ?_
    -- leaf 2
    have e0 : zRenum na la ha nb lb hb = zFc true nb la ha lb hb na 0 0 (fun _ => 0) := if_pos c2
    rw [e0]
    exact zG_ret rfl rfl ⟨rfl, hF5.tr hF6, _, _, _, _, _, _, _, _, _, hM6⟩
theorem ct_wholeMaps {d : Nat} {h : zH} {o qa qb na nb : Nat} {la ha lb hb : Nat → Nat} (ho2 : 2 ≤ o) (hM0 : zMx h o) (hA : zSp h qa na la ha) (hB : zSp h qb nb lb hb) (hOa : zOk na la ha) (hOb : zOk nb lb hb) (h1 : zmN o qa) (h2 : zmN o qb) : zCallP (d + 12) 42 [.ref o, .ref qa, .ref qb] h (zRV (.int (nI (zFc false nb la ha lb hb na 0 0 (fun _ => 0)))) (fun h1 => zFr (zmS o) h h1 ∧ zMx h1 o)) := by
  obtain ⟨nA, nB, ex, fe, fl, fh, tl, th, im, hM⟩ := hM0
  have pa1 := hOa.1
  have pb1 := hOb.1
  have ap1 : zApart (o + 1) qa := by unfold zmN at h1; unfold zApart; omega
  have ap2 : zApart (o + 4) qb := by unfold zmN at h2; unfold zApart; omega
  have ap3 : zApart (o + 1) qb := by unfold zmN at h2; unfold zApart; omega
  refine zG_mP (t := tX4_wholeMaps) (ls0 := [.ref o, .ref qa, .ref qb]) rfl rfl (zdnR (zdnR (zdnR zdn0))) rfl ?_
  refine zG_s rfl rfl ?_
  refine zN_get rfl hM.1 rfl ?_
  refine zG_s rfl rfl ?_
  refine zG_cQN rfl rfl hM.2.2.1.1 rfl rfl (cp_become (by omega) hM.2.2.1 hA hOa.1 ap1) (fun h2 hP2 => ?_)
  obtain ⟨hF2, hS2⟩ := hP2
  have hM2 := hM.q1 hF2 hS2
  refine zG_s rfl rfl ?_
  refine zN_get rfl hM2.1 rfl ?_
  refine zG_s rfl rfl ?_
  refine zG_cQN rfl rfl hM2.2.2.2.1 rfl rfl (cp_become (by omega) hM2.2.2.2 (zSp.fs hF2 ap3 hB) hOb.1 ap2) (fun h3 hP3 => ?_)
  obtain ⟨hF3, hS3⟩ := hP3
  have hM3 := hM2.q4 hF3 hS3
  have hF4 := (hF2.mono zmS_s1).tr (hF3.mono zmS_s4)
  have hM5 := hM3.p_b (e2 := false) (f2 := false)
  have hF5 := hF4.set (c := .inr (4, [.ref (o + 1), .ref (o + 4), .ref (o + 7), .int (nI (b2n false)), .int (nI (b2n false))])) (zmS_in (o := o) (k := 0) (by omega))
  refine zG_s rfl rfl ?_
  refine zG_s rfl rfl ?_
  refine zN_put (fs' := [.ref (o + 1), .ref (o + 4), .ref (o + 7), .int (nI (b2n false)), .int (nI (b2n fe))]) rfl hM3.1 rfl rfl rfl ?_
  refine zG_s rfl rfl ?_
  refine zG_s rfl rfl ?_
  refine zN_put (fs' := [.ref (o + 1), .ref (o + 4), .ref (o + 7), .int (nI (b2n false)), .int (nI (b2n false))]) rfl (zset_eq _ _ _) rfl rfl rfl ?_
  rw [zset_set]
  refine zG_s rfl rfl ?_
  refine zG_s rfl rfl ?_
  refine zG_s rfl rfl ?_
  refine zG_cqV rfl rfl (by rw [show d + 11 = (d + 8 - na) + na + 3 by omega]; exact ct_fillC ho2 hOa hOb _ _ 0 0 (fun _ => 0) _ (by omega) hM5 (by omega) (fun j hj => absurd hj (by omega))) (fun h6 hP6 => ?_)
  obtain ⟨hF6, im6, hM6, -⟩ := hP6
  -- leaf 1
  exact zG_ret rfl rfl ⟨rfl, hF5.tr hF6, _, _, _, _, _, _, _, _, _, hM6⟩
