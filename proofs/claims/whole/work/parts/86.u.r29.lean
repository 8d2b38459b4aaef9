def zRshP (i k j : Nat) : Prop := (k = 18 ∨ k = 19) ∧ j = i ∨ k = 20 ∧ 40 * i ≤ j ∧ j < 40 * i + 40
theorem zRI.u_sh {P : Nat → Nat → Prop} {S S1 : zRS} {s : zST} {i st ln : Nat} {f : Nat → Int32} (hX : S1.2.1 18 i = zbv st ∧ (0 < st → S1.2.1 19 i = nI ln ∧ ∀ j, j < ln → S1.2.2 20 (40 * i + j) = (f j).toInt64)) (hI : zRI S s) (hW : zWT s) (hF : zRF P S S1) (hP : ∀ k j, P k j → zScr k j ∨ zRshP i k j) : zRI S1 (zsSh s i st ln f) :=
  ⟨hI.sp.fr (fun i hi => (hW.1 i hi).1) hF (fun k j g h => by have := hP k j h; unfold zScr zRshP at this; omega), hI.kp.fr hF (fun k j g h => by have := hP k j h; unfold zScr zRshP at this; omega), hI.z.fr hF (fun j g1 g2 h => by have := hP 0 j h; unfold zScr zRshP at this; omega), hI.tp.fr hF (fun h => by have := hP 0 27 h; unfold zScr zRshP at this; omega) (fun j h => by have := hP 17 j h; unfold zScr zRshP at this; omega), fun j hj => by
    show S1.2.1 18 j = zbv (if j = i then (st, ln, f) else s.2.2.2.2.1 j).1 ∧ (0 < (if j = i then (st, ln, f) else s.2.2.2.2.1 j).1 → S1.2.1 19 j = nI (if j = i then (st, ln, f) else s.2.2.2.2.1 j).2.1 ∧ ∀ q, q < (if j = i then (st, ln, f) else s.2.2.2.2.1 j).2.1 → S1.2.2 20 (40 * j + q) = ((if j = i then (st, ln, f) else s.2.2.2.2.1 j).2.2 q).toInt64)
    by_cases e : j = i
    · subst e; rw [if_pos rfl]; exact hX
    · rw [if_neg e]
      have h1 := hI.sh j hj
      have h2 := (hW.2.2.2.1 j hj).2
      exact ⟨(hF.2.1 18 j (fun h => by have := hP 18 j h; unfold zScr zRshP at this; omega)).trans h1.1, fun h0 => ⟨(hF.2.1 19 j (fun h => by have := hP 19 j h; unfold zScr zRshP at this; omega)).trans (h1.2 h0).1, fun q hq => (hF.2.2 20 _ (fun h => by have := hP 20 _ h; unfold zScr zRshP at this; omega)).trans ((h1.2 h0).2 q hq)⟩⟩, hI.hv.fr hF (fun k j g1 g2 h => by have := hP k j h; unfold zScr zRshP at this; omega), hI.tr.fr hF (fun h => by have := hP 0 37 h; unfold zScr zRshP at this; omega) (fun j h => by have := hP 25 j h; unfold zScr zRshP at this; omega)⟩
theorem zin_d {k n : Nat} (hk : k < 2 ^ 31) (hn : n < 2 ^ 31) : zin (nI k) n = decide (k < n) := by
  by_cases e : k < n
  · rw [zin_n e hn, decide_eq_true e]
  · rw [decide_eq_false e]
    cases q : zin (nI k) n with
    | false => rfl
    | true =>
      obtain ⟨j, hj, e2⟩ := zin_of q hn
      exact absurd ((nI_inj hk (by omega)).mp e2) (by omega)
theorem zInr_pm {ln p m : Nat} (hp : p < 2 ^ 31) (hm : m < 2 ^ 31) (hl : ln ≤ 40) : zInr ln (nI p) (nI m) = decide (p + m ≤ ln) := by
  unfold zInr
  rw [zin_d hp (by omega), nI_cl hp, zin_d hm (by omega), ← Bool.decide_and, decide_eq_decide]
  omega
theorem zInr_1 {ln : Nat} {i : Int32} (hl : ln ≤ 40) : zInr ln i (nI 1) = zin i ln := by
  cases q : zin i (ln + 1) with
  | true =>
    obtain ⟨p, hp, rfl⟩ := zin_of q (by omega)
    rw [zInr_pm (by omega) (by omega) hl, zin_d (by omega) (by omega), decide_eq_decide]
    omega
  | false =>
    unfold zInr
    rw [q, Bool.false_and]
    cases q2 : zin i ln with
    | false => rfl
    | true =>
      obtain ⟨p, hp, rfl⟩ := zin_of q2 (by omega)
      rw [zin_n (by omega) (by omega)] at q
      cases q
theorem zlcs {p m ln : Nat} (hp : p < 2 ^ 31) (hm : m < 2 ^ 31) (hl : ln ≤ 40) : zc1 .le (lg_cmp ((nI p).toInt64 + (nI m).toInt64) (nI ln).toInt64) = decide (p + m ≤ ln) := by
  rw [nI_l hp, nI_l hm, nI_l (by omega), lN_add]
  show decide (lg_cmp _ _ ≤ 0) = _
  rw [decide_eq_decide, lg_cmp_le, pk_lLE (by omega) (by omega)]
theorem zInr_i {ln : Nat} {i n : Int32} (h : zc1 .lt i = true) : zInr ln i n = false := by
  unfold zInr; rw [zraw_lt0 h]; rfl
theorem zInr_n {ln : Nat} {i n : Int32} (h : zc1 .lt n = true) : zInr ln i n = false := by
  unfold zInr; rw [zraw_lt0 (x := n) h, Bool.and_false]
theorem cr_isOutside {d r k ln : Nat} {h : zH} {S : zRS} {i n : Int32} (hk : k < 4) (h19 : S.2.1 19 k = nI ln) (hl : ln ≤ 40) : zCall (d + 1) 268 [.ref r, .int (nI k), .int i, .int n] (zRh h r S) (some (.int (nI (b2n (!zInr ln i n)))), zRh h r S) := by
  refine zG_m (t := tX10_isOutside) (ls0 := [.ref r, .int (nI k), .int i, .int n]) rfl rfl (zdnR (zdnI (zdnI (zdnI zdn0)))) rfl ?_
  refine zG_s rfl rfl ?_
  refine zN_if rfl (fun c1 => ?_) (fun c2 => ?_)
  · skip
    refine zG_s rfl rfl ?_
    refine zG_s rfl rfl ?_
    -- leaf 1
    exact zG_ret rfl rfl (zmr1 (by rw [zInr_n c1]; rfl))
  · skip
    refine zG_s rfl rfl ?_
    refine zN_if rfl (fun c3 => ?_) (fun c4 => ?_)
    · skip
      refine zG_s rfl rfl ?_
      refine zG_s rfl rfl ?_
      -- leaf 2
      exact zG_ret rfl rfl (zmr1 (by rw [zInr_i c3]; rfl))
    · skip
      obtain ⟨p, hp, rfl⟩ := nI_of (of_decide_eq_false c4)
      obtain ⟨m, hm, rfl⟩ := nI_of (of_decide_eq_false c2)
      refine zG_s rfl rfl ?_
      refine zG_s rfl rfl ?_
      refine zG_s rfl rfl ?_
      refine zG_s rfl rfl ?_
      refine zG_s rfl rfl ?_
      refine zG_s rfl rfl ?_
      refine zN_get rfl zRh_o rfl ?_
      refine zG_s rfl rfl ?_
      refine zR_ald (k := 19) (n := 4) rfl rfl (by omega) h19 ?_
      refine zG_s rfl rfl ?_
      refine zG_s rfl rfl ?_
      refine zN_if rfl (fun c5 => ?_) (fun c6 => ?_)
      · skip
        refine zG_s rfl rfl ?_
        -- leaf 3
        exact zG_ret rfl rfl (zmr0 (by rw [zInr_pm hp hm hl, ← zlcs hp hm hl, c5]; rfl))
      · skip
        refine zG_s rfl rfl ?_
        refine zG_s rfl rfl ?_
        -- leaf 4
        exact zG_ret rfl rfl (zmr1 (by rw [zInr_pm hp hm hl, ← zlcs hp hm hl, c6]; rfl))
theorem cr_lacks {d r k st ln n : Nat} {h : zH} {S : zRS} {i : Int32} (hk : k < 4) (hst : st ≤ 3) (hl : ln ≤ 40) (h18 : S.2.1 18 k = zbv st) (h19 : 0 < st → S.2.1 19 k = nI ln) : zCall (d + 2) 274 [.ref r, .int (nI k), .int i, .int (nI n)] (zRh h r S) (some (.int ((zRfs st ln i n).getD (nI 0))), zRh h r S) := by
  refine zG_m (t := tX10_lacks) (ls0 := [.ref r, .int (nI k), .int i, .int (nI n)]) rfl rfl (zdnR (zdnI (zdnI (zdnI zdn0)))) rfl ?_
  refine zG_s rfl rfl ?_
  refine zN_get rfl zRh_o rfl ?_
  refine zG_s rfl rfl ?_
  refine zR_ald (k := 18) (n := 4) rfl rfl (by omega) h18 ?_
  refine zN_gebv rfl (by omega) (fun c1 => ?_) (fun c2 => ?_)
  · skip
    refine zG_s rfl rfl ?_
    refine zN_get rfl zRh_o rfl ?_
    refine zG_s rfl rfl ?_
    refine zR_ald (k := 18) (n := 4) rfl rfl (by omega) h18 ?_
    refine zG_s rfl rfl ?_
    refine zN_snek rfl (by omega) (by omega) (fun c3 => ?_) (fun c4 => ?_)
    · skip
      refine zG_s rfl rfl ?_
      refine zG_s rfl rfl ?_
      refine zG_s rfl rfl ?_
      refine zG_s rfl rfl ?_
      refine zG_cV1 rfl rfl zRh_o rfl rfl (cr_isOutside hk (h19 (by omega)) hl) ?_
      first | refine zN_ifb rfl (fun c5 => ?_) (fun c6 => ?_) | refine zN_eq0 rfl (by omega) (fun c5 => ?_) (fun c6 => ?_)
      · skip
        refine zG_s rfl rfl ?_
        -- leaf 1
        exact zG_ret rfl rfl (by rw [zRfs, if_neg c1, if_neg c3, if_neg (fun g => by rw [g] at c5; cases c5)]; rfl)
      · skip
        refine zG_s rfl rfl ?_
        refine zG_s rfl rfl ?_
        -- leaf 2
        exact zG_ret rfl rfl (by rw [zRfs, if_neg c1, if_neg c3, if_pos (by simpa using c6)]; rfl)
    · skip
      refine zG_s rfl rfl ?_
      refine zG_s rfl rfl ?_
      -- leaf 3
      exact zG_ret rfl rfl (by rw [zRfs, if_neg c1, if_pos c4]; rfl)
  · skip
    refine zG_s rfl rfl ?_
    -- leaf 4
    exact zG_ret rfl rfl (by rw [zRfs, if_pos c2]; rfl)
theorem cr_item {d r : Nat} {h : zH} {S : zRS} {s : zST} {a b c : Int32} (hr : 2 ≤ r) (hI : zRI S s) (hW : zWT s) : zCallP (d + 3) 272 [.ref r, .int a, .int b, .int c] (zRh h r S) (zROut h r (zo_item s a b c)) := by
  refine zG_mP (t := tX10_item) (ls0 := [.ref r, .int a, .int b, .int c]) rfl rfl (zdnR (zdnI (zdnI (zdnI zdn0)))) rfl ?_
  refine zG_s rfl rfl ?_
  refine zG_cS1 rfl rfl cr_isSheet ?_
  refine zN_ifb rfl (fun c1 => ?_) (fun c2 => ?_)
  · skip
    refine zG_s rfl rfl ?_
    -- leaf 1
    exact zG_ret rfl rfl (zRfin (by rw [zo_item, zb_no c1]) hI)
  · skip
    obtain ⟨i, hi, rfl⟩ := zin_of c2 (by omega)
    have hsh := hI.sh i hi
    obtain ⟨hst9, hln⟩ := hW.2.2.2.1 i hi
    refine zG_s rfl rfl ?_
    refine zG_s rfl rfl ?_
    refine zG_s rfl rfl ?_
    refine zG_cS1 rfl rfl cr_inc ?_
    refine zN_ifnb rfl (fun c3 => ?_) (fun c4 => ?_)
    · skip
      obtain ⟨st, hst, rfl⟩ := zin_of c3 (by omega)
      refine zG_s rfl rfl ?_
      refine zN_get rfl zRh_o rfl ?_
      refine zG_s rfl rfl ?_
      refine zR_ald (k := 18) (n := 4) rfl rfl (by omega) hsh.1 ?_
      refine zG_s rfl rfl ?_
      refine zN_seqk rfl (by omega) (by omega) (fun c5 => ?_) (fun c6 => ?_)
      · skip
        refine zG_s rfl rfl ?_
        refine zG_s rfl rfl ?_
        refine zG_s rfl rfl ?_
        refine zN_get rfl zRh_o rfl ?_
        refine zG_s rfl rfl ?_
        refine zR_ald (k := 19) (n := 4) rfl rfl (by omega) (hsh.2 (by omega)).1 ?_
        refine zG_s rfl rfl ?_
        refine zG_s rfl rfl ?_
        refine zG_cS1 rfl rfl (cr_inm (by omega)) ?_
        refine zN_ifb rfl (fun c7 => ?_) (fun c8 => ?_)
        · skip
          refine zG_s rfl rfl ?_
          -- leaf 2
          exact zG_ret rfl rfl (zRfin (by rw [zo_item, zb_i hi (by omega), zb_i hst (by omega), if_neg (by omega), if_neg (fun q => q c5), if_pos (by rw [zInr_1 hln, c7])]; first | done | rfl) hI)
        · skip
          obtain ⟨p, hp, ep⟩ := zin_of c8 (by omega)
          subst ep
          refine zG_s rfl rfl ?_
          refine zN_get rfl zRh_o rfl ?_
          refine zG_s rfl rfl ?_
          refine zG_s rfl rfl ?_
          refine zN_mul rfl ?_
          refine zG_s rfl rfl ?_
          refine zN_add rfl ?_
          refine zR_lld (k := 20) (n := 160) rfl rfl (by omega) ((hsh.2 (by omega)).2 p hp) ?_
          refine zG_s (st' := [.int ((s.2.2.2.2.1 i).2.2 p)]) rfl (by rw [show (.int ((s.2.2.2.2.1 i).2.2 p) : Value) = .int (((s.2.2.2.2.1 i).2.2 p).toInt64.toInt32) from by rw [zti]]; rfl) ?_
          refine zG_s rfl rfl ?_
          -- leaf 3
          exact zG_ret rfl rfl (zRfin (by rw [zo_item, zb_i hi (by omega), zb_i hst (by omega), if_neg (by omega), if_neg (fun q => q c5), if_neg (by rw [zInr_1 hln, c8]; decide), nI_cl (by omega)]; first | done | rfl) hI)
      · skip
        refine zG_s rfl rfl ?_
        refine zN_get rfl zRh_o rfl ?_
        refine zG_s rfl rfl ?_
        refine zR_ald (k := 18) (n := 4) rfl rfl (by omega) hsh.1 ?_
        refine zN_gebv rfl (by omega) (fun c9 => ?_) (fun c10 => ?_)
        · skip
          refine zG_s rfl rfl ?_
          -- leaf 4
          exact zG_ret rfl rfl (zRfin (by rw [zo_item, zb_i hi (by omega), zb_i hst (by omega), if_neg c9, if_pos c6]; first | done | rfl) hI)
        · skip
          refine zG_s rfl rfl ?_
          refine zG_s rfl rfl ?_
          -- leaf 5
          exact zG_ret rfl rfl (zRfin (by rw [zo_item, zb_i hi (by omega), zb_i hst (by omega), if_pos c10]; first | done | rfl) hI)
    · skip
      refine zG_s rfl rfl ?_
      -- leaf 6
      exact zG_ret rfl rfl (zRfin (by rw [zo_item, zb_i hi (by omega), zb_no c4]) hI)
theorem cr_put {d r : Nat} {h : zH} {S : zRS} {s : zST} {a b c : Int32} (hr : 2 ≤ r) (hI : zRI S s) (hW : zWT s) : zCallP (d + 3) 271 [.ref r, .int a, .int b, .int c] (zRh h r S) (zROut h r (zo_put s a b c)) := by
  refine zG_mP (t := tX10_put) (ls0 := [.ref r, .int a, .int b, .int c]) rfl rfl (zdnR (zdnI (zdnI (zdnI zdn0)))) rfl ?_
  refine zG_s rfl rfl ?_
  refine zG_cS1 rfl rfl cr_isSheet ?_
  refine zN_ifnb rfl (fun c1 => ?_) (fun c2 => ?_)
  · skip
    obtain ⟨i, hi, rfl⟩ := zin_of c1 (by omega)
    have hsh := hI.sh i hi
    obtain ⟨hst, hln⟩ := hW.2.2.2.1 i hi
    refine zG_s rfl rfl ?_
    refine zN_get rfl zRh_o rfl ?_
    refine zG_s rfl rfl ?_
    refine zR_ald (k := 18) (n := 4) rfl rfl (by omega) hsh.1 ?_
    refine zN_gebv rfl (by omega) (fun c3 => ?_) (fun c4 => ?_)
    · skip
      refine zG_s rfl rfl ?_
      refine zG_s rfl rfl ?_
      refine zG_s rfl rfl ?_
      refine zN_get rfl zRh_o rfl ?_
      refine zG_s rfl rfl ?_
      refine zR_ald (k := 19) (n := 4) rfl rfl (by omega) (hsh.2 (by omega)).1 ?_
      refine zG_s rfl rfl ?_
      refine zG_s rfl rfl ?_
      refine zG_cS1 rfl rfl (cr_inm (by omega)) ?_
      refine zN_ifnb rfl (fun c5 => ?_) (fun c6 => ?_)
      · skip
        obtain ⟨p, hp, ep⟩ := zin_of c5 (by omega)
        subst ep
        refine zG_s rfl rfl ?_
        refine zN_get rfl zRh_o rfl ?_
        refine zG_s rfl rfl ?_
        refine zG_s rfl rfl ?_
        refine zN_mul rfl ?_
        refine zG_s rfl rfl ?_
        refine zN_add rfl ?_
        refine zG_s rfl rfl ?_
        refine zN_get rfl zRh_o rfl ?_
        refine zG_s rfl rfl ?_
        refine zR_ald (k := 18) (n := 4) rfl rfl (by omega) hsh.1 ?_
        refine zG_s rfl rfl ?_
        refine zG_s rfl rfl ?_
        refine zG_cS1 rfl rfl (cr_cut (by omega) (by omega)) ?_
        refine zR_lst (k := 20) (n := 160) rfl rfl (by omega) hr ?_
        have hI2 : zRI (zRl S 20 (40 * i + p) (zNar (s.2.2.2.2.1 i).1 c).toInt64) (zsSh s i (s.2.2.2.2.1 i).1 (s.2.2.2.2.1 i).2.1 (upd (s.2.2.2.2.1 i).2.2 p (zNar (s.2.2.2.2.1 i).1 c))) := zRI.u_sh (P := zRshP i) ⟨hsh.1, fun h0 => ⟨(hsh.2 h0).1, fun j hj => by
          by_cases e : j = p
          · rw [e, zRl_at, upd_at]
          · rw [zRl_ne (Or.inr (by omega)), upd_ne _ _ e]; exact (hsh.2 h0).2 j hj⟩⟩ hI hW (zRF.rf.l (Or.inr ⟨rfl, by omega, by omega⟩)) (fun k j g => Or.inr g)
        refine zG_s rfl rfl ?_
        -- leaf 1
        exact zG_ret rfl rfl (zRfin (by rw [zo_put, zb_i hi (by omega), if_neg c3, if_neg (by rw [zInr_1 hln, c5]; decide), nI_cl (by omega)]; first | done | rfl) hI2)
      · skip
        refine zG_s rfl rfl ?_
        -- leaf 2
        exact zG_ret rfl rfl (zRfin (by rw [zo_put, zb_i hi (by omega), if_neg c3, if_pos (by rw [zInr_1 hln, c6])]; first | done | rfl) hI)
    · skip
      refine zG_s rfl rfl ?_
      -- leaf 3
      exact zG_ret rfl rfl (zRfin (by rw [zo_put, zb_i hi (by omega), if_pos c4]; first | done | rfl) hI)
  · skip
    refine zG_s rfl rfl ?_
    -- leaf 4
    exact zG_ret rfl rfl (zRfin (by rw [zo_put, zb_no c2]) hI)
