theorem zo_take_no {s : zST} {k n i : Nat} {b : Int32} (hk : k < 4) (hn : n < 9) (hi : i < 6) (h : zRfs (s.2.2.2.2.1 k).1 (s.2.2.2.2.1 k).2.1 b n ≠ none) : zo_take s (nI k) b (nI n) (nI i) = ((zRfs (s.2.2.2.2.1 k).1 (s.2.2.2.2.1 k).2.1 b n).getD (nI 0), s) := by
  rw [zo_take, zb_i hk (by omega), zb_i hn (by omega), zb_i hi (by omega)]
  cases q : zRfs (s.2.2.2.2.1 k).1 (s.2.2.2.2.1 k).2.1 b n with
  | none => exact absurd q h
  | some w => rfl
theorem zo_take_yes {s : zST} {k n i : Nat} {b : Int32} (hk : k < 4) (hn : n < 9) (hi : i < 6) (h : zRfs (s.2.2.2.2.1 k).1 (s.2.2.2.2.1 k).2.1 b n = none) : zo_take s (nI k) b (nI n) (nI i) = (nI (zStr n (zTk2 (s.2.2.2.2.1 k).2.2 b.toNatClampNeg n zDisc n)), zsSp s i n (zTk2 (s.2.2.2.2.1 k).2.2 b.toNatClampNeg n zDisc n)) := by
  rw [zo_take, zb_i hk (by omega), zb_i hn (by omega), zb_i hi (by omega), h]
theorem zRI.spJ {S : zRS} {s : zST} {i n : Nat} {lo : Nat → Nat} (hi : i < 6) (hI : zRI S (zsSp s i n lo)) : zRs S i n lo := by
  have h := hI.sp i hi
  change zRs S i (if i = i then (n, lo) else s.1 i).1 (if i = i then (n, lo) else s.1 i).2 at h
  rw [if_pos rfl] at h
  exact h
theorem zsSp3 {s : zST} {i n m : Nat} {lo l2 : Nat → Nat} : zsSp (zsSp s i n lo) i m l2 = zsSp s i m l2 := by
  unfold zsSp
  have e : (fun j => if j = i then (m, l2) else (if j = i then (n, lo) else s.1 j)) = (fun j => if j = i then (m, l2) else s.1 j) := by
    funext j
    by_cases g : j = i
    · rw [if_pos g, if_pos g]
    · rw [if_neg g, if_neg g, if_neg g]
  show ((fun j => if j = i then (m, l2) else (if j = i then (n, lo) else s.1 j)), _) = _
  rw [e]
theorem cr_take {d r : Nat} {h : zH} {S : zRS} {s : zST} {a b c e : Int32} (hr : 2 ≤ r) (hI : zRI S s) (hW : zWT s) : zCallP (d + 4) 276 [.ref r, .int a, .int b, .int c, .int e] (zRh h r S) (zROut h r (zo_take s a b c e)) := by
  refine zG_mP (t := tX10_take) (ls0 := [.ref r, .int a, .int b, .int c, .int e, .null, .null, .null, .null, .null]) rfl rfl (zdnR (zdnI (zdnI (zdnI (zdnI zdn0))))) rfl ?_
  refine zG_s rfl rfl ?_
  refine zG_cS1 rfl rfl cr_isSheet ?_
  refine zN_ifb rfl (fun c1 => ?_) (fun c2 => ?_)
  · skip
    refine zG_s rfl rfl ?_
    -- leaf 1
    exact zG_ret rfl rfl (zRfin (by rw [zo_take, zb_no c1]) hI)
  · skip
    obtain ⟨k, hk, rfl⟩ := zin_of c2 (by omega)
    refine zG_s rfl rfl ?_
    refine zG_s rfl rfl ?_
    refine zG_s rfl rfl ?_
    refine zG_cS1 rfl rfl cr_inc ?_
    refine zN_ifb rfl (fun c3 => ?_) (fun c4 => ?_)
    · skip
      refine zG_s rfl rfl ?_
      -- leaf 2
      exact zG_ret rfl rfl (zRfin (by rw [zo_take, zb_i hk (by omega), zb_no c3]) hI)
    · skip
      obtain ⟨n, hn, rfl⟩ := zin_of c4 (by omega)
      refine zG_s rfl rfl ?_
      refine zG_cS1 rfl rfl cr_isSpace ?_
      refine zN_ifnb rfl (fun c5 => ?_) (fun c6 => ?_)
      · skip
        obtain ⟨i, hi, rfl⟩ := zin_of c5 (by omega)
        have h2 := hI.sh k hk
        obtain ⟨hst, hln⟩ := hW.2.2.2.1 k hk
        refine zG_s rfl rfl ?_
        refine zG_s rfl rfl ?_
        refine zG_s rfl rfl ?_
        refine zG_s rfl rfl ?_
        refine zG_cV1 rfl rfl zRh_o rfl rfl (cr_lacks hk hst hln h2.1 (fun h0 => (h2.2 h0).1)) ?_
        refine zN_st5 rfl (fun _ _ _ => rfl) rfl ?_
        refine zG_s rfl rfl ?_
        refine zN_rfseq rfl (fun c7 => ?_) (fun c8 => ?_)
        · skip
          obtain ⟨hn0, hn3, hno⟩ := zRfs_no c7
          obtain ⟨p, hp, ep⟩ := zInr_p hln hno (by omega)
          subst ep
          have hcp : (nI p).toNatClampNeg = p := nI_cl (by omega)
          have hrs := zo_take_yes hk hn hi c7
          rw [hcp] at hrs
          have hcl := (h2.2 (by omega)).2
          generalize hff : (s.2.2.2.2.1 k).2.2 = f at *
          have hP0 : zPre n zDisc := zPre_disc (by omega)
          refine zG_s rfl rfl ?_
          refine zG_s rfl rfl ?_
          refine zG_s rfl rfl ?_
          refine zG_cQN rfl rfl zRh_o rfl rfl (cr_empties hr (by omega) (by omega)) (fun h1 hB => ?_)
          obtain ⟨S1, rfl, hF1, hS1⟩ := hB
          have hI : zRI S1 (zsSp s i n zDisc) := hI.u_sp hi hS1 hW hF1 (fun k j g => Or.inr g)
          have hcl1 : ∀ j, j < (s.2.2.2.2.1 k).2.1 → S1.2.2 20 (40 * k + j) = (f j).toInt64 := fun j hj => (hF1.2.2 20 _ (by unfold zRsp; omega)).trans (hcl j hj)
          refine zG_s rfl rfl ?_
          refine zN_st6 rfl (fun _ _ _ => rfl) rfl ?_
          have main54 : ∀ x, x ≤ n → ∀ (S1 : zRS) (x7 x8 x9 : Value), zRI S1 (zsSp s i n (zTk2 f p n zDisc x)) → (∀ j, j < (s.2.2.2.2.1 k).2.1 → S1.2.2 20 (40 * k + j) = (f j).toInt64) → zGoP (d + 3) tX10_take 54 [.ref r, .int (nI k), .int (nI p), .int (nI n), .int (nI i), .int ((zRfs (s.2.2.2.2.1 k).1 (s.2.2.2.2.1 k).2.1 (nI p) n).getD (nI 0)), .int (nI x), x7, x8, x9] [] (zRh h r S1) (zROut h r (zo_take s (nI k) (nI p) (nI n) (nI i))) := by
            refine zdown (n) ?_ (fun x hp54 ih54 => ?_)
            · skip
              intro S1 x7 x8 x9 hI hcl
              have hP := zTk2_pre (f := f) (p := p) (n := n) hP0 n
              have hS := zRI.spJ hi hI
              refine zG_s rfl rfl ?_
              refine zG_s rfl rfl ?_
              refine zN_ige rfl (by omega) (by omega) (fun c9 => ?_) (fun c10 => absurd c10 (by omega))
              refine zG_s rfl rfl ?_
              refine zG_s rfl rfl ?_
              refine zG_cV1 rfl rfl zRh_o rfl rfl (cr_pairs hS hP) ?_
              -- leaf 3
              exact zG_ret rfl rfl (zRfin hrs hI)
            · skip
              intro S1 x7 x8 x9 hI hcl
              have hP := zTk2_pre (f := f) (p := p) (n := n) hP0 x
              generalize hq1 : zTk2 f p n zDisc x = q1 at *
              refine zG_s rfl rfl ?_
              refine zG_s rfl rfl ?_
              refine zN_ige rfl (by omega) (by omega) (fun c11 => absurd c11 (by omega)) (fun c12 => ?_)
              refine zG_s rfl rfl ?_
              refine zN_get rfl zRh_o rfl ?_
              refine zG_s rfl rfl ?_
              refine zG_s rfl rfl ?_
              refine zN_mul rfl ?_
              refine zG_s rfl rfl ?_
              refine zN_add rfl ?_
              refine zG_s rfl rfl ?_
              refine zN_add rfl ?_
              refine zR_lld (k := 20) (n := 160) (w := (f (p + x)).toInt64) rfl rfl (by omega) (by rw [Nat.add_assoc]; exact hcl (p + x) (by omega)) ?_
              refine zG_s (st' := [.int (f (p + x))]) rfl (by rw [show (.int (f (p + x)) : Value) = .int ((f (p + x)).toInt64.toInt32) from by rw [zti]]; rfl) ?_
              refine zN_st7 rfl (fun _ _ _ => rfl) rfl ?_
              refine zG_s rfl rfl ?_
              refine zN_st8 rfl (fun _ _ _ => rfl) rfl ?_
              have main80 : ∀ y, y ≤ n → ∀ (S1 : zRS) (x9 : Value), zRI S1 (zsSp s i n (zTk1 (f (p + x)) x y q1)) → (∀ j, j < (s.2.2.2.2.1 k).2.1 → S1.2.2 20 (40 * k + j) = (f j).toInt64) → zGoP (d + 3) tX10_take 80 [.ref r, .int (nI k), .int (nI p), .int (nI n), .int (nI i), .int ((zRfs (s.2.2.2.2.1 k).1 (s.2.2.2.2.1 k).2.1 (nI p) n).getD (nI 0)), .int (nI x), .int (f (p + x)), .int (nI y), x9] [] (zRh h r S1) (zROut h r (zo_take s (nI k) (nI p) (nI n) (nI i))) := by
                refine zdown (n) ?_ (fun y hp80 ih80 => ?_)
                · skip
                  intro S1 x9 hI hcl
                  refine zG_s rfl rfl ?_
                  refine zG_s rfl rfl ?_
                  refine zN_ige rfl (by omega) (by omega) (fun c13 => ?_) (fun c14 => absurd c14 (by omega))
                  refine zN_inc6 rfl rfl ?_
                  refine zG_s rfl rfl ?_
                  -- leaf 4
                  exact ih54 _ _ _ _ (by rw [zTk2, hq1]; exact hI) hcl
                · skip
                  intro S1 x9 hI hcl
                  have hP := zTk1_pre (w := f (p + x)) (x := x) hP y (by omega)
                  refine zG_s rfl rfl ?_
                  refine zG_s rfl rfl ?_
                  refine zN_ige rfl (by omega) (by omega) (fun c15 => absurd c15 (by omega)) (fun c16 => ?_)
                  refine zG_s rfl rfl ?_
                  refine zG_s rfl rfl ?_
                  refine zG_cS1 rfl rfl (cr_hasI _ (by omega)) ?_
                  first | refine zN_ifb rfl (fun c17 => ?_) (fun c18 => ?_) | refine zN_eq0 rfl (by omega) (fun c17 => ?_) (fun c18 => ?_)
                  · skip
                    refine zG_s rfl rfl ?_
                    refine zN_st9 rfl (fun _ _ _ => rfl) rfl ?_
                    refine zN_inc8 rfl rfl ?_
                    refine zG_s rfl rfl ?_
                    -- leaf 5
                    have e1 : zTk1 (f (p + x)) x (y + 1) q1 = zTk1 (f (p + x)) x y q1 := by rw [zTk1, if_neg (by rw [c17]; decide)]
                    rw [e1] at ih80
                    exact ih80 _ _ hI hcl
                  · skip
                    refine zG_s rfl rfl ?_
                    refine zG_s rfl rfl ?_
                    refine zG_s rfl rfl ?_
                    refine zG_s rfl rfl ?_
                    refine zG_cQV rfl rfl zRh_o rfl rfl (cr_nests hr (zRI.spJ hi hI) hP hp54 hp80) (fun h3 hB => ?_)
                    obtain ⟨S3, rfl, hF3, hS3⟩ := hB
                    have hI := hI.u_sp hi hS3 (hW.sp hP) hF3 (fun k j g => Or.inr g)
                    rw [zsSp3] at hI
                    have hcl : ∀ j, j < (s.2.2.2.2.1 k).2.1 → S3.2.2 20 (40 * k + j) = (f j).toInt64 := fun j hj => (hF3.2.2 20 _ (by unfold zRsp; omega)).trans (hcl j hj)
                    refine zG_s rfl rfl ?_
                    refine zN_st9 rfl (fun _ _ _ => rfl) rfl ?_
                    refine zN_inc8 rfl rfl ?_
                    refine zG_s rfl rfl ?_
                    -- leaf 6
                    have e1 : zTk1 (f (p + x)) x (y + 1) q1 = zNst (zTk1 (f (p + x)) x y q1) x y := by rw [zTk1, if_pos c18]
                    rw [e1] at ih80
                    exact ih80 _ _ hI hcl
              exact main80 0 (by omega) _ _ hI hcl
          exact main54 0 (by omega) _ _ _ _ hI hcl1
        · skip
          refine zG_s rfl rfl ?_
          -- leaf 7
          exact zG_ret rfl rfl (zRfin (zo_take_no hk hn hi c8) hI)
      · skip
        refine zG_s rfl rfl ?_
        -- leaf 8
        exact zG_ret rfl rfl (zRfin (by rw [zo_take, zb_i hk (by omega), zb_i hn (by omega), zb_no c6]) hI)
