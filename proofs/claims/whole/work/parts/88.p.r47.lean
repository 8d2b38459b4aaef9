theorem cr_settle {d r j : Nat} {h : zH} {S : zRS} {s : zST} {T : Nat → Bool} {C : Nat → Nat} (hr : 2 ≤ r) (hj : j < 6) (hI : zRI S s) (hW : zWT s) (hT : zRtl S T C) : zCallP (d + 4) 251 [.ref r, .int (nI j)] (zRh h r S) (zROut h r (zStl s C j)) := by
  by_cases hb : 8 < zTot C
  · have e : zStl s C j = (-2, s) := if_pos hb
    rw [e]
    exact (cr_becomesBig (d := d + 2) hT hb).p ⟨rfl, S, rfl, hI⟩
  · have e : zStl s C j = (nI (zFk C 8).1, zsSp s j (zFk C 8).1 (zSubL (zFk C 8).1 (zFk C 8).2)) := if_neg hb
    rw [e]
    refine (cr_becomesSets hr hT (by omega) (show j < 10 by omega)).mono (fun q hq => ?_)
    obtain ⟨q1, S1, q2, hF, hS⟩ := hq
    exact ⟨q1, S1, q2, hI.u_sp hj hS hW hF (fun k2 j2 g => g.elim (fun g => Or.inl (by unfold zScr; omega)) Or.inr)⟩
def zTdv (n : Nat) (lo : Nat → Nat) (q : Nat) : Bool := decide (q < 1 <<< n) && (decide (q ≠ 0) && zChn n lo (zTr n lo) q)
theorem cr_divide {d r : Nat} {h : zH} {S : zRS} {s : zST} {a b : Int32} (hr : 2 ≤ r) (hI : zRI S s) (hW : zWT s) : zCallP (d + 5) 252 [.ref r, .int a, .int b] (zRh h r S) (zROut h r (zo_divide s a b)) := by
  refine zG_mP (t := tX10_divide) (ls0 := [.ref r, .int a, .int b, .null]) rfl rfl (zdnR (zdnI (zdnI zdn0))) rfl ?_
  refine zG_s rfl rfl ?_
  refine zG_cS1 rfl rfl cr_isSpace ?_
  refine zN_ifb rfl (fun c1 => ?_) (fun c2 => ?_)
  · skip
    refine zG_s rfl rfl ?_
    -- leaf 1
    exact zG_ret rfl rfl (zRfin (by rw [zo_divide, zb_no c1]) hI)
  · skip
    obtain ⟨i, hi, rfl⟩ := zin_of c2 (by omega)
    refine zG_s rfl rfl ?_
    refine zG_cS1 rfl rfl cr_isSpace ?_
    refine zN_ifnb rfl (fun c3 => ?_) (fun c4 => ?_)
    · skip
      obtain ⟨j, hj, rfl⟩ := zin_of c3 (by omega)
      have hS := hI.sp i hi
      have hP := hW.1 i hi
      have hn8 := hP.1
      have hpw := zpow_le hn8
      have hrs : zo_divide s (nI i) (nI j) = zStl s (zCh9 s i) j := by rw [zo_divide, zb_i hi (by omega), zb_i hj (by omega)]
      refine zG_s rfl rfl ?_
      refine zN_st3 rfl (fun _ _ _ => rfl) rfl ?_
      have main18 : ∀ p, p ≤ 256 → ∀ S1 : zRS, zRF (fun k2 _ => k2 = 16) S S1 → (∀ q, q < p → S1.2.1 16 q = nI (b2n (zTdv (s.1 i).1 (s.1 i).2 q))) → zGoP (d + 4) tX10_divide 18 [.ref r, .int (nI i), .int (nI j), .int (nI p)] [] (zRh h r S1) (zROut h r (zo_divide s (nI i) (nI j))) := by
        refine zdown (256) ?_ (fun p hp18 ih18 => ?_)
        · skip
          intro S1 hF hA
          have hI1 := hI.fr hW hF (fun k2 j g => by unfold zScr; omega)
          have hT : zRtl S1 (zTdv (s.1 i).1 (s.1 i).2) (zCh9 s i) := fun q hq => by
            refine ⟨hA q hq, ?_, fun e => by unfold zTdv; rw [decide_eq_false (show ¬ q ≠ 0 by omega)]; simp⟩
            unfold zTdv
            by_cases g : q < 1 <<< (s.1 i).1
            · rw [decide_eq_true g, Bool.true_and]
              by_cases g2 : q = 0
              · rw [g2]
                show (if zChn _ _ _ 0 then zcnt 0 else 0) = _
                rw [show zcnt 0 = 0 from rfl]
                split <;> rfl
              · rw [decide_eq_true (show q ≠ 0 from g2), Bool.true_and]; rfl
            · rw [decide_eq_false g, Bool.false_and]
              exact zCc_big (by omega)
          refine zG_s rfl rfl ?_
          refine zG_s rfl rfl ?_
          refine zN_ige rfl (by omega) (by omega) (fun c5 => ?_) (fun c6 => absurd c6 (by omega))
          refine zG_s rfl rfl ?_
          refine zG_s rfl rfl ?_
          refine zG_cQV rfl rfl zRh_o rfl rfl (cr_settle hr hj hI1 hW hT) (fun h2 hB => ?_)
          obtain ⟨S2, rfl, hI2⟩ := hB
          -- leaf 2
          exact zG_ret rfl rfl (zRfin (by rw [hrs]) hI2)
        · skip
          intro S1 hF hA
          have hS := hS.fr hn8 hF (fun k2 j g1 g2 => by unfold zRsp at g1; omega)
          refine zG_s rfl rfl ?_
          refine zG_s rfl rfl ?_
          refine zN_ige rfl (by omega) (by omega) (fun c7 => absurd c7 (by omega)) (fun c8 => ?_)
          refine zG_s rfl rfl ?_
          refine zN_get rfl zRh_o rfl ?_
          refine zG_s rfl rfl ?_
          have jn53 : ∀ w : Bool, w = zTdv (s.1 i).1 (s.1 i).2 p → zGoP (d + 4) tX10_divide 53 [.ref r, .int (nI i), .int (nI j), .int (nI p)] [.int (nI (b2n w)), .int (nI p), .ref (r + 16)] (zRh h r S1) (zROut h r (zo_divide s (nI i) (nI j))) := by
            intro w ew
            subst ew
            refine zR_bst (k := 16) (n := 256) rfl rfl (by omega) hr ?_
            refine zN_inc3 rfl rfl ?_
            refine zG_s rfl rfl ?_
            -- leaf 3
            refine ih18 _ (hF.a rfl) (fun q hq => ?_)
            by_cases g : q = p
            · rw [g, zRa_at]
            · rw [zRa_ne (Or.inr g)]; exact hA q (by omega)
          refine zG_s rfl rfl ?_
          refine zG_s rfl rfl ?_
          refine zG_s rfl rfl ?_
          refine zG_cV1 rfl rfl zRh_o rfl rfl (cr_all hS (by omega)) ?_
          refine zN_igt rfl (by omega) (by omega) (fun c9 => ?_) (fun c10 => ?_)
          · skip
            refine zG_s rfl rfl ?_
            -- leaf 4
            exact jn53 false (by unfold zTdv; rw [decide_eq_false (by omega)]; rfl)
          · skip
            refine zG_s rfl rfl ?_
            refine zG_s rfl rfl ?_
            refine zG_s rfl rfl ?_
            refine zG_cV1 rfl rfl zRh_o rfl rfl (cr_isChain hS hP (by omega)) ?_
            first | refine zN_ifb rfl (fun c11 => ?_) (fun c12 => ?_) | refine zN_eq0 rfl (by omega) (fun c11 => ?_) (fun c12 => ?_)
            · skip
              refine zG_s rfl rfl ?_
              -- leaf 5
              exact jn53 false (by unfold zTdv; rw [c11, Bool.and_false])
            · skip
              refine zG_s rfl rfl ?_
              refine zG_s rfl rfl ?_
              -- leaf 6
              exact jn53 true (by unfold zTdv; rw [c12, decide_eq_true (by omega)]; rfl)
      exact main18 0 (by omega) _ zRF.rf (fun q hq => absurd hq (Nat.not_lt_zero q))
    · skip
      refine zG_s rfl rfl ?_
      -- leaf 7
      exact zG_ret rfl rfl (zRfin (by rw [zo_divide, zb_i hi (by omega), zb_no c4]) hI)
