/-- the points of a set, drawn together: what has been written before point x -/
def zPrt (g : Nat → Nat) (s : Nat) (f : Nat → Int32) : Nat → (Nat → Int32)
  | 0 => f
  | x + 1 => if s.testBit x then upd (zPrt g s f x) (zPos s x) (nI (zSqz (g x) s 8)) else zPrt g s f x
theorem ct_becomePart {d : Nat} {h : zH} {o n m q s : Nat} {fl fh gl gh : Nat → Int32} {lo hi : Nat → Nat} (ho2 : 2 ≤ o) (hO : zOk m lo hi) (hq : zSx h q m gl gh) (hv : ∀ x, x < m → gl x = nI (lo x) ∧ gh x = nI (hi x)) (ha : zApart o q) (hs : s < 256) : zCall (d + 3) 83 [.ref o, .ref q, .int (nI s)] (zeh h o n fl fh) (none, zeh h o (zPos s m) (zPrt lo s fl m) (zPrt hi s fh m)) := by
  have hm := hO.1
  refine zG_m (t := tX7_becomePart) (ls0 := [.ref o, .ref q, .int (nI s), .null]) rfl rfl (zdnR (zdnR (zdnI zdn0))) rfl ?_
  refine zG_s rfl rfl ?_
  refine zG_s rfl rfl ?_
  refine zN_psz rfl ?_
  refine zG_s rfl rfl ?_
  refine zN_st3 rfl (fun _ _ _ => rfl) rfl ?_
  have main7 : ∀ x, x ≤ m → zGo (d + 2) tX7_becomePart 7 [.ref o, .ref q, .int (nI s), .int (nI x)] [] (zeh h o (zPos s x) (zPrt lo s fl x) (zPrt hi s fh x)) (none, zeh h o (zPos s m) (zPrt lo s fl m) (zPrt hi s fh m)) := by
    refine zdown (m) ?_ (fun x hp7 ih7 => ?_)
    · skip
      refine zG_s rfl rfl ?_
      refine zG_s rfl rfl ?_
      refine zN_get rfl (hq.ne ha).1 rfl ?_
      refine zN_ige rfl (by omega) (by omega) (fun c1 => ?_) (fun c2 => absurd c2 (by omega))
      -- leaf 1
      exact zG_ret rfl rfl rfl
    · skip
      have b1 := hO.2 x hp7
      have b2 : zPos s x ≤ x := zct_le _ _
      refine zG_s rfl rfl ?_
      refine zG_s rfl rfl ?_
      refine zN_get rfl (hq.ne ha).1 rfl ?_
      refine zN_ige rfl (by omega) (by omega) (fun c3 => absurd c3 (by omega)) (fun c4 => ?_)
      refine zG_s rfl rfl ?_
      refine zG_s rfl rfl ?_
      refine zG_cS1 rfl rfl (ct_has _ (by omega) (by omega)) ?_
      first | refine zN_ifb rfl (fun c5 => ?_) (fun c6 => ?_) | refine zN_eq0 rfl (by omega) (fun c5 => ?_) (fun c6 => ?_)
      · skip
        refine zN_inc3 rfl rfl ?_
        refine zG_s rfl rfl ?_
        -- leaf 2
        rw [show zPos s (x + 1) = zPos s x from zct_no c5, zPrt, zPrt, if_neg (by rw [c5]; decide), if_neg (by rw [c5]; decide)] at ih7
        exact ih7
      · skip
        refine zG_s rfl rfl ?_
        refine zN_get rfl (by first | exact zeh_o | assumption) rfl ?_
        refine zG_s rfl rfl ?_
        refine zN_get rfl (by first | exact zeh_o | assumption) rfl ?_
        refine zG_s rfl rfl ?_
        refine zN_get rfl (hq.ne ha).1 rfl ?_
        refine zG_s rfl rfl ?_
        refine zN_ald rfl (hq.ne ha).2.1 (by omega) (by omega) (hv x hp7).1 ?_
        refine zG_s rfl rfl ?_
        refine zG_cS1 rfl rfl (ct_squeeze (by omega) (by omega)) ?_
        refine zN_plo rfl (by omega) ho2 ?_
        refine zG_s rfl rfl ?_
        refine zN_get rfl (by first | exact zeh_o | assumption) rfl ?_
        refine zG_s rfl rfl ?_
        refine zN_get rfl (by first | exact zeh_o | assumption) rfl ?_
        refine zG_s rfl rfl ?_
        refine zN_get rfl (hq.ne ha).1 rfl ?_
        refine zG_s rfl rfl ?_
        refine zN_ald rfl (hq.ne ha).2.2 (by omega) (by omega) (hv x hp7).2 ?_
        refine zG_s rfl rfl ?_
        refine zG_cS1 rfl rfl (ct_squeeze (by omega) (by omega)) ?_
        refine zN_phi rfl (by omega) ho2 ?_
        refine zG_s rfl rfl ?_
        refine zG_s rfl rfl ?_
        refine zN_get rfl (by first | exact zeh_o | assumption) rfl ?_
        refine zG_s rfl rfl ?_
        refine zN_add rfl ?_
        refine zN_psz rfl ?_
        refine zN_inc3 rfl rfl ?_
        refine zG_s rfl rfl ?_
        -- leaf 3
        rw [show zPos s (x + 1) = zPos s x + 1 from zct_yes c6, zPrt, zPrt, if_pos c6, if_pos c6] at ih7
        exact ih7
  exact main7 0 (by omega)
/-- high sets out of low ones -/
def zTr (n : Nat) (lo : Nat → Nat) (y : Nat) : Nat := zbits (fun x => (lo x).testBit y) n
def zSumL (m1 : Nat) (l1 l2 : Nat → Nat) (J : Nat) (j : Nat) : Nat := if j < m1 then l1 j else (l2 (j - m1) <<< m1) ||| J
theorem ct_becomeSum {d : Nat} {h : zH} {o n m1 m2 q1 q2 : Nat} {jn : Bool} {fl fh g1 k1 g2 k2 : Nat → Int32} {l1 l2 : Nat → Nat} (ho2 : 2 ≤ o) (hm : m1 + m2 ≤ 8) (hq1 : zSx h q1 m1 g1 k1) (hq2 : zSx h q2 m2 g2 k2) (hv1 : ∀ x, x < m1 → g1 x = nI (l1 x)) (hv2 : ∀ x, x < m2 → g2 x = nI (l2 x)) (ha1 : zApart o q1) (ha2 : zApart o q2)
    (hL : ∀ j, j < m1 + m2 → zSumL m1 l1 l2 (if jn then 1 <<< m1 - 1 else 0) j < 256) : zCall (d + 3) 85 [.ref o, .ref q1, .ref q2, .int (nI (b2n jn))] (zeh h o n fl fh) (none, zeh h o (m1 + m2) (zcut (fun j => nI (zSumL m1 l1 l2 (if jn then 1 <<< m1 - 1 else 0) j)) fl (m1 + m2)) (zcut (fun y => nI (zTr (m1 + m2) (zSumL m1 l1 l2 (if jn then 1 <<< m1 - 1 else 0)) y)) fh (m1 + m2))) := by
  generalize hJ : (if jn then 1 <<< m1 - 1 else 0) = J at hL ⊢
  generalize hF : (fun j => nI (zSumL m1 l1 l2 J j)) = F
  have hFx : ∀ j, F j = nI (zSumL m1 l1 l2 J j) := fun j => by rw [← hF]
  generalize hR : (fun y => nI (zTr (m1 + m2) (zSumL m1 l1 l2 J) y)) = F2
  have hb9 := hL
  have hv9 : ∀ x, x < m1 + m2 → zcut F fl (m1 + m2) x = nI (zSumL m1 l1 l2 J x) := fun x hx => (zcut_lt hx).trans (hFx x)
  refine zG_m (t := tX7_becomeSum) (ls0 := [.ref o, .ref q1, .ref q2, .int (nI (b2n jn)), .null]) rfl rfl (zdnR (zdnR (zdnR (zdnI zdn0)))) rfl ?_
  refine zG_s rfl rfl ?_
  refine zG_s rfl rfl ?_
  refine zN_get rfl (hq1.ne ha1).1 rfl ?_
  refine zG_s rfl rfl ?_
  refine zN_get rfl (hq2.ne ha2).1 rfl ?_
  refine zN_add rfl ?_
  refine zN_psz rfl ?_
  refine zG_s rfl rfl ?_
  refine zN_st4 rfl (fun _ _ _ => rfl) rfl ?_
  have main16 : ∀ x, x ≤ m1 → zGo (d + 2) tX7_becomeSum 16 [.ref o, .ref q1, .ref q2, .int (nI (b2n jn)), .int (nI x)] [] (zeh h o (m1 + m2) (zcut F fl x) fh) (none, zeh h o (m1 + m2) (zcut F fl (m1 + m2)) (zcut F2 fh (m1 + m2))) := by
    refine zdown (m1) ?_ (fun x hp16 ih16 => ?_)
    · skip
      refine zG_s rfl rfl ?_
      refine zG_s rfl rfl ?_
      refine zN_get rfl (hq1.ne ha1).1 rfl ?_
      refine zN_ige rfl (by omega) (by omega) (fun c1 => ?_) (fun c2 => absurd c2 (by omega))
      refine zG_s rfl rfl ?_
      refine zN_st4 rfl (fun _ _ _ => rfl) rfl ?_
      have main48 : ∀ y, y ≤ m2 → zGo (d + 2) tX7_becomeSum 48 [.ref o, .ref q1, .ref q2, .int (nI (b2n jn)), .int (nI y)] [] (zeh h o (m1 + m2) (zcut F fl (m1 + y)) fh) (none, zeh h o (m1 + m2) (zcut F fl (m1 + m2)) (zcut F2 fh (m1 + m2))) := by
        refine zdown (m2) ?_ (fun y hp48 ih48 => ?_)
        · skip
          refine zG_s rfl rfl ?_
          refine zG_s rfl rfl ?_
          refine zN_get rfl (hq2.ne ha2).1 rfl ?_
          refine zN_ige rfl (by omega) (by omega) (fun c3 => ?_) (fun c4 => absurd c4 (by omega))
          refine zG_s rfl rfl ?_
          refine zG_cV0 rfl rfl zeh_o rfl rfl (ct_mirror ho2 (by omega) hb9 hv9) ?_
          -- leaf 1
          rw [← hR]
          exact zG_ret rfl rfl rfl
        · skip
          refine zG_s rfl rfl ?_
          refine zG_s rfl rfl ?_
          refine zN_get rfl (hq2.ne ha2).1 rfl ?_
          refine zN_ige rfl (by omega) (by omega) (fun c5 => absurd c5 (by omega)) (fun c6 => ?_)
          refine zG_s rfl rfl ?_
          refine zN_get rfl (by first | exact zeh_o | assumption) rfl ?_
          refine zG_s rfl rfl ?_
          refine zN_get rfl (hq1.ne ha1).1 rfl ?_
          refine zG_s rfl rfl ?_
          refine zN_add rfl ?_
          refine zG_s rfl rfl ?_
          refine zN_get rfl (hq2.ne ha2).1 rfl ?_
          refine zG_s rfl rfl ?_
          refine zN_ald rfl (hq2.ne ha2).2.1 (by omega) (by omega) (hv2 y hp48) ?_
          refine zG_s rfl rfl ?_
          refine zN_get rfl (hq1.ne ha1).1 rfl ?_
          refine zN_shl rfl (by omega) ?_
          refine zG_s rfl rfl ?_
          first | refine zN_ifb rfl (fun c7 => ?_) (fun c8 => ?_) | refine zN_eq0 rfl (by omega) (fun c7 => ?_) (fun c8 => ?_)
          · skip
            refine zG_s rfl rfl ?_
            refine zN_or rfl ?_
            refine zN_plo rfl (by omega) ho2 ?_
            rw [zcut_up (by rw [hFx, zSumL, if_neg (by omega), show m1 + y - m1 = y by omega, ← hJ]; simp [*])]
            refine zN_inc4 rfl rfl ?_
            refine zG_s rfl rfl ?_
            -- leaf 2
            exact ih48
          · skip
            refine zG_s rfl rfl ?_
            refine zG_cV1 rfl rfl (hq1.ne ha1).1 rfl rfl (ct_all (hq1.ne ha1).1 (by omega)) ?_
            refine zG_s rfl rfl ?_
            refine zN_or rfl ?_
            refine zN_plo rfl (by omega) ho2 ?_
            rw [zcut_up (by rw [hFx, zSumL, if_neg (by omega), show m1 + y - m1 = y by omega, ← hJ]; simp [*])]
            refine zN_inc4 rfl rfl ?_
            refine zG_s rfl rfl ?_
            -- leaf 3
            exact ih48
      exact main48 0 (by omega)
    · skip
      refine zG_s rfl rfl ?_
      refine zG_s rfl rfl ?_
      refine zN_get rfl (hq1.ne ha1).1 rfl ?_
      refine zN_ige rfl (by omega) (by omega) (fun c9 => absurd c9 (by omega)) (fun c10 => ?_)
      refine zG_s rfl rfl ?_
      refine zN_get rfl (by first | exact zeh_o | assumption) rfl ?_
      refine zG_s rfl rfl ?_
      refine zG_s rfl rfl ?_
      refine zN_get rfl (hq1.ne ha1).1 rfl ?_
      refine zG_s rfl rfl ?_
      refine zN_ald rfl (hq1.ne ha1).2.1 (by omega) (by omega) (hv1 x hp16) ?_
      refine zN_plo rfl (by omega) ho2 ?_
      rw [zcut_up (by rw [hFx, zSumL, if_pos hp16])]
      refine zN_inc4 rfl rfl ?_
      refine zG_s rfl rfl ?_
      -- leaf 4
      exact ih16
  have := main16 0 (by omega)
  rw [zcut_0] at this
  exact this
def zTopL (m1 : Nat) (l1 : Nat → Nat) (j : Nat) : Nat := if j < m1 then l1 j else (1 <<< m1 - 1) ||| 1 <<< j
theorem ct_becomeTopped {d : Nat} {h : zH} {o n m1 q1 k : Nat} {fl fh g1 k1 : Nat → Int32} {l1 : Nat → Nat} (ho2 : 2 ≤ o) (hm : m1 + k ≤ 8) (hq1 : zSx h q1 m1 g1 k1) (hv1 : ∀ x, x < m1 → g1 x = nI (l1 x)) (ha1 : zApart o q1) (hL : ∀ j, j < m1 + k → zTopL m1 l1 j < 256) : zCall (d + 3) 87 [.ref o, .ref q1, .int (nI k)] (zeh h o n fl fh) (none, zeh h o (m1 + k) (zcut (fun j => nI (zTopL m1 l1 j)) fl (m1 + k)) (zcut (fun y => nI (zTr (m1 + k) (zTopL m1 l1) y)) fh (m1 + k))) := by
  generalize hF : (fun j => nI (zTopL m1 l1 j)) = F
  have hFx : ∀ j, F j = nI (zTopL m1 l1 j) := fun j => by rw [← hF]
  generalize hR : (fun y => nI (zTr (m1 + k) (zTopL m1 l1) y)) = F2
  have hb9 := hL
  have hv9 : ∀ x, x < m1 + k → zcut F fl (m1 + k) x = nI (zTopL m1 l1 x) := fun x hx => (zcut_lt hx).trans (hFx x)
  refine zG_m (t := tX7_becomeTopped) (ls0 := [.ref o, .ref q1, .int (nI k), .null]) rfl rfl (zdnR (zdnR (zdnI zdn0))) rfl ?_
  refine zG_s rfl rfl ?_
  refine zG_s rfl rfl ?_
  refine zN_get rfl (hq1.ne ha1).1 rfl ?_
  refine zG_s rfl rfl ?_
  refine zN_add rfl ?_
  refine zN_psz rfl ?_
  refine zG_s rfl rfl ?_
  refine zN_st3 rfl (fun _ _ _ => rfl) rfl ?_
  have main12 : ∀ x, x ≤ m1 + k → zGo (d + 2) tX7_becomeTopped 12 [.ref o, .ref q1, .int (nI k), .int (nI x)] [] (zeh h o (m1 + k) (zcut F fl x) fh) (none, zeh h o (m1 + k) (zcut F fl (m1 + k)) (zcut F2 fh (m1 + k))) := by
    refine zdown (m1 + k) ?_ (fun x hp12 ih12 => ?_)
    · skip
      refine zG_s rfl rfl ?_
      refine zG_s rfl rfl ?_
      refine zN_get rfl (by first | exact zeh_o | assumption) rfl ?_
      refine zN_ige rfl (by omega) (by omega) (fun c1 => ?_) (fun c2 => absurd c2 (by omega))
      refine zG_s rfl rfl ?_
      refine zG_cV0 rfl rfl zeh_o rfl rfl (ct_mirror ho2 (by omega) hb9 hv9) ?_
      -- leaf 1
      rw [← hR]
      exact zG_ret rfl rfl rfl
    · skip
      refine zG_s rfl rfl ?_
      refine zG_s rfl rfl ?_
      refine zN_get rfl (by first | exact zeh_o | assumption) rfl ?_
      refine zN_ige rfl (by omega) (by omega) (fun c3 => absurd c3 (by omega)) (fun c4 => ?_)
      refine zG_s rfl rfl ?_
      refine zN_get rfl (by first | exact zeh_o | assumption) rfl ?_
      refine zG_s rfl rfl ?_
      refine zG_s rfl rfl ?_
      refine zG_s rfl rfl ?_
      refine zN_get rfl (hq1.ne ha1).1 rfl ?_
      refine zN_ige rfl (by omega) (by omega) (fun c5 => ?_) (fun c6 => ?_)
      · skip
        refine zG_s rfl rfl ?_
        refine zG_cV1 rfl rfl (hq1.ne ha1).1 rfl rfl (ct_all (hq1.ne ha1).1 (by omega)) ?_
        refine zG_s rfl rfl ?_
        refine zG_s rfl rfl ?_
        refine zN_shl rfl (by omega) ?_
        refine zN_or rfl ?_
        refine zN_plo rfl (by omega) ho2 ?_
        rw [zcut_up (by rw [hFx, zTopL]; first | rw [if_pos (by omega)] | rw [if_neg (by omega)])]
        refine zN_inc3 rfl rfl ?_
        refine zG_s rfl rfl ?_
        -- leaf 2
        exact ih12
      · skip
        refine zG_s rfl rfl ?_
        refine zN_get rfl (hq1.ne ha1).1 rfl ?_
        refine zG_s rfl rfl ?_
        refine zN_ald rfl (hq1.ne ha1).2.1 (by omega) (by omega) (hv1 x (by omega)) ?_
        refine zG_s rfl rfl ?_
        refine zN_plo rfl (by omega) ho2 ?_
        rw [zcut_up (by rw [hFx, zTopL]; first | rw [if_pos (by omega)] | rw [if_neg (by omega)])]
        refine zN_inc3 rfl rfl ?_
        refine zG_s rfl rfl ?_
        -- leaf 3
        exact ih12
  have := main12 0 (by omega)
  rw [zcut_0] at this
  exact this
def zProL (m1 m2 : Nat) (l1 l2 : Nat → Nat) (j : Nat) : Nat := zor (fun y => if (l1 (j / m2)).testBit y then l2 (j % m2) <<< (y * m2) else 0) m1
theorem ct_becomeProduct {d : Nat} {h : zH} {o n m1 m2 q1 q2 : Nat} {fl fh g1 k1 g2 k2 : Nat → Int32} {l1 l2 : Nat → Nat} (ho2 : 2 ≤ o) (hm1 : m1 ≤ 8) (hm2 : m2 ≤ 8) (hm : m1 * m2 ≤ 8) (hq1 : zSx h q1 m1 g1 k1) (hq2 : zSx h q2 m2 g2 k2) (hv1 : ∀ x, x < m1 → g1 x = nI (l1 x)) (hb1 : ∀ x, x < m1 → l1 x < 256) (hv2 : ∀ x, x < m2 → g2 x = nI (l2 x)) (ha1 : zApart o q1) (ha2 : zApart o q2)
    (hL : ∀ j, j < m1 * m2 → zProL m1 m2 l1 l2 j < 256) : zCall (d + 3) 86 [.ref o, .ref q1, .ref q2] (zeh h o n fl fh) (none, zeh h o (m1 * m2) (zcut (fun j => nI (zProL m1 m2 l1 l2 j)) fl (m1 * m2)) (zcut (fun y => nI (zTr (m1 * m2) (zProL m1 m2 l1 l2) y)) fh (m1 * m2))) := by
  generalize hF : (fun j => nI (zProL m1 m2 l1 l2 j)) = F
  have hFx : ∀ j, F j = nI (zProL m1 m2 l1 l2 j) := fun j => by rw [← hF]
  generalize hR : (fun y => nI (zTr (m1 * m2) (zProL m1 m2 l1 l2) y)) = F2
  have hb9 := hL
  have hv9 : ∀ x, x < m1 * m2 → zcut F fl (m1 * m2) x = nI (zProL m1 m2 l1 l2 x) := fun x hx => (zcut_lt hx).trans (hFx x)
  refine zG_m (t := tX7_becomeProduct) (ls0 := [.ref o, .ref q1, .ref q2, .null, .null, .null, .null]) rfl rfl (zdnR (zdnR (zdnR zdn0))) rfl ?_
  refine zG_s rfl rfl ?_
  refine zG_s rfl rfl ?_
  refine zN_get rfl (hq1.ne ha1).1 rfl ?_
  refine zG_s rfl rfl ?_
  refine zN_get rfl (hq2.ne ha2).1 rfl ?_
  refine zN_mul rfl ?_
  refine zN_psz rfl ?_
  refine zG_s rfl rfl ?_
  refine zN_st3 rfl (fun _ _ _ => rfl) rfl ?_
  have main15 : ∀ p, p ≤ m1 → ∀ (z4 z5 z6 : Value), zok1 [.ref o, .ref q1, .ref q2, .int (nI p), z4, z5, z6] 5 = true → zok1 [.ref o, .ref q1, .ref q2, .int (nI p), z4, z5, z6] 6 = true → zGo (d + 2) tX7_becomeProduct 15 [.ref o, .ref q1, .ref q2, .int (nI p), z4, z5, z6] [] (zeh h o (m1 * m2) (zcut F fl (p * m2)) fh) (none, zeh h o (m1 * m2) (zcut F fl (m1 * m2)) (zcut F2 fh (m1 * m2))) := by
    refine zdown (m1) ?_ (fun p hp15 ih15 => ?_)
    · skip
      intro z4 z5 z6 e5 e6
      refine zG_s rfl rfl ?_
      refine zG_s rfl rfl ?_
      refine zN_get rfl (hq1.ne ha1).1 rfl ?_
      refine zN_ige rfl (by omega) (by omega) (fun c1 => ?_) (fun c2 => absurd c2 (by omega))
      refine zG_s rfl rfl ?_
      refine zG_cV0 rfl rfl zeh_o rfl rfl (ct_mirror ho2 (by omega) hb9 hv9) ?_
      -- leaf 1
      rw [← hR]
      exact zG_ret rfl rfl rfl
    · skip
      intro z4 z5 z6 e5 e6
      have f1 : p * m2 + m2 ≤ m1 * m2 := by
        have := Nat.mul_le_mul_right m2 (show p + 1 ≤ m1 from hp15)
        rw [Nat.succ_mul] at this
        exact this
      have f2 := hb1 p hp15
      refine zG_s rfl rfl ?_
      refine zG_s rfl rfl ?_
      refine zN_get rfl (hq1.ne ha1).1 rfl ?_
      refine zN_ige rfl (by omega) (by omega) (fun c3 => absurd c3 (by omega)) (fun c4 => ?_)
      refine zG_s rfl rfl ?_
      refine zN_st4 rfl (fun _ _ _ => rfl) rfl ?_
      have main26 : ∀ q, q ≤ m2 → ∀ (z5 z6 : Value), zok1 [.ref o, .ref q1, .ref q2, .int (nI p), .int (nI q), z5, z6] 6 = true → zGo (d + 2) tX7_becomeProduct 26 [.ref o, .ref q1, .ref q2, .int (nI p), .int (nI q), z5, z6] [] (zeh h o (m1 * m2) (zcut F fl (p * m2 + q)) fh) (none, zeh h o (m1 * m2) (zcut F fl (m1 * m2)) (zcut F2 fh (m1 * m2))) := by
        refine zdown (m2) ?_ (fun q hp26 ih26 => ?_)
        · skip
          intro z5 z6 e6
          refine zG_s rfl rfl ?_
          refine zG_s rfl rfl ?_
          refine zN_get rfl (hq2.ne ha2).1 rfl ?_
          refine zN_ige rfl (by omega) (by omega) (fun c5 => ?_) (fun c6 => absurd c6 (by omega))
          refine zN_inc3 rfl rfl ?_
          refine zG_s rfl rfl ?_
          -- leaf 2
          rw [Nat.succ_mul] at ih15
          exact ih15 _ _ _ rfl e6
        · skip
          intro z5 z6 e6
          have f3 : zProL m1 m2 l1 l2 (p * m2 + q) = zor (fun y => if (l1 p).testBit y then l2 q <<< (y * m2) else 0) m1 := by
            unfold zProL
            rw [show (p * m2 + q) / m2 = p by rw [Nat.mul_comm, Nat.mul_add_div (by omega), Nat.div_eq_of_lt hp26, Nat.add_zero], show (p * m2 + q) % m2 = q by rw [Nat.mul_comm, Nat.mul_add_mod, Nat.mod_eq_of_lt hp26]]
          refine zG_s rfl rfl ?_
          refine zG_s rfl rfl ?_
          refine zN_get rfl (hq2.ne ha2).1 rfl ?_
          refine zN_ige rfl (by omega) (by omega) (fun c7 => absurd c7 (by omega)) (fun c8 => ?_)
          refine zG_s rfl rfl ?_
          refine zN_st5 rfl (fun _ _ _ => rfl) rfl ?_
          refine zG_s rfl rfl ?_
          refine zN_st6 rfl (fun _ _ _ => rfl) rfl ?_
          have main41 : ∀ y, y ≤ m1 → zGo (d + 2) tX7_becomeProduct 41 [.ref o, .ref q1, .ref q2, .int (nI p), .int (nI q), .int (nI (zor (fun y => if (l1 p).testBit y then l2 q <<< (y * m2) else 0) y)), .int (nI y)] [] (zeh h o (m1 * m2) (zcut F fl (p * m2 + q)) fh) (none, zeh h o (m1 * m2) (zcut F fl (m1 * m2)) (zcut F2 fh (m1 * m2))) := by
            refine zdown (m1) ?_ (fun y hp41 ih41 => ?_)
            · skip
              refine zG_s rfl rfl ?_
              refine zG_s rfl rfl ?_
              refine zN_get rfl (hq1.ne ha1).1 rfl ?_
              refine zN_ige rfl (by omega) (by omega) (fun c9 => ?_) (fun c10 => absurd c10 (by omega))
              refine zG_s rfl rfl ?_
              refine zN_get rfl (by first | exact zeh_o | assumption) rfl ?_
              refine zG_s rfl rfl ?_
              refine zG_s rfl rfl ?_
              refine zN_get rfl (hq2.ne ha2).1 rfl ?_
              refine zN_mul rfl ?_
              refine zG_s rfl rfl ?_
              refine zN_add rfl ?_
              refine zG_s rfl rfl ?_
              refine zN_plo rfl (by omega) ho2 ?_
              rw [zcut_up (by rw [hFx, f3])]
              refine zN_inc4 rfl rfl ?_
              refine zG_s rfl rfl ?_
              -- leaf 3
              exact ih26 _ _ rfl
            · skip
              have f4 : y * m2 + m2 ≤ m1 * m2 := by
                have := Nat.mul_le_mul_right m2 (show y + 1 ≤ m1 from hp41)
                rw [Nat.succ_mul] at this
                exact this
              refine zG_s rfl rfl ?_
              refine zG_s rfl rfl ?_
              refine zN_get rfl (hq1.ne ha1).1 rfl ?_
              refine zN_ige rfl (by omega) (by omega) (fun c11 => absurd c11 (by omega)) (fun c12 => ?_)
              refine zG_s rfl rfl ?_
              refine zG_s rfl rfl ?_
              refine zN_get rfl (hq1.ne ha1).1 rfl ?_
              refine zG_s rfl rfl ?_
              refine zN_ald rfl (hq1.ne ha1).2.1 (by omega) (by omega) (hv1 p hp15) ?_
              refine zG_s rfl rfl ?_
              refine zG_cS1 rfl rfl (ct_has _ (by omega) (by omega)) ?_
              first | refine zN_ifb rfl (fun c13 => ?_) (fun c14 => ?_) | refine zN_eq0 rfl (by omega) (fun c13 => ?_) (fun c14 => ?_)
              · skip
                refine zG_s rfl rfl ?_
                refine zN_or rfl ?_
                refine zN_st5 rfl (fun _ _ _ => rfl) rfl ?_
                refine zN_inc6 rfl rfl ?_
                refine zG_s rfl rfl ?_
                -- leaf 4
                rw [Nat.or_zero]
                rw [zor, if_neg (by rw [c13]; decide), Nat.or_zero] at ih41
                exact ih41
              · skip
                refine zG_s rfl rfl ?_
                refine zN_get rfl (hq2.ne ha2).1 rfl ?_
                refine zG_s rfl rfl ?_
                refine zN_ald rfl (hq2.ne ha2).2.1 (by omega) (by omega) (hv2 q hp26) ?_
                refine zG_s rfl rfl ?_
                refine zG_s rfl rfl ?_
                refine zN_get rfl (hq2.ne ha2).1 rfl ?_
                refine zN_mul rfl ?_
                refine zN_shl rfl (by omega) ?_
                refine zG_s rfl rfl ?_
                refine zN_or rfl ?_
                refine zN_st5 rfl (fun _ _ _ => rfl) rfl ?_
                refine zN_inc6 rfl rfl ?_
                refine zG_s rfl rfl ?_
                -- leaf 5
                rw [zor, if_pos (by assumption)] at ih41
                exact ih41
          exact main41 0 (by omega)
      exact main26 0 (by omega) z5 z6 e6
  have := main15 0 (by omega) .null .null .null rfl rfl
  rw [Nat.zero_mul, zcut_0] at this
  exact this
theorem zcode_iff {x : Int32} {k : Nat} (hk : k ≤ 20) : (zc1 .lt x = false ∧ x >>> (nI k &&& 31) = 0) ↔ zin x (1 <<< k) = true := by
  have hp : 1 <<< k ≤ 2 ^ 20 := by
    rw [Nat.one_shiftLeft]
    exact Nat.pow_le_pow_right (by omega) hk
  rw [zin_iff (by omega)]
  constructor
  · rintro ⟨h1, h2⟩
    obtain ⟨j, hj, rfl⟩ := nI_of (show ¬ x < 0 from of_decide_eq_false h1)
    rw [nI_shr hj (by omega)] at h2
    have h3 : j >>> k = 0 := nI_inj32 (by have := zshr_le j k; omega) (by decide) (h2.trans nI_0.symm)
    rw [Nat.shiftRight_eq_div_pow] at h3
    refine ⟨j, ?_, rfl⟩
    rw [Nat.one_shiftLeft]
    exact (Nat.div_eq_zero_iff_lt (Nat.two_pow_pos k)).mp h3
  · rintro ⟨j, hj, rfl⟩
    refine ⟨decide_eq_false (nI_pos (by omega)), ?_⟩
    rw [nI_shr (by omega) (by omega), Nat.shiftRight_eq_div_pow, Nat.div_eq_of_lt (by rw [← Nat.one_shiftLeft]; exact hj)]
    rfl
theorem zn1 : ∀ n, n ≤ 5 → nI n * (nI n - nI 1) = nI (n * (n - 1)) := by decide +kernel
/-- the place of the first bit of x in a code -/
def zCb (n x : Nat) : Nat := x * (n - 1)
/-- the set of x before y has come, by a code -/
def zCo (n w x : Nat) : Nat → Nat
  | 0 => 1 <<< x
  | y + 1 => if y = x then zCo n w x y else zCo n w x y ||| (if w.testBit (zCb n x + (if y < x then y else y - 1)) then 1 <<< y else 0)
theorem ct_becomeCodedBad {d : Nat} {h : zH} {o n : Nat} {x : Int32} (hn : n ≤ 5) (hx : zin x (1 <<< (n * (n - 1))) = false) : zCall (d + 3) 88 [.ref o, .int (nI n), .int x] h (some (.int (nI 0)), h) := by
  have hk : n * (n - 1) ≤ 20 := by
    have : ∀ n, n ≤ 5 → n * (n - 1) ≤ 20 := by decide
    exact this n hn
  refine zG_m (t := tX7_becomeCoded) (ls0 := [.ref o, .int (nI n), .int x, .null, .null, .null]) rfl rfl (zdnR (zdnI (zdnI zdn0))) rfl ?_
  refine zG_s rfl rfl ?_
  refine zN_if rfl (fun c1 => ?_) (fun c2 => ?_)
  · skip
    refine zG_s rfl rfl ?_
    -- leaf 1
    exact zG_ret rfl rfl rfl
  · skip
    refine zG_s rfl rfl ?_
    refine zG_s rfl rfl ?_
    refine zG_s rfl rfl ?_
    refine zG_s rfl rfl ?_
    refine zG_s rfl rfl ?_
    refine zG_s rfl rfl ?_
    show zGo (d + 2) _ 10 _ [.int (nI n * (nI n - nI 1)), _] _ _
    rw [zn1 n hn]
    refine zG_s rfl rfl ?_
    refine zN_if rfl (fun c3 => ?_) (fun c4 => ?_)
    · have c3 : x >>> (nI (n * (n - 1)) &&& 31) = 0 := of_decide_eq_true c3
      have := (zcode_iff hk).mp ⟨c2, c3⟩
      rw [hx] at this
      cases this
    refine zG_s rfl rfl ?_
    -- leaf 2
    exact zG_ret rfl rfl rfl
