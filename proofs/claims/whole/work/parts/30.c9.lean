theorem ct_host {d : Nat} {h : zH} {g n x s : Nat} {ec : Int32} {lo hi : Nat → Nat} {fl fh fb fa ft sh rw en im : Nat → Int32} (hG : zG0 h g n ec fl fh fb fa ft sh rw en im) (hV : zGv n lo hi fl fh fb fa ft) (hO : zOk n lo hi) (hx : x < n) (hs : s < 256) : zCall (d + 2) 37 [.ref g, .int (nI x), .int (nI s)] h (some (.int (zix (zHost n lo hi x s) n)), h) := by
  have hn := hO.1
  have b1 := zand_lt' (zBw lo hi x) hs
  have b2 := zand_lt' (zAb lo hi x) hs
  have b3 := zand_lt' (zTw lo hi x) hs
  obtain ⟨R9, r0, r1, r2⟩ : ∃ R9 : Int32, zix (zHost n lo hi x s) n = R9 ∧ ((∀ j, j < n → (zTw lo hi x &&& s).testBit j = false) → R9 = zix (if zHold n lo (zBw lo hi x &&& s) < n then zHold n lo (zBw lo hi x &&& s) else zHold n hi (zAb lo hi x &&& s)) n) ∧ (∀ i, i < n → (zTw lo hi x &&& s).testBit i = true → (∀ j, j < i → (zTw lo hi x &&& s).testBit j = false) → R9 = nI i) :=
    ⟨_, rfl, fun hj => by unfold zHost; rw [if_neg (by rw [zfs_none hj]; exact Nat.lt_irrefl n)], fun i hi9 h1 hj => by unfold zHost zix; rw [zfs_at hi9 h1 hj, if_pos hi9, if_pos hi9]⟩
  rw [r0]
  clear r0
  refine zG_m (t := tX3_host) (ls0 := [.ref g, .int (nI x), .int (nI s), .null]) rfl rfl (zdnR (zdnI (zdnI zdn0))) rfl ?_
  refine zG_s rfl rfl ?_
  refine zN_st3 rfl (fun _ _ _ => rfl) rfl ?_
  have main2 : ∀ y, y ≤ n → (∀ j, j < y → (zTw lo hi x &&& s).testBit j = false) → zGo (d + 1) tX3_host 2 [.ref g, .int (nI x), .int (nI s), .int (nI y)] [] h (some (.int R9), h) := by
    refine zdown (n) ?_ (fun y hp2 ih2 => ?_)
    · skip
      intro hj
      refine zG_s rfl rfl ?_
      refine zG_s rfl rfl ?_
      refine zN_get rfl hG.o rfl ?_
      refine zN_ige rfl (by omega) (by omega) (fun c1 => ?_) (fun c2 => absurd c2 (by omega))
      refine zG_s rfl rfl ?_
      refine zG_s rfl rfl ?_
      refine zN_get rfl hG.o rfl ?_
      refine zG_s rfl rfl ?_
      refine zN_ald rfl hG.fb (by omega) (by omega) (hV x hx).2.2.1 ?_
      refine zG_s rfl rfl ?_
      refine zN_and rfl ?_
      refine zG_s rfl rfl ?_
      refine zN_get rfl hG.o rfl ?_
      refine zG_cV1 rfl rfl hG.o rfl rfl (ct_holder hG.o hG.fl hn (fun x hx => (hV x hx).1) b1) ?_
      refine zN_st3 rfl (fun _ _ _ => rfl) rfl ?_
      refine zG_s rfl rfl ?_
      refine zN_if rfl (fun c3 => ?_) (fun c4 => ?_)
      · skip
        refine zG_s rfl rfl ?_
        refine zG_s rfl rfl ?_
        refine zN_get rfl hG.o rfl ?_
        refine zG_s rfl rfl ?_
        refine zN_ald rfl hG.fa (by omega) (by omega) (hV x hx).2.2.2.1 ?_
        refine zG_s rfl rfl ?_
        refine zN_and rfl ?_
        refine zG_s rfl rfl ?_
        refine zN_get rfl hG.o rfl ?_
        refine zG_cV1 rfl rfl hG.o rfl rfl (ct_holder hG.o hG.fh hn (fun x hx => (hV x hx).2.1) b2) ?_
        -- leaf 1
        rw [zix_lt0 (by omega), Bool.not_eq_true'] at c3
        exact zG_ret rfl rfl (by rw [r1 hj, if_neg (of_decide_eq_false c3)])
      · skip
        refine zG_s rfl rfl ?_
        refine zG_s rfl rfl ?_
        -- leaf 2
        rw [zix_lt0 (by omega), Bool.not_eq_false'] at c4
        exact zG_ret rfl rfl (by rw [r1 hj, if_pos (of_decide_eq_true c4)])
    · skip
      intro hj
      refine zG_s rfl rfl ?_
      refine zG_s rfl rfl ?_
      refine zN_get rfl hG.o rfl ?_
      refine zN_ige rfl (by omega) (by omega) (fun c5 => absurd c5 (by omega)) (fun c6 => ?_)
      refine zG_s rfl rfl ?_
      refine zN_get rfl hG.o rfl ?_
      refine zG_s rfl rfl ?_
      refine zN_ald rfl hG.ft (by omega) (by omega) (hV x hx).2.2.2.2 ?_
      refine zG_s rfl rfl ?_
      refine zN_and rfl ?_
      refine zG_s rfl rfl ?_
      refine zG_cS1 rfl rfl (ct_has _ (by omega) (by omega)) ?_
      first | refine zN_ifb rfl (fun c7 => ?_) (fun c8 => ?_) | refine zN_eq0 rfl (by omega) (fun c7 => ?_) (fun c8 => ?_)
      · skip
        refine zN_inc3 rfl rfl ?_
        refine zG_s rfl rfl ?_
        -- leaf 3
        exact ih2 (fun j hj2 => by
          by_cases e : j = y
          · subst e; assumption
          · exact hj j (by omega))
      · skip
        refine zG_s rfl rfl ?_
        -- leaf 4
        exact zG_ret rfl rfl (by rw [r2 y hp2 (by assumption) hj])
  exact main2 0 (by omega) (fun j hj => absurd hj (by omega))
theorem ct_leastEnd {d : Nat} {h : zH} {g n m : Nat} {lo hi : Nat → Nat} {fl fh fb fa ft sh rw en im : Nat → Int32} {E : Nat → Nat} (hG : zG0 h g n (nI m) fl fh fb fa ft sh rw en im) (hm : m ≤ 256) (hE : ∀ i, i < m → en i = nI (E i)) : zCall (d + 1) 36 [.ref g] h (some (.int (nI (if 0 < m then E (m - 1) else 0))), h) := by
  refine zG_m (t := tX3_leastEnd) (ls0 := [.ref g]) rfl rfl (zdnR zdn0) rfl ?_
  refine zG_s rfl rfl ?_
  refine zN_get rfl hG.o rfl ?_
  refine zN_if rfl (fun c1 => ?_) (fun c2 => ?_)
  · skip
    refine zG_s rfl rfl ?_
    -- leaf 1
    have e0 : m = 0 := by
      have := of_decide_eq_true c1
      rcases Nat.eq_zero_or_pos m with e | e
      · exact e
      · exact absurd ((nI_leI (a := m) (b := 0) (by omega) (by omega)).mp this) (by omega)
    subst e0
    exact zG_ret rfl rfl rfl
  · skip
    refine zG_s rfl rfl ?_
    have e0 : 0 < m := by
      rcases Nat.eq_zero_or_pos m with e | e
      · subst e; exact absurd c2 (by decide)
      · exact e
    refine zN_get rfl hG.o rfl ?_
    refine zG_s rfl rfl ?_
    refine zN_get rfl hG.o rfl ?_
    refine zG_s rfl rfl ?_
    refine zN_sub (y := 1) rfl (by omega) ?_
    refine zN_ald rfl hG.en (by omega) (by omega) (hE (m - 1) (by omega)) ?_
    refine zG_s rfl rfl ?_
    -- leaf 2
    rw [if_pos e0]
    exact zG_ret rfl rfl rfl
theorem ct_enter {d : Nat} {h : zH} {g m q n : Nat} {ec : Int32} {lo hi : Nat → Nat} {fl fh fb fa ft sh rw en im : Nat → Int32} (hg : 2 ≤ g) (hG0 : zG0 h g m ec fl fh fb fa ft sh rw en im) (hS0 : zSp h q n lo hi) (hO : zOk n lo hi) (hq : zgN g q) : zCallP (d + 2) 21 [.ref g, .ref q] h (zRN (zGA h g n lo hi ec rw en im)) := by
  have hn := hO.1
  have b0 := zpow_le hn
  obtain ⟨n1, n2, n3⟩ := hq.fr
  obtain ⟨gl, gh, hX, hW⟩ := hS0.x
  have hZ : ∀ {h1 : zH}, zFr (zgS g) h h1 → zSx h1 q n gl gh := fun hF => zSx.fr hF n1 n2 n3 hX
  refine zG_mP (t := tX3_enter) (ls0 := [.ref g, .ref q, .null]) rfl rfl (zdnR (zdnR zdn0)) rfl ?_
  refine zG_s rfl rfl ?_
  refine zG_s rfl rfl ?_
  refine zN_get rfl hS0.1 rfl ?_
  refine zN_put (fs' := [.int (nI n), .ref (g + 1), .ref (g + 2), .ref (g + 3), .ref (g + 4), .ref (g + 5), .ref (g + 6), .ref (g + 7), .ref (g + 8), .int ec, .ref (g + 9)]) rfl hG0.o rfl rfl rfl ?_
  refine zG_s rfl rfl ?_
  refine zN_st2 rfl (fun _ _ _ => rfl) rfl ?_
  have main10 : ∀ x, x ≤ n → ∀ (h1 : zH) (fl fh fb fa ft : Nat → Int32), zFr (zgS g) h h1 → zG0 h1 g n ec fl fh fb fa ft sh rw en im → zGv x lo hi fl fh fb fa ft → zGoP (d + 1) tX3_enter 10 [.ref g, .ref q, .int (nI x)] [] h1 (zRN (zGA h g n lo hi ec rw en im)) := by
    refine zdown (n) ?_ (fun x hp10 ih10 => ?_)
    · skip
      intro h1 fl fh fb fa ft hF hG hV
      refine zG_s rfl rfl ?_
      refine zG_s rfl rfl ?_
      refine zN_get rfl hG.o rfl ?_
      refine zN_ige rfl (by omega) (by omega) (fun c1 => ?_) (fun c2 => absurd c2 (by omega))
      refine zG_s rfl rfl ?_
      refine zN_st2 rfl (fun _ _ _ => rfl) rfl ?_
      have main97 : ∀ s, s ≤ 1 <<< n → ∀ (h1 : zH) (sh : Nat → Int32), zFr (zgS g) h h1 → zG0 h1 g n ec fl fh fb fa ft sh rw en im → (∀ j, j < s → sh j = nI 0) → zGoP (d + 1) tX3_enter 97 [.ref g, .ref q, .int (nI s)] [] h1 (zRN (zGA h g n lo hi ec rw en im)) := by
        refine zdown (1 <<< n) ?_ (fun s hp97 ih97 => ?_)
        · skip
          intro h1 sh hF hG hsh
          refine zG_s rfl rfl ?_
          refine zG_s rfl rfl ?_
          refine zG_cV1 rfl rfl hG.o rfl rfl (ct_gall hG.o (by omega)) ?_
          refine zN_igt rfl (by omega) (by omega) (fun c3 => ?_) (fun c4 => absurd c4 (by omega))
          -- leaf 1
          exact zG_ret rfl rfl ⟨rfl, hF, _, _, _, _, _, _, hG, hV, fun s hs => Or.inl (hsh s hs)⟩
        · skip
          intro h1 sh hF hG hsh
          refine zG_s rfl rfl ?_
          refine zG_s rfl rfl ?_
          refine zG_cV1 rfl rfl hG.o rfl rfl (ct_gall hG.o (by omega)) ?_
          refine zN_igt rfl (by omega) (by omega) (fun c5 => absurd c5 (by omega)) (fun c6 => ?_)
          refine zG_s rfl rfl ?_
          refine zN_get rfl hG.o rfl ?_
          refine zG_s rfl rfl ?_
          refine zG_s rfl rfl ?_
          refine zN_ast rfl hG.sh (by omega) (by omega) (zble_of hg) ?_
          refine zN_inc2 rfl rfl ?_
          refine zG_s rfl rfl ?_
          -- leaf 2
          exact ih97 _ _ (hF.set (zgS_in (k := 6) (by omega))) hG.p_sh (fun j hj => by
            by_cases e : j = s
            · subst e; exact upd_at _ _ _
            · rw [upd_ne _ _ e]; exact hsh j (by omega))
      exact main97 0 (by omega) h1 sh hF hG (fun j hj => absurd hj (by omega))
    · skip
      intro h1 fl fh fb fa ft hF hG hV
      have b1 := hO.2 x hp10
      have hG2 := hG.p_fl (q := upd fl x (nI (lo x)))
      have hF2 := hF.set (c := .inl (0, 8, .inl (upd fl x (nI (lo x))))) (zgS_in (g := g) (k := 1) (by omega))
      have hG3 := hG2.p_fh (q := upd fh x (nI (hi x)))
      have hF3 := hF2.set (c := .inl (0, 8, .inl (upd fh x (nI (hi x))))) (zgS_in (g := g) (k := 2) (by omega))
      have hG4 := hG3.p_fb (q := upd fb x (nI (zBw lo hi x)))
      have hF4 := hF3.set (c := .inl (0, 8, .inl (upd fb x (nI (zBw lo hi x))))) (zgS_in (g := g) (k := 3) (by omega))
      have hG5 := hG4.p_fa (q := upd fa x (nI (zAb lo hi x)))
      have hF5 := hF4.set (c := .inl (0, 8, .inl (upd fa x (nI (zAb lo hi x))))) (zgS_in (g := g) (k := 4) (by omega))
      have hG6 := hG5.p_ft (q := upd ft x (nI (zTw lo hi x)))
      have hF6 := hF5.set (c := .inl (0, 8, .inl (upd ft x (nI (zTw lo hi x))))) (zgS_in (g := g) (k := 5) (by omega))
      refine zG_s rfl rfl ?_
      refine zG_s rfl rfl ?_
      refine zN_get rfl hG.o rfl ?_
      refine zN_ige rfl (by omega) (by omega) (fun c7 => absurd c7 (by omega)) (fun c8 => ?_)
      refine zG_s rfl rfl ?_
      refine zN_get rfl hG.o rfl ?_
      refine zG_s rfl rfl ?_
      refine zG_s rfl rfl ?_
      refine zN_get rfl (hZ hF).1 rfl ?_
      refine zG_s rfl rfl ?_
      refine zN_ald rfl (hZ hF).2.1 (by omega) (by omega) (hW x hp10).1 ?_
      refine zN_ast rfl hG.fl (by omega) (by omega) (zble_of hg) ?_
      refine zG_s rfl rfl ?_
      refine zN_get rfl hG2.o rfl ?_
      refine zG_s rfl rfl ?_
      refine zG_s rfl rfl ?_
      refine zN_get rfl (hZ hF2).1 rfl ?_
      refine zG_s rfl rfl ?_
      refine zN_ald rfl (hZ hF2).2.2 (by omega) (by omega) (hW x hp10).2 ?_
      refine zN_ast rfl hG2.fh (by omega) (by omega) (zble_of hg) ?_
      refine zG_s rfl rfl ?_
      refine zN_get rfl hG3.o rfl ?_
      refine zG_s rfl rfl ?_
      refine zG_s rfl rfl ?_
      refine zG_s rfl rfl ?_
      refine zG_cV1 rfl rfl (hZ hF3).1 rfl rfl (ct_below ⟨zSp.fr hF3 n1 n2 n3 hS0, hO⟩ hp10) ?_
      refine zN_ast rfl hG3.fb (by omega) (by omega) (zble_of hg) ?_
      refine zG_s rfl rfl ?_
      refine zN_get rfl hG4.o rfl ?_
      refine zG_s rfl rfl ?_
      refine zG_s rfl rfl ?_
      refine zG_s rfl rfl ?_
      refine zG_cV1 rfl rfl (hZ hF4).1 rfl rfl (ct_above ⟨zSp.fr hF4 n1 n2 n3 hS0, hO⟩ hp10) ?_
      refine zN_ast rfl hG4.fa (by omega) (by omega) (zble_of hg) ?_
      refine zG_s rfl rfl ?_
      refine zN_get rfl hG5.o rfl ?_
      refine zG_s rfl rfl ?_
      refine zG_s rfl rfl ?_
      refine zN_get rfl (hZ hF5).1 rfl ?_
      refine zG_s rfl rfl ?_
      refine zN_ald rfl (hZ hF5).2.1 (by omega) (by omega) (hW x hp10).1 ?_
      refine zG_s rfl rfl ?_
      refine zN_get rfl (hZ hF5).1 rfl ?_
      refine zG_s rfl rfl ?_
      refine zN_ald rfl (hZ hF5).2.2 (by omega) (by omega) (hW x hp10).2 ?_
      refine zN_and rfl ?_
      refine zG_s rfl rfl ?_
      refine zG_s rfl rfl ?_
      refine zN_shl rfl (by omega) ?_
      refine zG_s rfl rfl ?_
      refine zN_not rfl ?_
      refine zN_andn rfl ?_
      refine zN_ast rfl hG5.ft (by omega) (by omega) (zble_of hg) ?_
      refine zN_inc2 rfl rfl ?_
      refine zG_s rfl rfl ?_
      -- leaf 3
      exact ih10 _ _ _ _ _ _ hF6 hG6 (fun y hy => by
        by_cases e : y = x
        · subst e; simp only [upd_at, zBw, zAb, zTw, and_self]
        · simp only [upd_ne _ _ e]; exact hV y (by omega))
  exact main10 0 (by omega) _ _ _ _ _ _ (zFr.rf.set (zgS_in (k := 0) (by omega))) (hG0.p_n (e2 := 0)) (fun x hx => absurd hx (by omega))
theorem ct_leftBy {d : Nat} {h : zH} {g m q n k od : Nat} {ec : Int32} {lo hi : Nat → Nat} {fl fh fb fa ft sh rw en im : Nat → Int32} (hg : 2 ≤ g) (hG0 : zG0 h g m ec fl fh fb fa ft sh rw en im) (hS0 : zSp h q n lo hi) (hO : zOk n lo hi) (hR : zRfl n lo hi) (hq : zgN g q) (hk : k < 6) (hod : od < 4) : zCallP (d + 7) 34 [.ref g, .ref q, .int (nI k), .int (nI od)] h (zRV (.int (nI (zLeft n lo hi k od))) (zGA h g n lo hi ec rw en im)) := by
  have hn := hO.1
  have b0 := zpow_le hn
  have hst : ∀ i, i ≤ 8 → zGoers n lo hi k (zit (zLS n lo hi k od) i (1 <<< n - 1)) = 0 → zLeft n lo hi k od = zit (zLS n lo hi k od) i (1 <<< n - 1) := by
    intro i hi8 h1
    unfold zLeft
    rw [show (8 : Nat) = (8 - i) + i by omega, zit_add]
    exact zit_stay (f := zLS n lo hi k od) (if_pos h1) _
  refine zG_mP (t := tX3_leftBy) (ls0 := [.ref g, .ref q, .int (nI k), .int (nI od), .null, .null, .null]) rfl rfl (zdnR (zdnR (zdnI (zdnI zdn0)))) rfl ?_
  refine zG_s rfl rfl ?_
  refine zG_s rfl rfl ?_
  refine zG_cQN rfl rfl hG0.o rfl rfl (ct_enter hg hG0 hS0 hO hq) (fun h1 hA => ?_)
  clear hG0 fl fh fb fa ft sh
  obtain ⟨fl, fh, fb, fa, ft, sh, hG⟩ := hA.g
  refine zG_s rfl rfl ?_
  refine zG_cV1 rfl rfl hG.o rfl rfl (ct_gall hG.o (by omega)) ?_
  refine zN_st4 rfl (fun _ _ _ => rfl) rfl ?_
  refine zG_s rfl rfl ?_
  refine zN_st5 rfl (fun _ _ _ => rfl) rfl ?_
  have main14 : ∀ i, i ≤ 8 → ∀ (h1 : zH) (z : Value), zGA h g n lo hi ec rw en im h1 → zok1 [.ref g, .ref q, .int (nI k), .int (nI od), .int (nI (zit (zLS n lo hi k od) i (1 <<< n - 1))), .int (nI i), z] 6 = true → zGoP (d + 6) tX3_leftBy 14 [.ref g, .ref q, .int (nI k), .int (nI od), .int (nI (zit (zLS n lo hi k od) i (1 <<< n - 1))), .int (nI i), z] [] h1 (zRV (.int (nI (zLeft n lo hi k od))) (zGA h g n lo hi ec rw en im)) := by
    refine zdown (8) ?_ (fun i hp14 ih14 => ?_)
    · skip
      intro h1 z hA e6
      refine zG_s rfl rfl ?_
      refine zG_s rfl rfl ?_
      refine zN_ige rfl (by omega) (by omega) (fun c1 => ?_) (fun c2 => absurd c2 (by omega))
      refine zG_s rfl rfl ?_
      -- leaf 1
      exact zG_ret rfl rfl ⟨rfl, hA⟩
    · skip
      intro h1 z hA e6
      have ss := zLSs_le n lo hi k od (1 <<< n - 1) i
      obtain ⟨hF, fl, fh, fb, fa, ft, sh, hG, hV, hM⟩ := hA
      have hA : zGA h g n lo hi ec rw en im h1 := ⟨hF, fl, fh, fb, fa, ft, sh, hG, hV, hM⟩
      generalize hs : zit (zLS n lo hi k od) i (1 <<< n - 1) = s at *
      have bg := zbits_lt8 (fun x => s.testBit x && zMay n lo hi k x s) hn
      change zGoers n lo hi k s < 256 at bg
      refine zG_s rfl rfl ?_
      refine zG_s rfl rfl ?_
      refine zN_ige rfl (by omega) (by omega) (fun c3 => absurd c3 (by omega)) (fun c4 => ?_)
      refine zG_s rfl rfl ?_
      refine zG_s rfl rfl ?_
      refine zG_s rfl rfl ?_
      refine zG_cQV rfl rfl hG.o rfl rfl (ct_goers (x := 0) hg hA hO hR (by omega) (by omega)) (fun h2 hA2 => ?_)
      clear hG hV hM hF hA fl fh fb fa ft sh
      obtain ⟨hF, fl, fh, fb, fa, ft, sh, hG, hV, hM⟩ := hA2
      have hA : zGA h g n lo hi ec rw en im h2 := ⟨hF, fl, fh, fb, fa, ft, sh, hG, hV, hM⟩
      refine zN_st6 rfl (fun _ _ _ => rfl) rfl ?_
      refine zG_s rfl rfl ?_
      first | refine zN_ifnb rfl (fun c5 => ?_) (fun c6 => ?_) | refine zN_ne0 rfl (by omega) (fun c5 => ?_) (fun c6 => ?_)
      · skip
        refine zG_s rfl rfl ?_
        refine zG_s rfl rfl ?_
        refine zG_s rfl rfl ?_
        refine zG_s rfl rfl ?_
        refine zG_s rfl rfl ?_
        refine zG_s rfl rfl ?_
        refine zG_s rfl rfl ?_
        obtain ⟨y, hy⟩ := zbit_of (s := zGoers n lo hi k s) (by omega)
        have p1 := zCh_pos (p := fun x => zPri lo hi k x s) (o := od) (zGoers_in y hy).1 hy
        have p2 := zCh_le (fun x => zPri lo hi k x s) od (zGoers n lo hi k s) n
        have p3 : zbv (zCh (fun x => zPri lo hi k x s) od (zGoers n lo hi k s) n).1 = nI ((zCh (fun x => zPri lo hi k x s) od (zGoers n lo hi k s) n).1 - 1) := if_neg p1
        refine zG_cV1 rfl rfl hG.o rfl rfl (ct_chosen (x := 0) hG hV hO (by omega) (by omega) (by omega) (by omega)) ?_
        rw [p3]
        refine zN_shl rfl (by omega) ?_
        refine zG_s rfl rfl ?_
        refine zN_not rfl ?_
        refine zN_andn rfl ?_
        refine zN_st4 rfl (fun _ _ _ => rfl) rfl ?_
        refine zN_inc5 rfl rfl ?_
        refine zG_s rfl rfl ?_
        -- leaf 2
        rw [zit, hs, zLS, if_neg (by omega)] at ih14
        exact ih14 _ _ hA rfl
      · skip
        refine zG_s rfl rfl ?_
        refine zG_s rfl rfl ?_
        -- leaf 3
        have e0 : zGoers n lo hi k s = 0 := by omega
        exact zG_ret rfl rfl ⟨by rw [hst i (by omega) (by rw [hs]; exact e0), hs], hA⟩
  exact main14 0 (by omega) h1 .null hA rfl
