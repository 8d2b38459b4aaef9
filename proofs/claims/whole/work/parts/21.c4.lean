/-! the class' spaces: what is written -/
theorem ct_scatter {d : Nat} {h : zH} {o n m : Nat} {fl fh : Nat → Int32} (ho2 : 2 ≤ o) (hm : m ≤ 8) : zCall (d + 1) 64 [.ref o, .int (nI m)] (zeh h o n fl fh) (none, zeh h o m (zcut (fun x => nI (1 <<< x)) fl m) (zcut (fun x => nI (1 <<< x)) fh m)) := by
  generalize hE : (fun x : Nat => nI (1 <<< x)) = E
  have hEx : ∀ x, E x = nI (1 <<< x) := fun x => by rw [← hE]
  refine zG_m (t := tX7_scatter) (ls0 := [.ref o, .int (nI m), .null]) rfl rfl (zdnR (zdnI zdn0)) rfl ?_
  refine zG_s rfl rfl ?_
  refine zG_s rfl rfl ?_
  refine zN_psz rfl ?_
  refine zG_s rfl rfl ?_
  refine zN_st2 rfl (fun _ _ _ => rfl) rfl ?_
  have main7 : ∀ p, p ≤ m → zGo (d) tX7_scatter 7 [.ref o, .int (nI m), .int (nI p)] [] (zeh h o m (zcut E fl p) (zcut E fh p)) (none, zeh h o m (zcut E fl m) (zcut E fh m)) := by
    refine zdown (m) ?_ (fun p hp7 ih7 => ?_)
    · skip
      refine zG_s rfl rfl ?_
      refine zG_s rfl rfl ?_
      refine zN_ige rfl (by omega) (by omega) (fun c1 => ?_) (fun c2 => absurd c2 (by omega))
      -- leaf 1
      exact zG_ret rfl rfl rfl
    · skip
      refine zG_s rfl rfl ?_
      refine zG_s rfl rfl ?_
      refine zN_ige rfl (by omega) (by omega) (fun c3 => absurd c3 (by omega)) (fun c4 => ?_)
      refine zG_s rfl rfl ?_
      refine zN_get rfl (by first | exact zeh_o | assumption) rfl ?_
      refine zG_s rfl rfl ?_
      refine zG_s rfl rfl ?_
      refine zG_s rfl rfl ?_
      refine zN_shl rfl (by omega) ?_
      refine zN_ast rfl zeh_l (by omega) (by omega) (zble1 ho2) ?_
      rw [zeh_pl, zcut_up (hEx p)]
      refine zG_s rfl rfl ?_
      refine zN_get rfl (by first | exact zeh_o | assumption) rfl ?_
      refine zG_s rfl rfl ?_
      refine zG_s rfl rfl ?_
      refine zG_s rfl rfl ?_
      refine zN_shl rfl (by omega) ?_
      refine zN_ast rfl zeh_h (by omega) (by omega) (zble2 ho2) ?_
      rw [zeh_ph, zcut_up (hEx p)]
      refine zN_inc2 rfl rfl ?_
      refine zG_s rfl rfl ?_
      -- leaf 2
      exact ih7
  have := main7 0 (by omega)
  rw [zcut_0, zcut_0] at this
  exact this
theorem ct_become {d : Nat} {h : zH} {o n m q : Nat} {fl fh gl gh : Nat → Int32} (ho2 : 2 ≤ o) (hm : m ≤ 8) (hq : zSx h q m gl gh) (ha : zApart o q) : zCall (d + 1) 65 [.ref o, .ref q] (zeh h o n fl fh) (none, zeh h o m (zcut gl fl m) (zcut gh fh m)) := by
  refine zG_m (t := tX7_become) (ls0 := [.ref o, .ref q, .null]) rfl rfl (zdnR (zdnR zdn0)) rfl ?_
  refine zG_s rfl rfl ?_
  refine zG_s rfl rfl ?_
  refine zN_get rfl (hq.ne ha).1 rfl ?_
  refine zN_psz rfl ?_
  refine zG_s rfl rfl ?_
  refine zN_st2 rfl (fun _ _ _ => rfl) rfl ?_
  have main10 : ∀ p, p ≤ m → zGo (d) tX7_become 10 [.ref o, .ref q, .int (nI p)] [] (zeh h o m (zcut gl fl p) (zcut gh fh p)) (none, zeh h o m (zcut gl fl m) (zcut gh fh m)) := by
    refine zdown (m) ?_ (fun p hp10 ih10 => ?_)
    · skip
      refine zG_s rfl rfl ?_
      refine zG_s rfl rfl ?_
      refine zN_get rfl (by first | exact zeh_o | assumption) rfl ?_
      refine zN_ige rfl (by omega) (by omega) (fun c1 => ?_) (fun c2 => absurd c2 (by omega))
      -- leaf 1
      exact zG_ret rfl rfl rfl
    · skip
      refine zG_s rfl rfl ?_
      refine zG_s rfl rfl ?_
      refine zN_get rfl (by first | exact zeh_o | assumption) rfl ?_
      refine zN_ige rfl (by omega) (by omega) (fun c3 => absurd c3 (by omega)) (fun c4 => ?_)
      refine zG_s rfl rfl ?_
      refine zN_get rfl (by first | exact zeh_o | assumption) rfl ?_
      refine zG_s rfl rfl ?_
      refine zG_s rfl rfl ?_
      refine zN_get rfl (hq.ne ha).1 rfl ?_
      refine zG_s rfl rfl ?_
      refine zN_ald rfl (hq.ne ha).2.1 (by omega) (by omega) rfl ?_
      refine zN_ast rfl zeh_l (by omega) (by omega) (zble1 ho2) ?_
      rw [zeh_pl, zcut_up rfl]
      refine zG_s rfl rfl ?_
      refine zN_get rfl (by first | exact zeh_o | assumption) rfl ?_
      refine zG_s rfl rfl ?_
      refine zG_s rfl rfl ?_
      refine zN_get rfl (hq.ne ha).1 rfl ?_
      refine zG_s rfl rfl ?_
      refine zN_ald rfl (hq.ne ha).2.2 (by omega) (by omega) rfl ?_
      refine zN_ast rfl zeh_h (by omega) (by omega) (zble2 ho2) ?_
      rw [zeh_ph, zcut_up rfl]
      refine zN_inc2 rfl rfl ?_
      refine zG_s rfl rfl ?_
      -- leaf 2
      exact ih10
  have := main10 0 (by omega)
  rw [zcut_0, zcut_0] at this
  exact this
theorem ct_becomeTurned {d : Nat} {h : zH} {o n m q : Nat} {fl fh gl gh : Nat → Int32} (ho2 : 2 ≤ o) (hm : m ≤ 8) (hq : zSx h q m gl gh) (ha : zApart o q) : zCall (d + 1) 84 [.ref o, .ref q] (zeh h o n fl fh) (none, zeh h o m (zcut gh fl m) (zcut gl fh m)) := by
  refine zG_m (t := tX7_becomeTurned) (ls0 := [.ref o, .ref q, .null]) rfl rfl (zdnR (zdnR zdn0)) rfl ?_
  refine zG_s rfl rfl ?_
  refine zG_s rfl rfl ?_
  refine zN_get rfl (hq.ne ha).1 rfl ?_
  refine zN_psz rfl ?_
  refine zG_s rfl rfl ?_
  refine zN_st2 rfl (fun _ _ _ => rfl) rfl ?_
  have main10 : ∀ p, p ≤ m → zGo (d) tX7_becomeTurned 10 [.ref o, .ref q, .int (nI p)] [] (zeh h o m (zcut gh fl p) (zcut gl fh p)) (none, zeh h o m (zcut gh fl m) (zcut gl fh m)) := by
    refine zdown (m) ?_ (fun p hp10 ih10 => ?_)
    · skip
      refine zG_s rfl rfl ?_
      refine zG_s rfl rfl ?_
      refine zN_get rfl (by first | exact zeh_o | assumption) rfl ?_
      refine zN_ige rfl (by omega) (by omega) (fun c1 => ?_) (fun c2 => absurd c2 (by omega))
      -- leaf 1
      exact zG_ret rfl rfl rfl
    · skip
      refine zG_s rfl rfl ?_
      refine zG_s rfl rfl ?_
      refine zN_get rfl (by first | exact zeh_o | assumption) rfl ?_
      refine zN_ige rfl (by omega) (by omega) (fun c3 => absurd c3 (by omega)) (fun c4 => ?_)
      refine zG_s rfl rfl ?_
      refine zN_get rfl (by first | exact zeh_o | assumption) rfl ?_
      refine zG_s rfl rfl ?_
      refine zG_s rfl rfl ?_
      refine zN_get rfl (hq.ne ha).1 rfl ?_
      refine zG_s rfl rfl ?_
      refine zN_ald rfl (hq.ne ha).2.2 (by omega) (by omega) rfl ?_
      refine zN_ast rfl zeh_l (by omega) (by omega) (zble1 ho2) ?_
      rw [zeh_pl, zcut_up rfl]
      refine zG_s rfl rfl ?_
      refine zN_get rfl (by first | exact zeh_o | assumption) rfl ?_
      refine zG_s rfl rfl ?_
      refine zG_s rfl rfl ?_
      refine zN_get rfl (hq.ne ha).1 rfl ?_
      refine zG_s rfl rfl ?_
      refine zN_ald rfl (hq.ne ha).2.1 (by omega) (by omega) rfl ?_
      refine zN_ast rfl zeh_h (by omega) (by omega) (zble2 ho2) ?_
      rw [zeh_ph, zcut_up rfl]
      refine zN_inc2 rfl rfl ?_
      refine zG_s rfl rfl ?_
      -- leaf 2
      exact ih10
  have := main10 0 (by omega)
  rw [zcut_0, zcut_0] at this
  exact this
/-- y comes into x: the new sets -/
def zEl (lo hi : Nat → Nat) (x y : Nat) (p : Nat) : Nat := if (hi x).testBit p then lo p ||| lo y else lo p
def zEh (lo hi : Nat → Nat) (x y : Nat) (p : Nat) : Nat := if (lo y).testBit p then hi p ||| hi x else hi p
def zEf (lo hi : Nat → Nat) (x y : Nat) (p : Nat) : Nat := if (hi x).testBit p then zcnt (zan (lo y) (lo p)) else 0
theorem ct_enclose {d : Nat} {h : zH} {o n x y : Nat} {fl fh : Nat → Int32} {lo hi : Nat → Nat} (ho2 : 2 ≤ o) (hO : zOk n lo hi) (hv : ∀ x, x < n → fl x = nI (lo x) ∧ fh x = nI (hi x)) (hx : x < n) (hy : y < n) : zCall (d + 2) 67 [.ref o, .int (nI x), .int (nI y)] (zeh h o n fl fh) (some (.int (nI (zsm (zEf lo hi x y) n))), zeh h o n (zcut (fun p => nI (zEl lo hi x y p)) fl n) (zcut (fun p => nI (zEh lo hi x y p)) fh n)) := by
  have hn := hO.1
  have bx := hO.2 x hx
  have bY := hO.2 y hy
  generalize hE : (fun p => nI (zEl lo hi x y p)) = EL
  generalize hG : (fun p => nI (zEh lo hi x y p)) = EH
  have hEx : ∀ p, EL p = nI (zEl lo hi x y p) := fun p => by rw [← hE]
  have hGx : ∀ p, EH p = nI (zEh lo hi x y p) := fun p => by rw [← hG]
  generalize hF : zEf lo hi x y = EF
  have hFx : ∀ p, EF p = zEf lo hi x y p := fun p => by rw [← hF]
  refine zG_m (t := tX7_enclose) (ls0 := [.ref o, .int (nI x), .int (nI y), .null, .null, .null, .null]) rfl rfl (zdnR (zdnI (zdnI zdn0))) rfl ?_
  refine zG_s rfl rfl ?_
  refine zN_get rfl (by first | exact zeh_o | assumption) rfl ?_
  refine zG_s rfl rfl ?_
  refine zN_ald rfl zeh_l (by omega) (by omega) (hv y hy).1 ?_
  refine zN_st3 rfl (fun _ _ _ => rfl) rfl ?_
  refine zG_s rfl rfl ?_
  refine zN_get rfl (by first | exact zeh_o | assumption) rfl ?_
  refine zG_s rfl rfl ?_
  refine zN_ald rfl zeh_h (by omega) (by omega) (hv x hx).2 ?_
  refine zN_st4 rfl (fun _ _ _ => rfl) rfl ?_
  refine zG_s rfl rfl ?_
  refine zN_st5 rfl (fun _ _ _ => rfl) rfl ?_
  refine zG_s rfl rfl ?_
  refine zN_st6 rfl (fun _ _ _ => rfl) rfl ?_
  have main21 : ∀ p, p ≤ n → zGo (d + 1) tX7_enclose 21 [.ref o, .int (nI x), .int (nI y), .int (nI (lo y)), .int (nI (hi x)), .int (nI (zsm EF p)), .int (nI p)] [] (zeh h o n (zcut EL fl p) (zcut EH fh p)) (some (.int (nI (zsm EF n))), zeh h o n (zcut EL fl n) (zcut EH fh n)) := by
    refine zdown (n) ?_ (fun p hp21 ih21 => ?_)
    · skip
      refine zG_s rfl rfl ?_
      refine zG_s rfl rfl ?_
      refine zN_get rfl (by first | exact zeh_o | assumption) rfl ?_
      refine zN_ige rfl (by omega) (by omega) (fun c1 => ?_) (fun c2 => absurd c2 (by omega))
      refine zG_s rfl rfl ?_
      -- leaf 1
      exact zG_ret rfl rfl rfl
    · skip
      have b1 := hO.2 p hp21
      have b2 := zan_lt (lo p) bY.1
      refine zG_s rfl rfl ?_
      refine zG_s rfl rfl ?_
      refine zN_get rfl (by first | exact zeh_o | assumption) rfl ?_
      refine zN_ige rfl (by omega) (by omega) (fun c3 => absurd c3 (by omega)) (fun c4 => ?_)
      refine zG_s rfl rfl ?_
      refine zG_s rfl rfl ?_
      refine zG_cS1 rfl rfl (ct_has _ (by omega) (by omega)) ?_
      first | refine zN_ifb rfl (fun c5 => ?_) (fun c6 => ?_) | refine zN_eq0 rfl (by omega) (fun c5 => ?_) (fun c6 => ?_)
      · skip
        refine zG_s rfl rfl ?_
        refine zG_s rfl rfl ?_
        refine zG_cS1 rfl rfl (ct_has _ (by omega) (by omega)) ?_
        first | refine zN_ifb rfl (fun c7 => ?_) (fun c8 => ?_) | refine zN_eq0 rfl (by omega) (fun c7 => ?_) (fun c8 => ?_)
        · skip
          refine zN_inc6 rfl rfl ?_
          refine zG_s rfl rfl ?_
          -- leaf 2
          rw [zsm, hFx, zEf, if_neg (by rw [c5]; decide), Nat.add_zero] at ih21
          rw [zcut_same (F := EL) (by rw [hEx, zEl, if_neg (by rw [c5]; decide), (hv p hp21).1]), zcut_same (F := EH) (by rw [hGx, zEh, if_neg (by rw [c7]; decide), (hv p hp21).2])]
          exact ih21
        · skip
          refine zG_s rfl rfl ?_
          refine zN_get rfl (by first | exact zeh_o | assumption) rfl ?_
          refine zG_s rfl rfl ?_
          refine zG_s rfl rfl ?_
          refine zN_ald rfl zeh_h (by omega) (by omega) ((zcut_ge (Nat.le_refl p)).trans (hv p hp21).2) ?_
          refine zG_s rfl rfl ?_
          refine zN_or rfl ?_
          refine zN_ast rfl zeh_h (by omega) (by omega) (zble2 ho2) ?_
          rw [zeh_ph, zcut_up (by rw [hGx, zEh, if_pos (by assumption)])]
          refine zN_inc6 rfl rfl ?_
          refine zG_s rfl rfl ?_
          -- leaf 3
          rw [zsm, hFx, zEf, if_neg (by rw [c5]; decide), Nat.add_zero] at ih21
          rw [zcut_same (F := EL) (by rw [hEx, zEl, if_neg (by rw [c5]; decide), (hv p hp21).1])]
          exact ih21
      · skip
        refine zG_s rfl rfl ?_
        refine zG_s rfl rfl ?_
        refine zG_s rfl rfl ?_
        refine zN_get rfl (by first | exact zeh_o | assumption) rfl ?_
        refine zG_s rfl rfl ?_
        refine zN_ald rfl zeh_l (by omega) (by omega) ((zcut_ge (Nat.le_refl p)).trans (hv p hp21).1) ?_
        refine zG_s rfl rfl ?_
        refine zN_not rfl ?_
        refine zN_andn rfl ?_
        refine zG_cS1 rfl rfl (ct_bitCount (by omega)) ?_
        refine zN_add rfl ?_
        refine zN_st5 rfl (fun _ _ _ => rfl) rfl ?_
        refine zG_s rfl rfl ?_
        refine zN_get rfl (by first | exact zeh_o | assumption) rfl ?_
        refine zG_s rfl rfl ?_
        refine zG_s rfl rfl ?_
        refine zN_ald rfl zeh_l (by omega) (by omega) ((zcut_ge (Nat.le_refl p)).trans (hv p hp21).1) ?_
        refine zG_s rfl rfl ?_
        refine zN_or rfl ?_
        refine zN_ast rfl zeh_l (by omega) (by omega) (zble1 ho2) ?_
        rw [zeh_pl, zcut_up (by rw [hEx, zEl, if_pos (by assumption)])]
        refine zG_s rfl rfl ?_
        refine zG_s rfl rfl ?_
        refine zG_cS1 rfl rfl (ct_has _ (by omega) (by omega)) ?_
        first | refine zN_ifb rfl (fun c9 => ?_) (fun c10 => ?_) | refine zN_eq0 rfl (by omega) (fun c9 => ?_) (fun c10 => ?_)
        · skip
          refine zN_inc6 rfl rfl ?_
          refine zG_s rfl rfl ?_
          -- leaf 4
          rw [zsm, hFx, zEf, if_pos c6] at ih21
          rw [zcut_same (F := EH) (by rw [hGx, zEh, if_neg (by rw [c9]; decide), (hv p hp21).2])]
          exact ih21
        · skip
          refine zG_s rfl rfl ?_
          refine zN_get rfl (by first | exact zeh_o | assumption) rfl ?_
          refine zG_s rfl rfl ?_
          refine zG_s rfl rfl ?_
          refine zN_ald rfl zeh_h (by omega) (by omega) ((zcut_ge (Nat.le_refl p)).trans (hv p hp21).2) ?_
          refine zG_s rfl rfl ?_
          refine zN_or rfl ?_
          refine zN_ast rfl zeh_h (by omega) (by omega) (zble2 ho2) ?_
          rw [zeh_ph, zcut_up (by rw [hGx, zEh, if_pos (by assumption)])]
          refine zN_inc6 rfl rfl ?_
          refine zG_s rfl rfl ?_
          -- leaf 5
          rw [zsm, hFx, zEf, if_pos c6] at ih21
          exact ih21
  have := main21 0 (by omega)
  rw [zcut_0, zcut_0] at this
  exact this
theorem ct_mirror {d : Nat} {h : zH} {o n : Nat} {fl fh : Nat → Int32} {lo : Nat → Nat} (ho2 : 2 ≤ o) (hn : n ≤ 8) (hb : ∀ x, x < n → lo x < 256) (hv : ∀ x, x < n → fl x = nI (lo x)) : zCall (d + 2) 66 [.ref o] (zeh h o n fl fh) (none, zeh h o n fl (zcut (fun y => nI (zbits (fun x => (lo x).testBit y) n)) fh n)) := by
  generalize hE : (fun y => nI (zbits (fun x => (lo x).testBit y) n)) = E
  have hEx : ∀ y, E y = nI (zbits (fun x => (lo x).testBit y) n) := fun p => by rw [← hE]
  refine zG_m (t := tX7_mirror) (ls0 := [.ref o, .null, .null]) rfl rfl (zdnR zdn0) rfl ?_
  refine zG_s rfl rfl ?_
  refine zN_st1 rfl (fun _ _ _ => rfl) rfl ?_
  have main2 : ∀ y, y ≤ n → ∀ z : Value, zGo (d + 1) tX7_mirror 2 [.ref o, .int (nI y), z] [] (zeh h o n fl (zcut E fh y)) (none, zeh h o n fl (zcut E fh n)) := by
    refine zdown (n) ?_ (fun y hp2 ih2 => ?_)
    · skip
      intro z
      refine zG_s rfl rfl ?_
      refine zG_s rfl rfl ?_
      refine zN_get rfl (by first | exact zeh_o | assumption) rfl ?_
      refine zN_ige rfl (by omega) (by omega) (fun c1 => ?_) (fun c2 => absurd c2 (by omega))
      -- leaf 1
      exact zG_ret rfl rfl rfl
    · skip
      intro z
      refine zG_s rfl rfl ?_
      refine zG_s rfl rfl ?_
      refine zN_get rfl (by first | exact zeh_o | assumption) rfl ?_
      refine zN_ige rfl (by omega) (by omega) (fun c3 => absurd c3 (by omega)) (fun c4 => ?_)
      refine zG_s rfl rfl ?_
      refine zN_get rfl (by first | exact zeh_o | assumption) rfl ?_
      refine zG_s rfl rfl ?_
      refine zG_s rfl rfl ?_
      refine zN_ast rfl zeh_h (by omega) (by omega) (zble2 ho2) ?_
      rw [zeh_ph]
      refine zG_s rfl rfl ?_
      refine zN_st2 rfl (fun _ _ _ => rfl) rfl ?_
      have main19 : ∀ x, x ≤ n → zGo (d + 1) tX7_mirror 19 [.ref o, .int (nI y), .int (nI x)] [] (zeh h o n fl (upd (zcut E fh y) y (nI (zbits (fun x => (lo x).testBit y) x)))) (none, zeh h o n fl (zcut E fh n)) := by
        refine zdown (n) ?_ (fun x hp19 ih19 => ?_)
        · skip
          rw [zcut_up (hEx y)]
          refine zG_s rfl rfl ?_
          refine zG_s rfl rfl ?_
          refine zN_get rfl (by first | exact zeh_o | assumption) rfl ?_
          refine zN_ige rfl (by omega) (by omega) (fun c5 => ?_) (fun c6 => absurd c6 (by omega))
          refine zN_inc1 rfl rfl ?_
          refine zG_s rfl rfl ?_
          -- leaf 2
          exact ih2 _
        · skip
          have b1 := hb x hp19
          refine zG_s rfl rfl ?_
          refine zG_s rfl rfl ?_
          refine zN_get rfl (by first | exact zeh_o | assumption) rfl ?_
          refine zN_ige rfl (by omega) (by omega) (fun c7 => absurd c7 (by omega)) (fun c8 => ?_)
          refine zG_s rfl rfl ?_
          refine zN_get rfl (by first | exact zeh_o | assumption) rfl ?_
          refine zG_s rfl rfl ?_
          refine zG_s rfl rfl ?_
          refine zN_ald rfl zeh_h (by omega) (by omega) (upd_at _ _ _) ?_
          refine zG_s rfl rfl ?_
          refine zN_get rfl (by first | exact zeh_o | assumption) rfl ?_
          refine zG_s rfl rfl ?_
          refine zN_ald rfl zeh_l (by omega) (by omega) (hv x hp19) ?_
          refine zG_s rfl rfl ?_
          refine zG_cS1 rfl rfl (ct_has _ (by omega) (by omega)) ?_
          first | refine zN_ifb rfl (fun c9 => ?_) (fun c10 => ?_) | refine zN_eq0 rfl (by omega) (fun c9 => ?_) (fun c10 => ?_)
          · skip
            refine zG_s rfl rfl ?_
            refine zN_or rfl ?_
            refine zN_ast rfl zeh_h (by omega) (by omega) (zble2 ho2) ?_
            rw [zeh_ph, upd_upd]
            refine zN_inc2 rfl rfl ?_
            refine zG_s rfl rfl ?_
            -- leaf 3
            rw [zbits_no (by simp only [c9])] at ih19
            rw [Nat.or_zero]
            exact ih19
          · skip
            refine zG_s rfl rfl ?_
            refine zG_s rfl rfl ?_
            refine zN_shl rfl (by omega) ?_
            refine zG_s rfl rfl ?_
            refine zN_or rfl ?_
            refine zN_ast rfl zeh_h (by omega) (by omega) (zble2 ho2) ?_
            rw [zeh_ph, upd_upd]
            refine zN_inc2 rfl rfl ?_
            refine zG_s rfl rfl ?_
            -- leaf 4
            rw [zbits_yes (by simp only [c10])] at ih19
            exact ih19
      exact main19 0 (by omega)
  have := main2 0 (by omega) .null
  rw [zcut_0] at this
  exact this
theorem ct_isNested {d : Nat} {h : zH} {o n : Nat} {lo : Nat → Nat} {fl : Nat → Int32} {q2 : Value} (ho : h.2.2 o = .inr (7, [.int (nI n), .ref (o + 1), q2])) (hl : h.2.2 (o + 1) = .inl (0, 8, .inl fl)) (hn : n ≤ 8) (hb : ∀ x, x < n → lo x < 256) (hv : ∀ x, x < n → fl x = nI (lo x)) {R9 : Bool} (hT : (∀ x, x < n → ∀ y, y < n → (lo x).testBit y = true → zan (lo y) (lo x) = 0) → R9 = true) (hF : ∀ x, x < n → ∀ y, y < n → (lo x).testBit y = true → zan (lo y) (lo x) ≠ 0 → R9 = false) : zCall (d + 2) 89 [.ref o] h (some (.int (nI (b2n R9))), h) := by
  refine zG_m (t := tX7_isNested) (ls0 := [.ref o, .null, .null]) rfl rfl (zdnR zdn0) rfl ?_
  refine zG_s rfl rfl ?_
  refine zN_st1 rfl (fun _ _ _ => rfl) rfl ?_
  have main2 : ∀ x, x ≤ n → ∀ z : Value, (∀ i, i < x → ∀ y, y < n → (lo i).testBit y = true → zan (lo y) (lo i) = 0) → zGo (d + 1) tX7_isNested 2 [.ref o, .int (nI x), z] [] h (some (.int (nI (b2n R9))), h) := by
    refine zdown (n) ?_ (fun x hp2 ih2 => ?_)
    · skip
      intro z hi
      refine zG_s rfl rfl ?_
      refine zG_s rfl rfl ?_
      refine zN_get rfl (by first | exact zeh_o | assumption) rfl ?_
      refine zN_ige rfl (by omega) (by omega) (fun c1 => ?_) (fun c2 => absurd c2 (by omega))
      refine zG_s rfl rfl ?_
      -- leaf 1
      rw [hT hi]
      exact zG_ret rfl rfl rfl
    · skip
      intro z hi
      have b1 := hb x hp2
      refine zG_s rfl rfl ?_
      refine zG_s rfl rfl ?_
      refine zN_get rfl (by first | exact zeh_o | assumption) rfl ?_
      refine zN_ige rfl (by omega) (by omega) (fun c3 => absurd c3 (by omega)) (fun c4 => ?_)
      refine zG_s rfl rfl ?_
      refine zN_st2 rfl (fun _ _ _ => rfl) rfl ?_
      have main12 : ∀ y, y ≤ n → (∀ j, j < y → (lo x).testBit j = true → zan (lo j) (lo x) = 0) → zGo (d + 1) tX7_isNested 12 [.ref o, .int (nI x), .int (nI y)] [] h (some (.int (nI (b2n R9))), h) := by
        refine zdown (n) ?_ (fun y hp12 ih12 => ?_)
        · skip
          intro hj
          refine zG_s rfl rfl ?_
          refine zG_s rfl rfl ?_
          refine zN_get rfl (by first | exact zeh_o | assumption) rfl ?_
          refine zN_ige rfl (by omega) (by omega) (fun c5 => ?_) (fun c6 => absurd c6 (by omega))
          refine zN_inc1 rfl rfl ?_
          refine zG_s rfl rfl ?_
          -- leaf 2
          exact ih2 _ (fun i hi2 y hy => by
            by_cases e : i = x
            · subst e; exact hj y hy
            · exact hi i (by omega) y hy)
        · skip
          intro hj
          have b2 := zan_lt (lo x) (hb y hp12)
          refine zG_s rfl rfl ?_
          refine zG_s rfl rfl ?_
          refine zN_get rfl (by first | exact zeh_o | assumption) rfl ?_
          refine zN_ige rfl (by omega) (by omega) (fun c7 => absurd c7 (by omega)) (fun c8 => ?_)
          refine zG_s rfl rfl ?_
          refine zN_get rfl (by first | exact zeh_o | assumption) rfl ?_
          refine zG_s rfl rfl ?_
          refine zN_ald rfl hl (by omega) (by omega) (hv x hp2) ?_
          refine zG_s rfl rfl ?_
          refine zG_cS1 rfl rfl (ct_has _ (by omega) (by omega)) ?_
          first | refine zN_ifb rfl (fun c9 => ?_) (fun c10 => ?_) | refine zN_eq0 rfl (by omega) (fun c9 => ?_) (fun c10 => ?_)
          · skip
            refine zN_inc2 rfl rfl ?_
            refine zG_s rfl rfl ?_
            -- leaf 3
            exact ih12 (fun j hj2 hb2 => by
              by_cases e : j = y
              · subst e; rw [c9] at hb2; cases hb2
              · exact hj j (by omega) hb2)
          · skip
            refine zG_s rfl rfl ?_
            refine zN_get rfl (by first | exact zeh_o | assumption) rfl ?_
            refine zG_s rfl rfl ?_
            refine zN_ald rfl hl (by omega) (by omega) (hv y hp12) ?_
            refine zG_s rfl rfl ?_
            refine zN_get rfl (by first | exact zeh_o | assumption) rfl ?_
            refine zG_s rfl rfl ?_
            refine zN_ald rfl hl (by omega) (by omega) (hv x hp2) ?_
            refine zG_s rfl rfl ?_
            refine zN_not rfl ?_
            refine zN_andn rfl ?_
            first | refine zN_ifb rfl (fun c11 => ?_) (fun c12 => ?_) | refine zN_eq0 rfl (by omega) (fun c11 => ?_) (fun c12 => ?_)
            · skip
              refine zN_inc2 rfl rfl ?_
              refine zG_s rfl rfl ?_
              -- leaf 4
              exact ih12 (fun j hj2 hb2 => by
                by_cases e : j = y
                · subst e; exact c11
                · exact hj j (by omega) hb2)
            · skip
              refine zG_s rfl rfl ?_
              -- leaf 5
              rw [hF x hp2 y hp12 c10 (by omega)]
              exact zG_ret rfl rfl rfl
      exact main12 0 (by omega) (fun i hi => absurd hi (by omega))
  exact main2 0 (by omega) _ (fun i hi => absurd hi (by omega))
/-- a set's bits drawn together at another's places: before place i -/
def zPos (s i : Nat) : Nat := zct (fun x => s.testBit x) i
def zSqz (f s : Nat) : Nat → Nat
  | 0 => 0
  | i + 1 => if s.testBit i then zSqz f s i ||| (if f.testBit i then 1 <<< zPos s i else 0) else zSqz f s i
theorem ct_squeeze {d : Nat} {h : zH} {f s : Nat} (hf : f < 256) (hs : s < 256) : zCall (d + 2) 82 [.int (nI f), .int (nI s)] h (some (.int (nI (zSqz f s 8))), h) := by
  refine zG_m (t := tX7_squeeze) (ls0 := [.int (nI f), .int (nI s), .null, .null, .null]) rfl rfl (zdnI (zdnI zdn0)) rfl ?_
  refine zG_s rfl rfl ?_
  refine zN_st2 rfl (fun _ _ _ => rfl) rfl ?_
  refine zG_s rfl rfl ?_
  refine zN_st3 rfl (fun _ _ _ => rfl) rfl ?_
  refine zG_s rfl rfl ?_
  refine zN_st4 rfl (fun _ _ _ => rfl) rfl ?_
  have main7 : ∀ i, i ≤ 8 → zGo (d + 1) tX7_squeeze 7 [.int (nI f), .int (nI s), .int (nI (zSqz f s i)), .int (nI (zPos s i)), .int (nI i)] [] h (some (.int (nI (zSqz f s 8))), h) := by
    refine zdown (8) ?_ (fun i hp7 ih7 => ?_)
    · skip
      refine zG_s rfl rfl ?_
      refine zG_s rfl rfl ?_
      refine zN_ige rfl (by omega) (by omega) (fun c1 => ?_) (fun c2 => absurd c2 (by omega))
      refine zG_s rfl rfl ?_
      -- leaf 1
      exact zG_ret rfl rfl rfl
    · skip
      have b1 : zPos s i ≤ i := zct_le _ _
      refine zG_s rfl rfl ?_
      refine zG_s rfl rfl ?_
      refine zN_ige rfl (by omega) (by omega) (fun c3 => absurd c3 (by omega)) (fun c4 => ?_)
      refine zG_s rfl rfl ?_
      refine zG_s rfl rfl ?_
      refine zG_cS1 rfl rfl (ct_has _ (by omega) (by omega)) ?_
      first | refine zN_ifb rfl (fun c5 => ?_) (fun c6 => ?_) | refine zN_eq0 rfl (by omega) (fun c5 => ?_) (fun c6 => ?_)
      · skip
        refine zN_inc4 rfl rfl ?_
        refine zG_s rfl rfl ?_
        -- leaf 2
        rw [show zPos s (i + 1) = zPos s i from zct_no c5, zSqz, if_neg (by rw [c5]; decide)] at ih7
        exact ih7
      · skip
        refine zG_s rfl rfl ?_
        refine zG_s rfl rfl ?_
        refine zG_s rfl rfl ?_
        refine zG_cS1 rfl rfl (ct_has _ (by omega) (by omega)) ?_
        first | refine zN_ifb rfl (fun c7 => ?_) (fun c8 => ?_) | refine zN_eq0 rfl (by omega) (fun c7 => ?_) (fun c8 => ?_)
        · skip
          refine zG_s rfl rfl ?_
          refine zN_or rfl ?_
          refine zN_st2 rfl (fun _ _ _ => rfl) rfl ?_
          refine zN_inc3 rfl rfl ?_
          refine zN_inc4 rfl rfl ?_
          refine zG_s rfl rfl ?_
          -- leaf 3
          rw [show zPos s (i + 1) = zPos s i + 1 from zct_yes c6, zSqz, if_pos c6, if_neg (by rw [c7]; decide)] at ih7
          exact ih7
        · skip
          refine zG_s rfl rfl ?_
          refine zG_s rfl rfl ?_
          refine zN_shl rfl (by omega) ?_
          refine zG_s rfl rfl ?_
          refine zN_or rfl ?_
          refine zN_st2 rfl (fun _ _ _ => rfl) rfl ?_
          refine zN_inc3 rfl rfl ?_
          refine zN_inc4 rfl rfl ?_
          refine zG_s rfl rfl ?_
          -- leaf 4
          rw [show zPos s (i + 1) = zPos s i + 1 from zct_yes c6, zSqz, if_pos c6, if_pos c8] at ih7
          exact ih7
  exact main7 0 (by omega)
