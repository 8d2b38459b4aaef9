theorem cr_priceOf {d r s n k x p : Nat} {h : zH} {S : zRS} {lo : Nat → Nat} (hS : zRs S s n lo) (hP : zPre n lo) (hk : k < 6) (hx : x < n) (hp : p < 256) : zCall (d + 2) 192 [.ref r, .int (nI s), .int (nI k), .int (nI x), .int (nI p)] (zRh h r S) (some (.int (nI (zPri lo (zTr n lo) k x p))), zRh h r S) := by
  have hs := hS.2.1
  have hn := hP.1
  have h1 : zBw lo (zTr n lo) x &&& p < 256 := zand_lt' _ hp
  have h2 : zAb lo (zTr n lo) x &&& p < 256 := zand_lt' _ hp
  refine zG_m (t := tX10_priceOf) (ls0 := [.ref r, .int (nI s), .int (nI k), .int (nI x), .int (nI p), .null, .null]) rfl rfl (zdnR (zdnI (zdnI (zdnI (zdnI zdn0))))) rfl ?_
  refine zG_s rfl rfl ?_
  refine zG_s rfl rfl ?_
  refine zG_s rfl rfl ?_
  refine zG_s rfl rfl ?_
  refine zG_s rfl rfl ?_
  refine zG_cV1 rfl rfl zRh_o rfl rfl (cr_under hS hP.1 (by omega)) ?_
  refine zG_cS1 rfl rfl (cr_size (by omega)) ?_
  refine zN_add rfl ?_
  refine zN_st5 rfl (fun _ _ _ => rfl) rfl ?_
  refine zG_s rfl rfl ?_
  refine zG_s rfl rfl ?_
  refine zG_s rfl rfl ?_
  refine zG_s rfl rfl ?_
  refine zG_s rfl rfl ?_
  refine zG_cV1 rfl rfl zRh_o rfl rfl (cr_over hS hP.1 (by omega)) ?_
  refine zG_cS1 rfl rfl (cr_size (by omega)) ?_
  refine zN_add rfl ?_
  refine zN_st6 rfl (fun _ _ _ => rfl) rfl ?_
  refine zG_s rfl rfl ?_
  rcases (by omega : k = 0 ∨ k = 1 ∨ k = 2 ∨ k = 3 ∨ k = 4 ∨ k = 5) with rfl | rfl | rfl | rfl | rfl | rfl
  · skip
    refine zG_s rfl rfl ?_
    refine zG_s rfl rfl ?_
    -- leaf 1
    exact zG_ret rfl rfl rfl
  · skip
    refine zG_s rfl rfl ?_
    refine zG_s rfl rfl ?_
    -- leaf 2
    exact zG_ret rfl rfl rfl
  · skip
    refine zG_s rfl rfl ?_
    refine zG_s rfl rfl ?_
    -- leaf 3
    exact zG_ret rfl rfl rfl
  · skip
    refine zG_s rfl rfl ?_
    refine zG_s rfl rfl ?_
    -- leaf 4
    exact zG_ret rfl rfl rfl
  · skip
    refine zG_s rfl rfl ?_
    refine zG_s rfl rfl ?_
    refine zG_s rfl rfl ?_
    refine zN_mul rfl ?_
    refine zG_s rfl rfl ?_
    refine zN_add rfl ?_
    -- leaf 5
    exact zG_ret rfl rfl rfl
  · skip
    refine zG_s rfl rfl ?_
    refine zG_s rfl rfl ?_
    refine zG_s rfl rfl ?_
    refine zN_sub rfl (by omega) ?_
    rw [Nat.add_sub_cancel_left]
    -- leaf 6
    exact zG_ret rfl rfl rfl
def zKq (o x v : Nat) : Int32 := if o = 1 then -(nI x) else if o = 2 then nI v else if o = 3 then -(nI v) else nI x
def zKy (o b q : Nat) : Int32 := if b = 0 then nI 0 else zKq o (b - 1) q
theorem zge_p : ∀ a, a < 32 → ∀ b, b < 32 → zc2 .ge (nI a) (nI b) = decide (b ≤ a) := by decide +kernel
theorem zge_n : ∀ a, a < 32 → ∀ b, b < 32 → zc2 .ge (-(nI a)) (-(nI b)) = decide (a ≤ b) := by decide +kernel
theorem zKq_ge {o x y v w : Nat} (ho : o < 4) (hx : x < 32) (hy : y < x) (hv : v < 32) (hw : w < 32) : zc2 .ge (zKq o x v) (zKq o y w) = !(decide (o = 1) || (decide (o = 2) && decide (v < w)) || (decide (o = 3) && decide (w < v))) := by
  unfold zKq
  by_cases e1 : o = 1
  · rw [if_pos e1, if_pos e1, zge_n _ hx _ (by omega), decide_eq_true e1, decide_eq_false (by omega)]; rfl
  · rw [if_neg e1, if_neg e1, decide_eq_false e1]
    by_cases e2 : o = 2
    · rw [if_pos e2, if_pos e2, zge_p _ hv _ hw, decide_eq_true e2, decide_eq_false (show ¬ o = 3 by omega)]
      by_cases e : v < w
      · rw [decide_eq_true e, decide_eq_false (by omega)]; rfl
      · rw [decide_eq_false e, decide_eq_true (by omega)]; rfl
    · rw [if_neg e2, if_neg e2, decide_eq_false e2]
      by_cases e3 : o = 3
      · rw [if_pos e3, if_pos e3, zge_n _ hv _ hw, decide_eq_true e3]
        by_cases e : w < v
        · rw [decide_eq_true e, decide_eq_false (by omega)]; rfl
        · rw [decide_eq_false e, decide_eq_true (by omega)]; rfl
      · rw [if_neg e3, if_neg e3, zge_p _ hx _ (by omega), decide_eq_false e3, decide_eq_true (by omega)]; rfl
abbrev zGx (n : Nat) (lo : Nat → Nat) (k o p : Nat) : Nat := (zCh (fun x => zPri lo (zTr n lo) k x p) o (zGoers n lo (zTr n lo) k p) n).1
theorem cr_goes {d r s n k o p : Nat} {h : zH} {S : zRS} {lo : Nat → Nat} (hS : zRs S s n lo) (hP : zPre n lo) (hk : k < 6) (ho : o < 4) (hp : p < 256)
    (hM : ∀ x p, x < n → p.testBit x = true → p < 256 → zCall (d + 2) 191 [.ref r, .int (nI s), .int (nI k), .int (nI x), .int (nI p)] (zRh h r S) (some (.int (nI (b2n (zMay n lo (zTr n lo) k x p)))), zRh h r S)) :
    zCall (d + 3) 193 [.ref r, .int (nI s), .int (nI k), .int (nI o), .int (nI p)] (zRh h r S) (some (.int (zbv (zGx n lo k o p))), zRh h r S) := by
  have hs := hS.2.1
  have hn := hP.1
  unfold zGx
  generalize hPf : (fun x => zPri lo (zTr n lo) k x p) = Pf
  have hPx : ∀ x, zPri lo (zTr n lo) k x p = Pf x := fun x => by rw [← hPf]
  have hPl : ∀ x, Pf x ≤ 19 := fun x => by rw [← hPx]; exact zPri_le ..
  generalize hGG : zGoers n lo (zTr n lo) k p = G
  have hGb : ∀ x, x < n → G.testBit x = (p.testBit x && zMay n lo (zTr n lo) k x p) := fun x hx => by rw [← hGG, zGoers, zbits_bit, decide_eq_true hx]; rfl
  refine zG_m (t := tX10_goes) (ls0 := [.ref r, .int (nI s), .int (nI k), .int (nI o), .int (nI p), .null, .null, .null, .null]) rfl rfl (zdnR (zdnI (zdnI (zdnI (zdnI zdn0))))) rfl ?_
  refine zG_s rfl rfl ?_
  refine zN_st5 rfl (fun _ _ _ => rfl) rfl ?_
  refine zG_s rfl rfl ?_
  refine zN_st6 rfl (fun _ _ _ => rfl) rfl ?_
  refine zG_s rfl rfl ?_
  refine zN_st7 rfl (fun _ _ _ => rfl) rfl ?_
  have main9 : ∀ x, x ≤ n → ∀ x8 : Value, zGo (d + 2) tX10_goes 9 [.ref r, .int (nI s), .int (nI k), .int (nI o), .int (nI p), .int (zbv (zCh Pf o G x).1), .int (zKy o (zCh Pf o G x).1 (zCh Pf o G x).2), .int (nI x), x8] [] (zRh h r S) (some (.int (zbv (zCh Pf o G n).1)), zRh h r S) := by
    refine zdown (n) ?_ (fun x hp9 ih9 => ?_)
    · skip
      intro x8
      refine zG_s rfl rfl ?_
      refine zG_s rfl rfl ?_
      refine zN_get rfl zRh_o rfl ?_
      refine zG_s rfl rfl ?_
      refine zR_ald (k := 3) (n := 10) rfl rfl (by omega) hS.1 ?_
      refine zN_ige rfl (by omega) (by omega) (fun c1 => ?_) (fun c2 => absurd c2 (by omega))
      refine zG_s rfl rfl ?_
      -- leaf 1
      exact zG_ret rfl rfl rfl
    · skip
      intro x8
      have hcl := zCh_le Pf o G x
      have hcp : (zCh Pf o G x).2 ≤ 19 := zCh_pr (fun x _ => hPl x)
      have hgb := hGb x hp9
      have hpx := hPx x
      have hpl := hPl x
      refine zG_s rfl rfl ?_
      refine zG_s rfl rfl ?_
      refine zN_get rfl zRh_o rfl ?_
      refine zG_s rfl rfl ?_
      refine zR_ald (k := 3) (n := 10) rfl rfl (by omega) hS.1 ?_
      refine zN_ige rfl (by omega) (by omega) (fun c3 => absurd c3 (by omega)) (fun c4 => ?_)
      refine zG_s rfl rfl ?_
      refine zG_s rfl rfl ?_
      refine zG_cS1 rfl rfl (cr_has _ (by omega) (by omega)) ?_
      first | refine zN_ifb rfl (fun c5 => ?_) (fun c6 => ?_) | refine zN_eq0 rfl (by omega) (fun c5 => ?_) (fun c6 => ?_)
      · skip
        refine zN_inc7 rfl rfl ?_
        refine zG_s rfl rfl ?_
        -- leaf 2
        rw [zCh_nb (by rw [hgb, c5]; rfl)] at ih9
        exact ih9 _
      · skip
        refine zG_s rfl rfl ?_
        refine zG_s rfl rfl ?_
        refine zG_s rfl rfl ?_
        refine zG_s rfl rfl ?_
        refine zG_s rfl rfl ?_
        refine zG_cV1 rfl rfl zRh_o rfl rfl (hM _ _ (by omega) (by assumption) (by omega)) ?_
        first | refine zN_ifb rfl (fun c7 => ?_) (fun c8 => ?_) | refine zN_eq0 rfl (by omega) (fun c7 => ?_) (fun c8 => ?_)
        · skip
          refine zN_inc7 rfl rfl ?_
          refine zG_s rfl rfl ?_
          -- leaf 3
          rw [zCh_nb (by rw [hgb, c7, Bool.and_false])] at ih9
          exact ih9 _
        · skip
          have jn93 : G.testBit x = true → ∀ x8 : Value, zGo (d + 2) tX10_goes 93 [.ref r, .int (nI s), .int (nI k), .int (nI o), .int (nI p), .int (zbv (zCh Pf o G x).1), .int (zKy o (zCh Pf o G x).1 (zCh Pf o G x).2), .int (nI x), x8] [.int (zKq o x (Pf x))] (zRh h r S) (some (.int (zbv (zCh Pf o G n).1)), zRh h r S) := by
            intro hgx x8
            refine zN_st8 rfl (fun _ _ _ => rfl) rfl ?_
            refine zG_s rfl rfl ?_
            refine zN_ifbv rfl (by omega) (fun c9 => ?_) (fun c10 => ?_)
            · skip
              refine zG_s rfl rfl ?_
              refine zN_st5 rfl (fun _ _ _ => rfl) rfl ?_
              refine zG_s rfl rfl ?_
              refine zN_st6 rfl (fun _ _ _ => rfl) rfl ?_
              refine zN_inc7 rfl rfl ?_
              refine zG_s rfl rfl ?_
              -- leaf 4
              rw [zCh_yes hgx (Or.inl c9)] at ih9
              exact ih9 _
            · skip
              refine zG_s rfl rfl ?_
              refine zG_s rfl rfl ?_
              refine zN_if2 rfl (fun c11 => ?_) (fun c12 => ?_)
              · skip
                refine zN_inc7 rfl rfl ?_
                refine zG_s rfl rfl ?_
                -- leaf 5
                rw [zKy, if_neg c10, zKq_ge ho (by omega) (by omega) (by omega) (by omega)] at c11
                simp only [Bool.not_eq_true', Bool.or_eq_false_iff, Bool.and_eq_false_iff, decide_eq_false_iff_not] at c11
                rw [zCh_no (by omega)] at ih9
                exact ih9 _
              · skip
                refine zG_s rfl rfl ?_
                refine zN_st5 rfl (fun _ _ _ => rfl) rfl ?_
                refine zG_s rfl rfl ?_
                refine zN_st6 rfl (fun _ _ _ => rfl) rfl ?_
                refine zN_inc7 rfl rfl ?_
                refine zG_s rfl rfl ?_
                -- leaf 6
                rw [zKy, if_neg c10, zKq_ge ho (by omega) (by omega) (by omega) (by omega)] at c12
                simp only [Bool.not_eq_false', Bool.or_eq_true, Bool.and_eq_true, decide_eq_true_eq] at c12
                rw [zCh_yes hgx (by omega)] at ih9
                exact ih9 _
          refine zG_s rfl rfl ?_
          refine zG_s rfl rfl ?_
          refine zN_ine rfl (by omega) (by omega) (fun c13 => ?_) (fun c14 => ?_)
          · skip
            refine zG_s rfl rfl ?_
            refine zG_s rfl rfl ?_
            refine zN_ine rfl (by omega) (by omega) (fun c15 => ?_) (fun c16 => ?_)
            · skip
              refine zG_s rfl rfl ?_
              refine zG_s rfl rfl ?_
              refine zN_ine rfl (by omega) (by omega) (fun c17 => ?_) (fun c18 => ?_)
              · skip
                refine zG_s rfl rfl ?_
                -- leaf 7
                rw [show zKq o x (Pf x) = nI x from by rw [zKq, if_neg c13, if_neg c15, if_neg c17]] at jn93
                exact jn93 (by rw [hgb, c6, c8]; rfl) _
              · skip
                refine zG_s rfl rfl ?_
                refine zG_s rfl rfl ?_
                refine zG_s rfl rfl ?_
                refine zG_s rfl rfl ?_
                refine zG_s rfl rfl ?_
                refine zG_cV1 rfl rfl zRh_o rfl rfl (cr_priceOf hS hP (by omega) (by omega) (by omega)) ?_
                refine zG_s rfl rfl ?_
                refine zG_s rfl rfl ?_
                -- leaf 8
                rw [show zKq o x (Pf x) = -(nI (zPri lo (zTr n lo) k x p)) from by rw [hpx, zKq, if_neg c13, if_neg c15, if_pos c18]] at jn93
                exact jn93 (by rw [hgb, c6, c8]; rfl) _
            · skip
              refine zG_s rfl rfl ?_
              refine zG_s rfl rfl ?_
              refine zG_s rfl rfl ?_
              refine zG_s rfl rfl ?_
              refine zG_s rfl rfl ?_
              refine zG_cV1 rfl rfl zRh_o rfl rfl (cr_priceOf hS hP (by omega) (by omega) (by omega)) ?_
              refine zG_s rfl rfl ?_
              -- leaf 9
              rw [show zKq o x (Pf x) = nI (zPri lo (zTr n lo) k x p) from by rw [hpx, zKq, if_neg c13, if_pos c16]] at jn93
              exact jn93 (by rw [hgb, c6, c8]; rfl) _
          · skip
            refine zG_s rfl rfl ?_
            refine zG_s rfl rfl ?_
            refine zG_s rfl rfl ?_
            -- leaf 10
            rw [show zKq o x (Pf x) = -(nI x) from by rw [zKq, if_pos c14]] at jn93
            exact jn93 (by rw [hgb, c6, c8]; rfl) _
  exact main9 0 (by omega) _
theorem zan_cut_lt {s x : Nat} (h : s.testBit x = true) : zan s (1 <<< x) < s := by
  have h1 := zan_le s (1 <<< x)
  have h2 : zan s (1 <<< x) ≠ s := fun e => by
    have h3 := zan_bit s (1 <<< x) x
    rw [e, h, z1bit, decide_eq_true rfl] at h3
    exact absurd h3 (by decide)
  omega
theorem zGx_in {n k o p : Nat} {lo : Nat → Nat} (h : zGx n lo k o p ≠ 0) : zGx n lo k o p - 1 < n ∧ p.testBit (zGx n lo k o p - 1) = true := zGoers_in _ (zCh_in h)
theorem zGx_0 {n k o p : Nat} {lo : Nat → Nat} (h : zGx n lo k o p = 0) : zGoers n lo (zTr n lo) k p = 0 := by
  refine Classical.byContradiction (fun c => ?_)
  obtain ⟨i, hi⟩ := zbit_of c
  exact zCh_pos (zGoers_in i hi).1 hi h
theorem zGx_p {n k o p : Nat} {lo : Nat → Nat} (h : zGx n lo k o p ≠ 0) : zGoers n lo (zTr n lo) k p ≠ 0 := fun c => by
  have h1 := zCh_in h
  rw [c, Nat.zero_testBit] at h1
  exact absurd h1 (by decide)
theorem zLS_0 {n k o p : Nat} {lo : Nat → Nat} (h : zGx n lo k o p = 0) : zLS n lo (zTr n lo) k o p = p := if_pos (zGx_0 h)
theorem zLS_p {n k o p : Nat} {lo : Nat → Nat} (h : zGx n lo k o p ≠ 0) : zLS n lo (zTr n lo) k o p = zan p (1 <<< (zGx n lo k o p - 1)) := if_neg (zGx_p h)
theorem zit_fix {f : Nat → Nat} (hf : ∀ s, s < 256 → f s = s ∨ (f s < 256 ∧ zcnt (f s) < zcnt s)) : ∀ k s, s < 256 → zcnt s ≤ k → f (zit f k s) = zit f k s
  | 0, s, hs, hc => by
    rcases hf s hs with h | h
    · exact h
    · omega
  | k + 1, s, hs, hc => by
    rcases hf s hs with h | h
    · rw [zit_stay h]; exact h
    · rw [show zit f (k + 1) s = zit f k (f s) from zit_add f 1 k s]
      exact zit_fix hf k (f s) h.1 (by omega)
theorem zLS_dn {n k o : Nat} {lo : Nat → Nat} : ∀ s, s < 256 → zLS n lo (zTr n lo) k o s = s ∨ (zLS n lo (zTr n lo) k o s < 256 ∧ zcnt (zLS n lo (zTr n lo) k o s) < zcnt s) := fun s hs => by
  by_cases e : zGx n lo k o s = 0
  · exact Or.inl (zLS_0 e)
  · rw [zLS_p e]
    have h1 := zGx_in e
    have h2 := zcnt_cut s hs _ (zbit_lt8 hs h1.2) h1.2
    exact Or.inr ⟨zan_lt _ hs, by omega⟩
theorem zLS_it {n k o s : Nat} {lo : Nat → Nat} (hs : s < 256) : zit (zLS n lo (zTr n lo) k o) 8 (zLS n lo (zTr n lo) k o s) = zit (zLS n lo (zTr n lo) k o) 8 s := by
  have h1 := zit_fix (zLS_dn (n := n) (k := k) (o := o) (lo := lo)) 8 s hs (zcnt_le s)
  rw [show zit (zLS n lo (zTr n lo) k o) 8 (zLS n lo (zTr n lo) k o s) = zit (zLS n lo (zTr n lo) k o) 9 s from (zit_add _ 1 8 s).symm]
  exact h1
theorem cr_leftBy {d r s n k o p : Nat} {h : zH} {S : zRS} {lo : Nat → Nat} (hP : zPre n lo) (hk : k < 6) (ho : o < 4) (hp : p < 256)
    (hG : ∀ p, p < 256 → zCall d 193 [.ref r, .int (nI s), .int (nI k), .int (nI o), .int (nI p)] (zRh h r S) (some (.int (zbv (zGx n lo k o p))), zRh h r S)) :
    zCall (d + 1) 194 [.ref r, .int (nI s), .int (nI k), .int (nI o), .int (nI p)] (zRh h r S) (some (.int (nI (zit (zLS n lo (zTr n lo) k o) 8 p))), zRh h r S) := by
  have hn := hP.1
  refine zG_m (t := tX10_leftBy) (ls0 := [.ref r, .int (nI s), .int (nI k), .int (nI o), .int (nI p), .null, .null]) rfl rfl (zdnR (zdnI (zdnI (zdnI (zdnI zdn0))))) rfl ?_
  have main : ∀ w, w < 256 → zGo d tX10_leftBy 15 [.ref r, .int (nI s), .int (nI k), .int (nI o), .int (nI p), .int (nI w), .int (zbv (zGx n lo k o w))] [] (zRh h r S) (some (.int (nI (zit (zLS n lo (zTr n lo) k o) 8 w))), zRh h r S) := by
    intro w
    induction w using Nat.strongRecOn with
    | _ w ih =>
      intro hw
      have hle : zGx n lo k o w ≤ n := zCh_le (fun x => zPri lo (zTr n lo) k x w) o (zGoers n lo (zTr n lo) k w) n
      refine zG_s rfl rfl ?_
      -- at 17: .ifCond .lt 28
      refine zN_ifbv rfl (by omega) (fun c => ?_) (fun c => ?_)
      · refine zG_s rfl rfl ?_
        -- at 47: .ireturn
        rw [zit_stay (zLS_0 c)]
        exact zG_ret rfl rfl rfl
      · have h1 := zGx_in c
        rw [← zLS_it hw, zLS_p c]
        obtain ⟨j, hj⟩ : ∃ j, zGx n lo k o w = j + 1 := ⟨zGx n lo k o w - 1, by omega⟩
        rw [hj, Nat.add_sub_cancel] at h1
        rw [hj, zbv_s, Nat.add_sub_cancel]
        have hl := zan_cut_lt h1.2
        refine zG_s rfl rfl ?_
        refine zG_s rfl rfl ?_
        refine zG_s rfl rfl ?_
        refine zN_shl rfl (by omega) ?_
        refine zG_s rfl rfl ?_
        refine zN_not rfl ?_
        refine zN_andn rfl ?_
        refine zN_st5 rfl (fun _ _ _ => rfl) rfl ?_
        refine zG_s rfl rfl ?_
        refine zG_s rfl rfl ?_
        refine zG_s rfl rfl ?_
        refine zG_s rfl rfl ?_
        refine zG_s rfl rfl ?_
        -- at 37: .invokevirtual 165
        refine zG_cV1 rfl rfl zRh_o rfl rfl (hG _ (by omega)) ?_
        refine zN_st6 rfl (fun _ _ _ => rfl) rfl ?_
        refine zG_s rfl rfl ?_
        -- at 15: .iload 6
        exact ih _ hl (by omega)
  refine zG_s rfl rfl ?_
  refine zN_st5 rfl (fun _ _ _ => rfl) rfl ?_
  refine zG_s rfl rfl ?_
  refine zG_s rfl rfl ?_
  refine zG_s rfl rfl ?_
  refine zG_s rfl rfl ?_
  refine zG_s rfl rfl ?_
  -- at 10: .invokevirtual 165
  refine zG_cV1 rfl rfl zRh_o rfl rfl (hG _ (by omega)) ?_
  refine zN_st6 rfl (fun _ _ _ => rfl) rfl ?_
  -- at 15: .iload 6
  exact main p hp
theorem zCh_first {p : Nat → Nat} {G : Nat} : ∀ m, (zCh p 0 G m).1 = if zfs (fun x => G.testBit x) m < m then zfs (fun x => G.testBit x) m + 1 else 0
  | 0 => rfl
  | m + 1 => by
    have ih := zCh_first (p := p) (G := G) m
    have h1 := zfs_le (fun x => G.testBit x) m
    by_cases c : zfs (fun x => G.testBit x) m < m
    · rw [if_pos c] at ih
      rw [zCh_no (by omega), ih, show zfs (fun x => G.testBit x) (m + 1) = zfs (fun x => G.testBit x) m from by rw [zfs, if_pos c], if_pos (by omega)]
    · rw [if_neg c] at ih
      cases e : G.testBit m with
      | true => rw [zCh_yes e (Or.inl ih), show zfs (fun x => G.testBit x) (m + 1) = m from by simp only [zfs, if_neg c, e, if_pos], if_pos (by omega)]
      | false => rw [zCh_nb e, ih, show zfs (fun x => G.testBit x) (m + 1) = m + 1 from by simp only [zfs, if_neg c, e]; rfl, if_neg (by omega)]
theorem zfs_cong9 {p q : Nat → Bool} : ∀ {n : Nat}, (∀ i, i < n → p i = q i) → zfs p n = zfs q n
  | 0, _ => rfl
  | n + 1, h => by
    simp only [zfs, zfs_cong9 (fun i hi => h i (Nat.lt_succ_of_lt hi)), h n (Nat.lt_succ_self n)]
theorem zLS_30 {n : Nat} {lo : Nat → Nat} : zLS n lo (zTr n lo) 3 0 = zSt n lo (zTr n lo) := by
  funext s
  have h1 : zLB n lo (zTr n lo) s = zfs (fun x => (zGoers n lo (zTr n lo) 3 s).testBit x) n := zfs_cong9 (fun i hi => by
    rw [zGoers, zbits_bit, decide_eq_true hi]; rfl)
  have h2 := zCh_first (p := fun x => zPri lo (zTr n lo) 3 x s) (G := zGoers n lo (zTr n lo) 3 s) n
  rw [← h1] at h2
  by_cases c : zLB n lo (zTr n lo) s < n
  · rw [if_pos c] at h2
    rw [zLS_p (by unfold zGx; omega), zSt, if_pos c]
    unfold zGx
    rw [h2, Nat.add_sub_cancel]
  · rw [if_neg c] at h2
    rw [zLS_0 h2, zSt, if_neg c]
theorem cr_shrinks0 {d r s n p : Nat} {h : zH} {S : zRS} {lo : Nat → Nat} (hp : p < 256)
    (hL : ∀ p, p < 256 → zCall (d + 1) 194 [.ref r, .int (nI s), .int (nI 3), .int (nI 0), .int (nI p)] (zRh h r S) (some (.int (nI (zit (zLS n lo (zTr n lo) 3 0) 8 p))), zRh h r S)) :
    zCall (d + 2) 190 [.ref r, .int (nI s), .int (nI p)] (zRh h r S) (some (.int (nI (b2n (zShr n lo (zTr n lo) p)))), zRh h r S) := by
  rw [zShr, ← zLS_30]
  have hle : ∀ i, zit (zLS n lo (zTr n lo) 3 0) i p ≤ p := zLSs_le n lo (zTr n lo) 3 0 p
  have hl8 := hle 8
  have hc9 := zcnt_le (zit (zLS n lo (zTr n lo) 3 0) 8 p)
  refine zG_m (t := tX10_shrinks) (ls0 := [.ref r, .int (nI s), .int (nI p)]) rfl rfl (zdnR (zdnI (zdnI zdn0))) rfl ?_
  refine zG_s rfl rfl ?_
  refine zG_s rfl rfl ?_
  refine zG_s rfl rfl ?_
  refine zG_s rfl rfl ?_
  refine zG_s rfl rfl ?_
  refine zG_cV1 rfl rfl zRh_o rfl rfl (hL _ hp) ?_
  refine zG_cS1 rfl rfl (cr_size (by omega)) ?_
  refine zG_s rfl rfl ?_
  refine zN_ine rfl (by omega) (by omega) (fun c1 => ?_) (fun c2 => ?_)
  · skip
    refine zG_s rfl rfl ?_
    -- leaf 1
    rw [decide_eq_false c1]
    exact zG_ret rfl rfl rfl
  · skip
    refine zG_s rfl rfl ?_
    refine zG_s rfl rfl ?_
    -- leaf 2
    rw [decide_eq_true c2]
    exact zG_ret rfl rfl rfl
section ZMK
variable {n x s : Nat} {lo hi : Nat → Nat}
theorem zMay_0 : zMay n lo hi 0 x s = zLk lo hi x s := rfl
theorem zMay_1 : zMay n lo hi 1 x s = zDn n lo hi x s := rfl
theorem zMay_2 : zMay n lo hi 2 x s = zUp n lo hi x s := rfl
theorem zMay_3 : zMay n lo hi 3 x s = zBt n lo hi x s := rfl
theorem zMay_4 : zMay n lo hi 4 x s = (zBt n lo hi x s || (zShr n lo hi (zBw lo hi x &&& s) || zShr n lo hi (zAb lo hi x &&& s))) := rfl
theorem zMay_5 : zMay n lo hi 5 x s = (decide (zBw lo hi x &&& s ≠ 0) && zUp n lo hi x s) := rfl
theorem zDn_l (h : zLk lo hi x s = true) : zDn n lo hi x s = true := by rw [zDn, h]; rfl
theorem zUp_l (h : zLk lo hi x s = true) : zUp n lo hi x s = true := by rw [zUp, h]; rfl
end ZMK
theorem zmr1 {b : Bool} {h : zH} (e : b = true) : (some (.int (nI (b2n b))), h) = ((some (.int (nI 1)), h) : zR) := by rw [e]; rfl
theorem zmr0 {b : Bool} {h : zH} (e : b = false) : (some (.int (nI (b2n b))), h) = ((some (.int (nI 0)), h) : zR) := by rw [e]; rfl
theorem cr_mayGo0 {d r s n k x p : Nat} {h : zH} {S : zRS} {lo : Nat → Nat} (hS : zRs S s n lo) (hP : zPre n lo) (hk : k < 6) (hx : x < n) (hb : p.testBit x = true) (hp : p < 256)
    (hSh : k = 4 → ∀ p, p < 256 → zCall (d + 3) 190 [.ref r, .int (nI s), .int (nI p)] (zRh h r S) (some (.int (nI (b2n (zShr n lo (zTr n lo) p)))), zRh h r S)) :
    zCall (d + 4) 191 [.ref r, .int (nI s), .int (nI k), .int (nI x), .int (nI p)] (zRh h r S) (some (.int (nI (b2n (zMay n lo (zTr n lo) k x p)))), zRh h r S) := by
  have hs := hS.2.1
  have hn := hP.1
  have hq1 : zBw lo (zTr n lo) x &&& p < 256 := zand_lt' _ hp
  have hq2 : zAb lo (zTr n lo) x &&& p < 256 := zand_lt' _ hp
  refine zG_m (t := tX10_mayGo) (ls0 := [.ref r, .int (nI s), .int (nI k), .int (nI x), .int (nI p), .null]) rfl rfl (zdnR (zdnI (zdnI (zdnI (zdnI zdn0))))) rfl ?_
  refine zG_s rfl rfl ?_
  refine zG_s rfl rfl ?_
  refine zG_s rfl rfl ?_
  refine zG_s rfl rfl ?_
  refine zG_cV1 rfl rfl zRh_o rfl rfl (cr_isAlone hS hP (by omega) (by assumption) (by omega)) ?_
  have jn16 : ∀ x5 : Value, zGo (d + 3) tX10_mayGo 16 [.ref r, .int (nI s), .int (nI k), .int (nI x), .int (nI p), x5] [.int (nI (b2n (zLk lo (zTr n lo) x p)))] (zRh h r S) (some (.int (nI (b2n (zMay n lo (zTr n lo) k x p)))), zRh h r S) := by
    intro x5
    refine zN_st5 rfl (fun _ _ _ => rfl) rfl ?_
    refine zG_s rfl rfl ?_
    rcases (by omega : k = 0 ∨ k = 1 ∨ k = 2 ∨ k = 3 ∨ k = 4 ∨ k = 5) with rfl | rfl | rfl | rfl | rfl | rfl
    · skip
      refine zG_s rfl rfl ?_
      refine zG_s rfl rfl ?_
      -- leaf 1
      exact zG_retb rfl (fun k => by cases k <;> rfl) rfl
    · skip
      refine zG_s rfl rfl ?_
      refine zG_s rfl rfl ?_
      first | refine zN_ifnb rfl (fun c1 => ?_) (fun c2 => ?_) | refine zN_ne0 rfl (by omega) (fun c1 => ?_) (fun c2 => ?_)
      · skip
        refine zG_s rfl rfl ?_
        refine zG_s rfl rfl ?_
        -- leaf 2
        exact zG_ret rfl rfl (zmr1 (show zMay n lo (zTr n lo) 1 x p = true from zDn_l c1))
      · skip
        refine zG_s rfl rfl ?_
        refine zG_s rfl rfl ?_
        refine zG_s rfl rfl ?_
        refine zG_s rfl rfl ?_
        refine zG_cV1 rfl rfl zRh_o rfl rfl (cr_isDown hS hP (by omega) (by assumption) (by omega)) ?_
        first | refine zN_ifb rfl (fun c3 => ?_) (fun c4 => ?_) | refine zN_eq0 rfl (by omega) (fun c3 => ?_) (fun c4 => ?_)
        · skip
          refine zG_s rfl rfl ?_
          -- leaf 3
          exact zG_ret rfl rfl (zmr0 (by
            revert c2 c3; rw [zMay_1]; try rw [zBt]
            generalize zLk lo (zTr n lo) x p = L; generalize zDn n lo (zTr n lo) x p = D; generalize zUp n lo (zTr n lo) x p = U; generalize zShr n lo (zTr n lo) (zBw lo (zTr n lo) x &&& p) = s1; generalize zShr n lo (zTr n lo) (zAb lo (zTr n lo) x &&& p) = s2
            revert L D U s1 s2; decide))
        · skip
          refine zG_s rfl rfl ?_
          refine zG_s rfl rfl ?_
          -- leaf 4
          exact zG_ret rfl rfl (zmr1 (by
            revert c2 c4; rw [zMay_1]; try rw [zBt]
            generalize zLk lo (zTr n lo) x p = L; generalize zDn n lo (zTr n lo) x p = D; generalize zUp n lo (zTr n lo) x p = U; generalize zShr n lo (zTr n lo) (zBw lo (zTr n lo) x &&& p) = s1; generalize zShr n lo (zTr n lo) (zAb lo (zTr n lo) x &&& p) = s2
            revert L D U s1 s2; decide))
    · skip
      refine zG_s rfl rfl ?_
      refine zG_s rfl rfl ?_
      first | refine zN_ifnb rfl (fun c5 => ?_) (fun c6 => ?_) | refine zN_ne0 rfl (by omega) (fun c5 => ?_) (fun c6 => ?_)
      · skip
        refine zG_s rfl rfl ?_
        refine zG_s rfl rfl ?_
        -- leaf 5
        exact zG_ret rfl rfl (zmr1 (show zMay n lo (zTr n lo) 2 x p = true from zUp_l c5))
      · skip
        refine zG_s rfl rfl ?_
        refine zG_s rfl rfl ?_
        refine zG_s rfl rfl ?_
        refine zG_s rfl rfl ?_
        refine zG_cV1 rfl rfl zRh_o rfl rfl (cr_isUp hS hP (by omega) (by assumption) (by omega)) ?_
        first | refine zN_ifb rfl (fun c7 => ?_) (fun c8 => ?_) | refine zN_eq0 rfl (by omega) (fun c7 => ?_) (fun c8 => ?_)
        · skip
          refine zG_s rfl rfl ?_
          -- leaf 6
          exact zG_ret rfl rfl (zmr0 (by
            revert c6 c7; rw [zMay_2]; try rw [zBt]
            generalize zLk lo (zTr n lo) x p = L; generalize zDn n lo (zTr n lo) x p = D; generalize zUp n lo (zTr n lo) x p = U; generalize zShr n lo (zTr n lo) (zBw lo (zTr n lo) x &&& p) = s1; generalize zShr n lo (zTr n lo) (zAb lo (zTr n lo) x &&& p) = s2
            revert L D U s1 s2; decide))
        · skip
          refine zG_s rfl rfl ?_
          refine zG_s rfl rfl ?_
          -- leaf 7
          exact zG_ret rfl rfl (zmr1 (by
            revert c6 c8; rw [zMay_2]; try rw [zBt]
            generalize zLk lo (zTr n lo) x p = L; generalize zDn n lo (zTr n lo) x p = D; generalize zUp n lo (zTr n lo) x p = U; generalize zShr n lo (zTr n lo) (zBw lo (zTr n lo) x &&& p) = s1; generalize zShr n lo (zTr n lo) (zAb lo (zTr n lo) x &&& p) = s2
            revert L D U s1 s2; decide))
    · skip
      refine zG_s rfl rfl ?_
      refine zG_s rfl rfl ?_
      first | refine zN_ifnb rfl (fun c9 => ?_) (fun c10 => ?_) | refine zN_ne0 rfl (by omega) (fun c9 => ?_) (fun c10 => ?_)
      · skip
        refine zG_s rfl rfl ?_
        refine zG_s rfl rfl ?_
        -- leaf 8
        exact zG_ret rfl rfl (zmr1 (by rw [zMay_3, zBt, zDn_l c9]; rfl))
      · skip
        refine zG_s rfl rfl ?_
        refine zG_s rfl rfl ?_
        refine zG_s rfl rfl ?_
        refine zG_s rfl rfl ?_
        refine zG_cV1 rfl rfl zRh_o rfl rfl (cr_isDown hS hP (by omega) (by assumption) (by omega)) ?_
        first | refine zN_ifnb rfl (fun c11 => ?_) (fun c12 => ?_) | refine zN_ne0 rfl (by omega) (fun c11 => ?_) (fun c12 => ?_)
        · skip
          refine zG_s rfl rfl ?_
          refine zG_s rfl rfl ?_
          -- leaf 9
          exact zG_ret rfl rfl (zmr1 (by
            revert c10 c11; rw [zMay_3]; try rw [zBt]
            generalize zLk lo (zTr n lo) x p = L; generalize zDn n lo (zTr n lo) x p = D; generalize zUp n lo (zTr n lo) x p = U; generalize zShr n lo (zTr n lo) (zBw lo (zTr n lo) x &&& p) = s1; generalize zShr n lo (zTr n lo) (zAb lo (zTr n lo) x &&& p) = s2
            revert L D U s1 s2; decide))
        · skip
          refine zG_s rfl rfl ?_
          refine zG_s rfl rfl ?_
          refine zG_s rfl rfl ?_
          refine zG_s rfl rfl ?_
          refine zG_cV1 rfl rfl zRh_o rfl rfl (cr_isUp hS hP (by omega) (by assumption) (by omega)) ?_
          first | refine zN_ifb rfl (fun c13 => ?_) (fun c14 => ?_) | refine zN_eq0 rfl (by omega) (fun c13 => ?_) (fun c14 => ?_)
          · skip
            refine zG_s rfl rfl ?_
            -- leaf 10
            exact zG_ret rfl rfl (zmr0 (by
              revert c10 c12 c13; rw [zMay_3]; try rw [zBt]
              generalize zLk lo (zTr n lo) x p = L; generalize zDn n lo (zTr n lo) x p = D; generalize zUp n lo (zTr n lo) x p = U; generalize zShr n lo (zTr n lo) (zBw lo (zTr n lo) x &&& p) = s1; generalize zShr n lo (zTr n lo) (zAb lo (zTr n lo) x &&& p) = s2
              revert L D U s1 s2; decide))
          · skip
            refine zG_s rfl rfl ?_
            refine zG_s rfl rfl ?_
            -- leaf 11
            exact zG_ret rfl rfl (zmr1 (by
              revert c10 c12 c14; rw [zMay_3]; try rw [zBt]
              generalize zLk lo (zTr n lo) x p = L; generalize zDn n lo (zTr n lo) x p = D; generalize zUp n lo (zTr n lo) x p = U; generalize zShr n lo (zTr n lo) (zBw lo (zTr n lo) x &&& p) = s1; generalize zShr n lo (zTr n lo) (zAb lo (zTr n lo) x &&& p) = s2
              revert L D U s1 s2; decide))
    · skip
      refine zG_s rfl rfl ?_
      refine zG_s rfl rfl ?_
      first | refine zN_ifnb rfl (fun c15 => ?_) (fun c16 => ?_) | refine zN_ne0 rfl (by omega) (fun c15 => ?_) (fun c16 => ?_)
      · skip
        refine zG_s rfl rfl ?_
        refine zG_s rfl rfl ?_
        -- leaf 12
        exact zG_ret rfl rfl (zmr1 (by rw [zMay_4, zBt, zDn_l c15]; rfl))
      · skip
        refine zG_s rfl rfl ?_
        refine zG_s rfl rfl ?_
        refine zG_s rfl rfl ?_
        refine zG_s rfl rfl ?_
        refine zG_cV1 rfl rfl zRh_o rfl rfl (cr_isDown hS hP (by omega) (by assumption) (by omega)) ?_
        first | refine zN_ifnb rfl (fun c17 => ?_) (fun c18 => ?_) | refine zN_ne0 rfl (by omega) (fun c17 => ?_) (fun c18 => ?_)
        · skip
          refine zG_s rfl rfl ?_
          refine zG_s rfl rfl ?_
          -- leaf 13
          exact zG_ret rfl rfl (zmr1 (by
            revert c16 c17; rw [zMay_4]; try rw [zBt]
            generalize zLk lo (zTr n lo) x p = L; generalize zDn n lo (zTr n lo) x p = D; generalize zUp n lo (zTr n lo) x p = U; generalize zShr n lo (zTr n lo) (zBw lo (zTr n lo) x &&& p) = s1; generalize zShr n lo (zTr n lo) (zAb lo (zTr n lo) x &&& p) = s2
            revert L D U s1 s2; decide))
        · skip
          refine zG_s rfl rfl ?_
          refine zG_s rfl rfl ?_
          refine zG_s rfl rfl ?_
          refine zG_s rfl rfl ?_
          refine zG_cV1 rfl rfl zRh_o rfl rfl (cr_isUp hS hP (by omega) (by assumption) (by omega)) ?_
          first | refine zN_ifnb rfl (fun c19 => ?_) (fun c20 => ?_) | refine zN_ne0 rfl (by omega) (fun c19 => ?_) (fun c20 => ?_)
          · skip
            refine zG_s rfl rfl ?_
            refine zG_s rfl rfl ?_
            -- leaf 14
            exact zG_ret rfl rfl (zmr1 (by
              revert c16 c18 c19; rw [zMay_4]; try rw [zBt]
              generalize zLk lo (zTr n lo) x p = L; generalize zDn n lo (zTr n lo) x p = D; generalize zUp n lo (zTr n lo) x p = U; generalize zShr n lo (zTr n lo) (zBw lo (zTr n lo) x &&& p) = s1; generalize zShr n lo (zTr n lo) (zAb lo (zTr n lo) x &&& p) = s2
              revert L D U s1 s2; decide))
          · skip
            refine zG_s rfl rfl ?_
            refine zG_s rfl rfl ?_
            refine zG_s rfl rfl ?_
            refine zG_s rfl rfl ?_
            refine zG_s rfl rfl ?_
            refine zG_s rfl rfl ?_
            refine zG_cV1 rfl rfl zRh_o rfl rfl (cr_under hS hP.1 (by omega)) ?_
            refine zG_cV1 rfl rfl zRh_o rfl rfl (hSh rfl _ hq1) ?_
            first | refine zN_ifnb rfl (fun c21 => ?_) (fun c22 => ?_) | refine zN_ne0 rfl (by omega) (fun c21 => ?_) (fun c22 => ?_)
            · skip
              refine zG_s rfl rfl ?_
              refine zG_s rfl rfl ?_
              -- leaf 15
              exact zG_ret rfl rfl (zmr1 (by
                revert c16 c18 c20 c21; rw [zMay_4]; try rw [zBt]
                generalize zLk lo (zTr n lo) x p = L; generalize zDn n lo (zTr n lo) x p = D; generalize zUp n lo (zTr n lo) x p = U; generalize zShr n lo (zTr n lo) (zBw lo (zTr n lo) x &&& p) = s1; generalize zShr n lo (zTr n lo) (zAb lo (zTr n lo) x &&& p) = s2
                revert L D U s1 s2; decide))
            · skip
              refine zG_s rfl rfl ?_
              refine zG_s rfl rfl ?_
              refine zG_s rfl rfl ?_
              refine zG_s rfl rfl ?_
              refine zG_s rfl rfl ?_
              refine zG_s rfl rfl ?_
              refine zG_cV1 rfl rfl zRh_o rfl rfl (cr_over hS hP.1 (by omega)) ?_
              refine zG_cV1 rfl rfl zRh_o rfl rfl (hSh rfl _ hq2) ?_
              first | refine zN_ifb rfl (fun c23 => ?_) (fun c24 => ?_) | refine zN_eq0 rfl (by omega) (fun c23 => ?_) (fun c24 => ?_)
              · skip
                refine zG_s rfl rfl ?_
                -- leaf 16
                exact zG_ret rfl rfl (zmr0 (by
                  revert c16 c18 c20 c22 c23; rw [zMay_4]; try rw [zBt]
                  generalize zLk lo (zTr n lo) x p = L; generalize zDn n lo (zTr n lo) x p = D; generalize zUp n lo (zTr n lo) x p = U; generalize zShr n lo (zTr n lo) (zBw lo (zTr n lo) x &&& p) = s1; generalize zShr n lo (zTr n lo) (zAb lo (zTr n lo) x &&& p) = s2
                  revert L D U s1 s2; decide))
              · skip
                refine zG_s rfl rfl ?_
                refine zG_s rfl rfl ?_
                -- leaf 17
                exact zG_ret rfl rfl (zmr1 (by
                  revert c16 c18 c20 c22 c24; rw [zMay_4]; try rw [zBt]
                  generalize zLk lo (zTr n lo) x p = L; generalize zDn n lo (zTr n lo) x p = D; generalize zUp n lo (zTr n lo) x p = U; generalize zShr n lo (zTr n lo) (zBw lo (zTr n lo) x &&& p) = s1; generalize zShr n lo (zTr n lo) (zAb lo (zTr n lo) x &&& p) = s2
                  revert L D U s1 s2; decide))
    · skip
      refine zG_s rfl rfl ?_
      refine zG_s rfl rfl ?_
      first | refine zN_ifnb rfl (fun c25 => ?_) (fun c26 => ?_) | refine zN_ne0 rfl (by omega) (fun c25 => ?_) (fun c26 => ?_)
      · skip
        refine zG_s rfl rfl ?_
        refine zG_s rfl rfl ?_
        refine zG_s rfl rfl ?_
        refine zG_s rfl rfl ?_
        refine zG_cV1 rfl rfl zRh_o rfl rfl (cr_under hS hP.1 (by omega)) ?_
        first | refine zN_ifb rfl (fun c27 => ?_) (fun c28 => ?_) | refine zN_eq0 rfl (by omega) (fun c27 => ?_) (fun c28 => ?_)
        · skip
          refine zG_s rfl rfl ?_
          -- leaf 18
          exact zG_ret rfl rfl (zmr0 (by rw [zMay_5, decide_eq_false (by omega)]; rfl))
        · skip
          refine zG_s rfl rfl ?_
          refine zG_s rfl rfl ?_
          -- leaf 19
          exact zG_ret rfl rfl (zmr1 (by rw [zMay_5, decide_eq_true (by omega), zUp_l c25]; rfl))
      · skip
        refine zG_s rfl rfl ?_
        refine zG_s rfl rfl ?_
        refine zG_s rfl rfl ?_
        refine zG_s rfl rfl ?_
        refine zG_cV1 rfl rfl zRh_o rfl rfl (cr_isUp hS hP (by omega) (by assumption) (by omega)) ?_
        first | refine zN_ifb rfl (fun c29 => ?_) (fun c30 => ?_) | refine zN_eq0 rfl (by omega) (fun c29 => ?_) (fun c30 => ?_)
        · skip
          refine zG_s rfl rfl ?_
          -- leaf 20
          exact zG_ret rfl rfl (zmr0 (by rw [c26] at c29; rw [zMay_5, show zUp n lo (zTr n lo) x p = false from c29, Bool.and_false]))
        · skip
          refine zG_s rfl rfl ?_
          refine zG_s rfl rfl ?_
          refine zG_s rfl rfl ?_
          refine zG_s rfl rfl ?_
          refine zG_cV1 rfl rfl zRh_o rfl rfl (cr_under hS hP.1 (by omega)) ?_
          first | refine zN_ifb rfl (fun c31 => ?_) (fun c32 => ?_) | refine zN_eq0 rfl (by omega) (fun c31 => ?_) (fun c32 => ?_)
          · skip
            refine zG_s rfl rfl ?_
            -- leaf 21
            exact zG_ret rfl rfl (zmr0 (by rw [zMay_5, decide_eq_false (by omega)]; rfl))
          · skip
            refine zG_s rfl rfl ?_
            refine zG_s rfl rfl ?_
            -- leaf 22
            exact zG_ret rfl rfl (zmr1 (by rw [c26] at c30; rw [zMay_5, show zUp n lo (zTr n lo) x p = true from c30, decide_eq_true (by omega)]; rfl))
  first | refine zN_ifnb rfl (fun c33 => ?_) (fun c34 => ?_) | refine zN_ne0 rfl (by omega) (fun c33 => ?_) (fun c34 => ?_)
  · skip
    refine zG_s rfl rfl ?_
    -- leaf 23
    rw [show zLk lo (zTr n lo) x p = false from by revert c33; cases zLk lo (zTr n lo) x p <;> decide] at jn16
    exact jn16 _
  · skip
    refine zG_s rfl rfl ?_
    refine zG_s rfl rfl ?_
    -- leaf 24
    rw [show zLk lo (zTr n lo) x p = true from by revert c34; cases zLk lo (zTr n lo) x p <;> decide] at jn16
    exact jn16 _
section ZRG
variable {d r s n : Nat} {h : zH} {S : zRS} {lo : Nat → Nat}
theorem cr_shrinks (hS : zRs S s n lo) (hP : zPre n lo) {p : Nat} (hp : p < 256) : zCall (d + 8) 190 [.ref r, .int (nI s), .int (nI p)] (zRh h r S) (some (.int (nI (b2n (zShr n lo (zTr n lo) p)))), zRh h r S) :=
  cr_shrinks0 (d := d + 6) hp (fun p hp => cr_leftBy (d := d + 6) hP (by omega) (by omega) hp (fun p hp => cr_goes (d := d + 3) hS hP (by omega) (by omega) hp (fun x p hx hb hp => cr_mayGo0 (d := d + 1) hS hP (by omega) hx hb hp (fun e => absurd e (by decide)))))
theorem cr_mayGo (hS : zRs S s n lo) (hP : zPre n lo) {k x p : Nat} (hk : k < 6) (hx : x < n) (hb : p.testBit x = true) (hp : p < 256) : zCall (d + 9) 191 [.ref r, .int (nI s), .int (nI k), .int (nI x), .int (nI p)] (zRh h r S) (some (.int (nI (b2n (zMay n lo (zTr n lo) k x p)))), zRh h r S) :=
  cr_mayGo0 (d := d + 5) hS hP hk hx hb hp (fun _ _ hp => cr_shrinks (d := d) hS hP hp)
theorem cr_goesAll (hS : zRs S s n lo) (hP : zPre n lo) {k o p : Nat} (hk : k < 6) (ho : o < 4) (hp : p < 256) : zCall (d + 10) 193 [.ref r, .int (nI s), .int (nI k), .int (nI o), .int (nI p)] (zRh h r S) (some (.int (zbv (zGx n lo k o p))), zRh h r S) :=
  cr_goes (d := d + 7) hS hP hk ho hp (fun _ _ hx hb hp => cr_mayGo hS hP hk hx hb hp)
theorem cr_leftAll (hS : zRs S s n lo) (hP : zPre n lo) {k o : Nat} (hk : k < 6) (ho : o < 4) : zCall (d + 11) 194 [.ref r, .int (nI s), .int (nI k), .int (nI o), .int (nI (1 <<< n - 1))] (zRh h r S) (some (.int (nI (zLeft n lo (zTr n lo) k o))), zRh h r S) :=
  cr_leftBy (d := d + 10) hP hk ho (by have := zpow_le hP.1; omega) (fun p hp => cr_goesAll (d := d) hS hP hk ho hp)
end ZRG
