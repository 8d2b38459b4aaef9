theorem ct_isSpace {d : Nat} {h : zH} {x : Int32} : zCall (d + 1) 144 [.int x] h (some (.int (nI (b2n (zin x 6)))), h) := by
  refine zG_m (t := tX9_isSpace) (ls0 := [.int x]) rfl rfl (zdnI zdn0) rfl ?_
  refine zG_s rfl rfl ?_
  refine zN_if rfl (fun c1 => ?_) (fun c2 => ?_)
  · skip
    refine zG_s rfl rfl ?_
    -- leaf 1
    rw [zraw_lt0 c1]
    exact zG_ret rfl rfl rfl
  · skip
    refine zG_s rfl rfl ?_
    refine zG_s rfl rfl ?_
    refine zN_if2 rfl (fun c3 => ?_) (fun c4 => ?_)
    · skip
      refine zG_s rfl rfl ?_
      -- leaf 2
      rw [zraw_ge (by decide) c3]
      exact zG_ret rfl rfl rfl
    · skip
      refine zG_s rfl rfl ?_
      refine zG_s rfl rfl ?_
      -- leaf 3
      rw [zraw_in (by decide) c2 c4]
      exact zG_ret rfl rfl rfl
theorem ct_isKind {d : Nat} {h : zH} {x : Int32} : zCall (d + 1) 146 [.int x] h (some (.int (nI (b2n (zin x 6)))), h) := by
  refine zG_m (t := tX9_isKind) (ls0 := [.int x]) rfl rfl (zdnI zdn0) rfl ?_
  refine zG_s rfl rfl ?_
  refine zN_if rfl (fun c1 => ?_) (fun c2 => ?_)
  · skip
    refine zG_s rfl rfl ?_
    -- leaf 1
    rw [zraw_lt0 c1]
    exact zG_ret rfl rfl rfl
  · skip
    refine zG_s rfl rfl ?_
    refine zG_s rfl rfl ?_
    refine zN_if2 rfl (fun c3 => ?_) (fun c4 => ?_)
    · skip
      refine zG_s rfl rfl ?_
      -- leaf 2
      rw [zraw_ge (by decide) c3]
      exact zG_ret rfl rfl rfl
    · skip
      refine zG_s rfl rfl ?_
      refine zG_s rfl rfl ?_
      -- leaf 3
      rw [zraw_in (by decide) c2 c4]
      exact zG_ret rfl rfl rfl
theorem ct_isOrder {d : Nat} {h : zH} {x : Int32} : zCall (d + 1) 147 [.int x] h (some (.int (nI (b2n (zin x 4)))), h) := by
  refine zG_m (t := tX9_isOrder) (ls0 := [.int x]) rfl rfl (zdnI zdn0) rfl ?_
  refine zG_s rfl rfl ?_
  refine zN_if rfl (fun c1 => ?_) (fun c2 => ?_)
  · skip
    refine zG_s rfl rfl ?_
    -- leaf 1
    rw [zraw_lt0 c1]
    exact zG_ret rfl rfl rfl
  · skip
    refine zG_s rfl rfl ?_
    refine zG_s rfl rfl ?_
    refine zN_if2 rfl (fun c3 => ?_) (fun c4 => ?_)
    · skip
      refine zG_s rfl rfl ?_
      -- leaf 2
      rw [zraw_ge (by decide) c3]
      exact zG_ret rfl rfl rfl
    · skip
      refine zG_s rfl rfl ?_
      refine zG_s rfl rfl ?_
      -- leaf 3
      rw [zraw_in (by decide) c2 c4]
      exact zG_ret rfl rfl rfl
theorem ct_isSheet {d : Nat} {h : zH} {x : Int32} : zCall (d + 1) 148 [.int x] h (some (.int (nI (b2n (zin x 4)))), h) := by
  refine zG_m (t := tX9_isSheet) (ls0 := [.int x]) rfl rfl (zdnI zdn0) rfl ?_
  refine zG_s rfl rfl ?_
  refine zN_if rfl (fun c1 => ?_) (fun c2 => ?_)
  · skip
    refine zG_s rfl rfl ?_
    -- leaf 1
    rw [zraw_lt0 c1]
    exact zG_ret rfl rfl rfl
  · skip
    refine zG_s rfl rfl ?_
    refine zG_s rfl rfl ?_
    refine zN_if2 rfl (fun c3 => ?_) (fun c4 => ?_)
    · skip
      refine zG_s rfl rfl ?_
      -- leaf 2
      rw [zraw_ge (by decide) c3]
      exact zG_ret rfl rfl rfl
    · skip
      refine zG_s rfl rfl ?_
      refine zG_s rfl rfl ?_
      -- leaf 3
      rw [zraw_in (by decide) c2 c4]
      exact zG_ret rfl rfl rfl
theorem ct_isShelf {d : Nat} {h : zH} {x : Int32} : zCall (d + 1) 149 [.int x] h (some (.int (nI (b2n (zin x 4)))), h) := by
  refine zG_m (t := tX9_isShelf) (ls0 := [.int x]) rfl rfl (zdnI zdn0) rfl ?_
  refine zG_s rfl rfl ?_
  refine zN_if rfl (fun c1 => ?_) (fun c2 => ?_)
  · skip
    refine zG_s rfl rfl ?_
    -- leaf 1
    rw [zraw_lt0 c1]
    exact zG_ret rfl rfl rfl
  · skip
    refine zG_s rfl rfl ?_
    refine zG_s rfl rfl ?_
    refine zN_if2 rfl (fun c3 => ?_) (fun c4 => ?_)
    · skip
      refine zG_s rfl rfl ?_
      -- leaf 2
      rw [zraw_ge (by decide) c3]
      exact zG_ret rfl rfl rfl
    · skip
      refine zG_s rfl rfl ?_
      refine zG_s rfl rfl ?_
      -- leaf 3
      rw [zraw_in (by decide) c2 c4]
      exact zG_ret rfl rfl rfl
theorem ct_isSize {d : Nat} {h : zH} {x : Int32} : zCall (d + 1) 145 [.int x] h (some (.int (nI (b2n (zin x 9)))), h) := by
  refine zG_m (t := tX9_isSize) (ls0 := [.int x]) rfl rfl (zdnI zdn0) rfl ?_
  refine zG_s rfl rfl ?_
  refine zN_if rfl (fun c1 => ?_) (fun c2 => ?_)
  · skip
    refine zG_s rfl rfl ?_
    -- leaf 1
    rw [zraw_lt0 c1]
    exact zG_ret rfl rfl rfl
  · skip
    refine zG_s rfl rfl ?_
    refine zG_s rfl rfl ?_
    refine zN_if2 rfl (fun c3 => ?_) (fun c4 => ?_)
    · skip
      refine zG_s rfl rfl ?_
      -- leaf 2
      rw [zraw_gt (by decide) c3]
      exact zG_ret rfl rfl rfl
    · skip
      refine zG_s rfl rfl ?_
      refine zG_s rfl rfl ?_
      -- leaf 3
      rw [zraw_in2 (by decide) c2 c4]
      exact zG_ret rfl rfl rfl
theorem ct_digit {d : Nat} {h : zH} {w i : Nat} (hw : w < 2 ^ 31) (hi : i < 9) : zCall (d + 1) 151 [.int (nI w), .int (nI i)] h (some (.int (nI (zDig w i))), h) := by
  refine zG_m (t := tX9_digit) (ls0 := [.int (nI w), .int (nI i)]) rfl rfl (zdnI (zdnI zdn0)) rfl ?_
  refine zG_s rfl rfl ?_
  refine zG_s rfl rfl ?_
  refine zG_s rfl rfl ?_
  refine zN_mul (x := 3) rfl ?_
  refine zN_shr rfl (by omega) (by omega) ?_
  refine zG_s rfl rfl ?_
  refine zN_and (y := 7) rfl ?_
  -- leaf 1
  exact zG_ret rfl rfl rfl
theorem ct_isMap {d : Nat} {h : zH} {qa qb na nb : Nat} {la ha lb hb : Nat → Nat} {x : Int32} (hA : zSp h qa na la ha) (hB : zSp h qb nb lb hb) (hOa : zOk na la ha) (hOb : zOk nb lb hb) : zCall (d + 2) 152 [.ref qa, .ref qb, .int x] h (some (.int (nI (b2n (zMp na nb x)))), h) := by
  have hn := hOa.1
  have hn2 := hOb.1
  generalize hR : b2n (zMp na nb x) = R
  refine zG_m (t := tX9_isMap) (ls0 := [.ref qa, .ref qb, .int x, .null]) rfl rfl (zdnR (zdnR (zdnI zdn0))) rfl ?_
  refine zG_s rfl rfl ?_
  refine zN_if rfl (fun c1 => ?_) (fun c2 => ?_)
  · skip
    refine zG_s rfl rfl ?_
    -- leaf 1
    exact zG_ret rfl rfl (by rw [← hR, zMp, zraw_lt0 c1]; rfl)
  · skip
    refine zG_s rfl rfl ?_
    refine zG_s rfl rfl ?_
    refine zG_s rfl rfl ?_
    refine zN_get rfl hA.1 rfl ?_
    refine zN_mul (x := 3) rfl ?_
    refine zG_s rfl rfl ?_
    refine zN_if rfl (fun c3 => ?_) (fun c4 => ?_)
    · skip
      have c3 : x >>> (nI (3 * na) &&& 31) = 0 := of_decide_eq_true c3
      have hz := (zcode30_iff (by omega)).mp ⟨c2, c3⟩
      have hp : 1 <<< (3 * na) ≤ 2 ^ 24 := by
        rw [Nat.one_shiftLeft]
        exact Nat.pow_le_pow_right (by omega) (by omega)
      obtain ⟨w, hw, hxw⟩ := (zin_iff (by omega)).mp hz
      have hR2 : R = b2n (zAl (fun i => decide (zDig w i < nb)) na) := by
        rw [← hR, zMp, hz, Bool.true_and, hxw, nI_cl (by omega)]
      rw [hxw]
      refine zG_s rfl rfl ?_
      refine zN_st3 rfl (fun _ _ _ => rfl) rfl ?_
      have main19 : ∀ i, i ≤ na → (∀ j, j < i → zDig w j < nb) → zGo (d + 1) tX9_isMap 19 [.ref qa, .ref qb, .int (nI w), .int (nI i)] [] h (some (.int (nI R)), h) := by
        refine zdown (na) ?_ (fun i hp19 ih19 => ?_)
        · skip
          intro hj
          refine zG_s rfl rfl ?_
          refine zG_s rfl rfl ?_
          refine zN_get rfl hA.1 rfl ?_
          refine zN_ige rfl (by omega) (by omega) (fun c5 => ?_) (fun c6 => absurd c6 (by omega))
          refine zG_s rfl rfl ?_
          -- leaf 2
          exact zG_ret rfl rfl (by rw [hR2, zAl_iff.mpr (fun i hi => decide_eq_true (hj i hi))]; rfl)
        · skip
          intro hj
          have bd := zDig_lt w i
          refine zG_s rfl rfl ?_
          refine zG_s rfl rfl ?_
          refine zN_get rfl hA.1 rfl ?_
          refine zN_ige rfl (by omega) (by omega) (fun c7 => absurd c7 (by omega)) (fun c8 => ?_)
          refine zG_s rfl rfl ?_
          refine zG_s rfl rfl ?_
          refine zG_cS1 rfl rfl (ct_digit (by omega) (by omega)) ?_
          refine zG_s rfl rfl ?_
          refine zN_get rfl hB.1 rfl ?_
          refine zN_ilt rfl (by omega) (by omega) (fun c9 => ?_) (fun c10 => ?_)
          · skip
            refine zN_inc3 rfl rfl ?_
            refine zG_s rfl rfl ?_
            -- leaf 3
            exact ih19 (fun j hj2 => by
              by_cases e : j = i
              · subst e; assumption
              · exact hj j (by omega))
          · skip
            refine zG_s rfl rfl ?_
            -- leaf 4
            exact zG_ret rfl rfl (by rw [hR2, zAl_no hp19 (decide_eq_false (by omega))]; rfl)
      exact main19 0 (by omega) (fun j hj => absurd hj (by omega))
    · skip
      refine zG_s rfl rfl ?_
      -- leaf 5
      have c5 : zin x (1 <<< (3 * na)) = false := by
        cases q : zin x (1 <<< (3 * na)) with
        | false => rfl
        | true => exact absurd ((zcode30_iff (by omega)).mpr q).2 (of_decide_eq_false c4)
      exact zG_ret rfl rfl (by rw [← hR, zMp, c5]; rfl)
theorem ct_firstTear {d : Nat} {h : zH} {qa qb na nb w : Nat} {la ha lb hb : Nat → Nat} (hA : zSp h qa na la ha) (hB : zSp h qb nb lb hb) (hOa : zOk na la ha) (hOb : zOk nb lb hb) (hw : w < 2 ^ 24) (hD : ∀ i, i < na → zDig w i < nb) : zCall (d + 2) 153 [.ref qa, .ref qb, .int (nI w)] h (some (.int (nI (zTear na la lb w))), h) := by
  have hn := hOa.1
  have hn2 := hOb.1
  obtain ⟨R9, r0, r1, r2⟩ : ∃ R9 : Nat, zTear na la lb w = R9 ∧ ((∀ x, x < na → ∀ y, y < na → zTearF na la lb w x y = none) → R9 = 0) ∧ (∀ x y v, x < na → y < na → zTearF na la lb w x y = some v → (∀ x', x' < x → ∀ y, y < na → zTearF na la lb w x' y = none) → (∀ y', y' < y → zTearF na la lb w x y' = none) → R9 = v) :=
    ⟨_, rfl, fun h1 => by unfold zTear; rw [zfo_none (fun x hx => zfo_none (h1 x hx))]; rfl, fun x y v hx hy h1 h2 h3 => by unfold zTear; rw [zfo_at (f := fun x => zfo (zTearF na la lb w x) na) hx (zfo_at hy h1 h3) (fun x' hx' => zfo_none (h2 x' hx'))]; rfl⟩
  rw [r0]
  clear r0
  have hF : ∀ x y, zTearF na la lb w x y = if (la x).testBit y && !(lb (zDig w x)).testBit (zDig w y) then some (1 + 8 * x + y) else none := fun x y => rfl
  generalize zTearF na la lb w = F at *
  obtain ⟨a1, al, ah, a2, a3, av⟩ := hA
  obtain ⟨b1, bl, bh, b2, b3, bv⟩ := hB
  refine zG_m (t := tX9_firstTear) (ls0 := [.ref qa, .ref qb, .int (nI w), .null, .null]) rfl rfl (zdnR (zdnR (zdnI zdn0))) rfl ?_
  refine zG_s rfl rfl ?_
  refine zN_st3 rfl (fun _ _ _ => rfl) rfl ?_
  have main2 : ∀ x, x ≤ na → ∀ z4 : Value, (∀ x', x' < x → ∀ y, y < na → F x' y = none) → zGo (d + 1) tX9_firstTear 2 [.ref qa, .ref qb, .int (nI w), .int (nI x), z4] [] h (some (.int (nI R9)), h) := by
    refine zdown (na) ?_ (fun x hp2 ih2 => ?_)
    · skip
      intro z4 hx
      refine zG_s rfl rfl ?_
      refine zG_s rfl rfl ?_
      refine zN_get rfl a1 rfl ?_
      refine zN_ige rfl (by omega) (by omega) (fun c1 => ?_) (fun c2 => absurd c2 (by omega))
      refine zG_s rfl rfl ?_
      -- leaf 1
      exact zG_ret rfl rfl (by rw [r1 hx])
    · skip
      intro z4 hx
      have e1 := hOa.2 x hp2
      have e2 := hD x hp2
      have e3 := hOb.2 _ e2
      refine zG_s rfl rfl ?_
      refine zG_s rfl rfl ?_
      refine zN_get rfl a1 rfl ?_
      refine zN_ige rfl (by omega) (by omega) (fun c3 => absurd c3 (by omega)) (fun c4 => ?_)
      refine zG_s rfl rfl ?_
      refine zN_st4 rfl (fun _ _ _ => rfl) rfl ?_
      have main13 : ∀ y, y ≤ na → (∀ y', y' < y → F x y' = none) → zGo (d + 1) tX9_firstTear 13 [.ref qa, .ref qb, .int (nI w), .int (nI x), .int (nI y)] [] h (some (.int (nI R9)), h) := by
        refine zdown (na) ?_ (fun y hp13 ih13 => ?_)
        · skip
          intro hy
          refine zG_s rfl rfl ?_
          refine zG_s rfl rfl ?_
          refine zN_get rfl a1 rfl ?_
          refine zN_ige rfl (by omega) (by omega) (fun c5 => ?_) (fun c6 => absurd c6 (by omega))
          refine zN_inc3 rfl rfl ?_
          refine zG_s rfl rfl ?_
          -- leaf 2
          exact ih2 _ (fun x' hx' y hy2 => by
            by_cases e : x' = x
            · subst e; exact hy y hy2
            · exact hx x' (by omega) y hy2)
        · skip
          intro hy
          have e4 := zDig_lt w y
          refine zG_s rfl rfl ?_
          refine zG_s rfl rfl ?_
          refine zN_get rfl a1 rfl ?_
          refine zN_ige rfl (by omega) (by omega) (fun c7 => absurd c7 (by omega)) (fun c8 => ?_)
          refine zG_s rfl rfl ?_
          refine zN_get rfl a1 rfl ?_
          refine zG_s rfl rfl ?_
          refine zN_ald rfl a2 (by omega) (by omega) (av x hp2).1 ?_
          refine zG_s rfl rfl ?_
          refine zG_cS1 rfl rfl (ct_has _ (by omega) (by omega)) ?_
          first | refine zN_ifb rfl (fun c9 => ?_) (fun c10 => ?_) | refine zN_eq0 rfl (by omega) (fun c9 => ?_) (fun c10 => ?_)
          · skip
            refine zN_inc4 rfl rfl ?_
            refine zG_s rfl rfl ?_
            -- leaf 3
            exact ih13 (fun y' h' => by
              by_cases e : y' = y
              · subst e; rw [hF, c9]; rfl
              · exact hy y' (by omega))
          · skip
            refine zG_s rfl rfl ?_
            refine zN_get rfl b1 rfl ?_
            refine zG_s rfl rfl ?_
            refine zG_s rfl rfl ?_
            refine zG_cS1 rfl rfl (ct_digit (by omega) (by omega)) ?_
            refine zN_ald rfl b2 (by omega) (by omega) (bv _ e2).1 ?_
            refine zG_s rfl rfl ?_
            refine zG_s rfl rfl ?_
            refine zG_cS1 rfl rfl (ct_digit (by omega) (by omega)) ?_
            refine zG_cS1 rfl rfl (ct_has _ (by omega) (by omega)) ?_
            first | refine zN_ifnb rfl (fun c11 => ?_) (fun c12 => ?_) | refine zN_ne0 rfl (by omega) (fun c11 => ?_) (fun c12 => ?_)
            · skip
              refine zN_inc4 rfl rfl ?_
              refine zG_s rfl rfl ?_
              -- leaf 4
              exact ih13 (fun y' h' => by
                by_cases e : y' = y
                · subst e; rw [hF, c10, c11]; rfl
                · exact hy y' (by omega))
            · skip
              refine zG_s rfl rfl ?_
              refine zG_s rfl rfl ?_
              refine zG_s rfl rfl ?_
              refine zN_mul (x := 8) rfl ?_
              refine zN_add (x := 1) rfl ?_
              refine zG_s rfl rfl ?_
              refine zN_add rfl ?_
              -- leaf 5
              exact zG_ret rfl rfl (by rw [r2 x y _ hp2 hp13 (by rw [hF, c10, c12]; rfl) hx hy])
      exact main13 0 (by omega) (fun y' hy' => absurd hy' (by omega))
  exact main2 0 (by omega) _ (fun x' hx' => absurd hx' (by omega))
theorem ct_isWhole {d : Nat} {h : zH} {qa qb na nb : Nat} {la ha lb hb : Nat → Nat} {x : Int32} (hA : zSp h qa na la ha) (hB : zSp h qb nb lb hb) (hOa : zOk na la ha) (hOb : zOk nb lb hb) : zCall (d + 3) 154 [.ref qa, .ref qb, .int x] h (some (.int (nI (b2n (zWh na nb la lb x)))), h) := by
  have hn := hOa.1
  generalize hR : zWh na nb la lb x = R
  refine zG_m (t := tX9_isWhole) (ls0 := [.ref qa, .ref qb, .int x]) rfl rfl (zdnR (zdnR (zdnI zdn0))) rfl ?_
  refine zG_s rfl rfl ?_
  refine zG_s rfl rfl ?_
  refine zG_s rfl rfl ?_
  refine zG_cS1 rfl rfl (ct_isMap hA hB hOa hOb) ?_
  first | refine zN_ifb rfl (fun c1 => ?_) (fun c2 => ?_) | refine zN_eq0 rfl (by omega) (fun c1 => ?_) (fun c2 => ?_)
  · skip
    refine zG_s rfl rfl ?_
    -- leaf 1
    exact zG_ret rfl rfl (by rw [← hR, zWh, c1]; rfl)
  · skip
    refine zG_s rfl rfl ?_
    refine zG_s rfl rfl ?_
    refine zG_s rfl rfl ?_
    obtain ⟨w, hw1, hw, hxw, hcl, hD⟩ := zMp_w hn c2
    rw [zWh, c2, Bool.true_and, hcl] at hR
    rw [hxw]
    have ht : zTear na la lb w ≤ 80 := zTear_le hn
    refine zG_cS1 rfl rfl (ct_firstTear hA hB hOa hOb (by omega) hD) ?_
    first | refine zN_ifnb rfl (fun c3 => ?_) (fun c4 => ?_) | refine zN_ne0 rfl (by omega) (fun c3 => ?_) (fun c4 => ?_)
    · skip
      refine zG_s rfl rfl ?_
      -- leaf 2
      exact zG_ret rfl rfl (by rw [← hR, decide_eq_false (by omega)]; rfl)
    · skip
      refine zG_s rfl rfl ?_
      refine zG_s rfl rfl ?_
      -- leaf 3
      exact zG_ret rfl rfl (by rw [← hR, decide_eq_true (by omega)]; rfl)
