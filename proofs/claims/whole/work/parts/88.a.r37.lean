theorem zRi_i {S : zRS} {i : Nat} {a b : Int32} : zRi (zRi S i a) i b = zRi S i b := by
  unfold zRi
  have e : upd (upd S.1 i a) i b = upd S.1 i b := by
    funext j
    by_cases g : j = i
    · rw [g, upd_at, upd_at]
    · rw [upd_ne _ _ g, upd_ne _ _ g, upd_ne _ _ g]
  show (upd (upd S.1 i a) i b, S.2) = _
  rw [e]
theorem zRi_self {S : zRS} {i : Nat} {a : Int32} (h : S.1 i = a) : zRi S i a = S := by
  have e : upd S.1 i a = S.1 := by
    funext j
    by_cases g : j = i
    · rw [g, upd_at, h]
    · rw [upd_ne _ _ g]
  unfold zRi
  rw [e]
/-- the tape, and where its reading stands -/
def zTpr (S : zRS) (B : Nat → Nat) (ln p : Nat) : Prop := S.1 28 = nI p ∧ S.1 27 = nI ln ∧ (∀ i, i < ln → S.2.1 17 i = nI (B i)) ∧ (∀ i, i < ln → B i < 256) ∧ ln ≤ 100 ∧ p ≤ ln
theorem zTpr.to {S : zRS} {B : Nat → Nat} {ln p q : Nat} (h : zTpr S B ln p) (hq : q ≤ ln) : zTpr (zRi S 28 (nI q)) B ln q := ⟨zRi_at, (zRi_ne (by decide)).trans h.2.1, h.2.2.1, h.2.2.2.1, h.2.2.2.2.1, hq⟩
theorem zTpr.fr {P : Nat → Nat → Prop} {S S1 : zRS} {B : Nat → Nat} {ln p : Nat} (h : zTpr S B ln p) (hF : zRF P S S1) (h1 : ¬ P 0 28) (h2 : ¬ P 0 27) (h3 : ∀ j, ¬ P 17 j) : zTpr S1 B ln p := ⟨(hF.1 28 h1).trans h.1, (hF.1 27 h2).trans h.2.1, fun i hi => (hF.2.1 17 i (h3 i)).trans (h.2.2.1 i hi), h.2.2.2⟩
theorem cr_here {d r ln p : Nat} {h : zH} {S : zRS} {B : Nat → Nat} (hr : 2 ≤ r) (hT : zTpr S B ln p) : zCall (d + 1) 259 [.ref r] (zRh h r S) (some (.int (zAt8 B ln p)), zRh h r (zRi S 28 (nI (zSk B ln p)))) := by
  obtain ⟨h28, h27, hB, hB2, hl, hp⟩ := hT
  refine zG_m (t := tX10_here) (ls0 := [.ref r]) rfl rfl (zdnR zdn0) rfl ?_
  have jn38 : ∀ q, q ≤ ln → zSk B ln p = q → zGo (d) tX10_here 38 [.ref r] [] (zRh h r (zRi S 28 (nI q))) (some (.int (zAt8 B ln p)), zRh h r (zRi S 28 (nI (zSk B ln p)))) := by
    intro q hq eq
    refine zG_s rfl rfl ?_
    refine zN_get rfl zRh_o rfl ?_
    rw [show ∀ w, (zRi S 28 w).1 28 = w from fun w => rfl]
    refine zG_s rfl rfl ?_
    refine zN_get rfl zRh_o rfl ?_
    rw [show ∀ w, (zRi S 28 w).1 27 = nI ln from fun w => h27]
    refine zN_ige rfl (by omega) (by omega) (fun c1 => ?_) (fun c2 => ?_)
    · skip
      refine zG_s rfl rfl ?_
      -- leaf 1
      exact zG_ret rfl rfl (by rw [eq, zAt8, eq, if_neg (by omega)])
    · skip
      refine zG_s rfl rfl ?_
      refine zN_get rfl zRh_o rfl ?_
      refine zG_s rfl rfl ?_
      refine zN_get rfl zRh_o rfl ?_
      rw [show ∀ w, (zRi S 28 w).1 28 = w from fun w => rfl]
      refine zR_ald (k := 17) (n := 100) rfl rfl (by omega) (hB _ (by omega)) ?_
      refine zG_s rfl rfl ?_
      -- leaf 2
      exact zG_ret rfl rfl (by rw [eq, zAt8, eq, if_pos (by omega)])
  have main0 : ∀ j, j ≤ (ln - p) → (∀ i, p ≤ i → i < p + j → B i = 32) → zGo (d) tX10_here 0 [.ref r] [] (zRh h r (zRi S 28 (nI (p + j)))) (some (.int (zAt8 B ln p)), zRh h r (zRi S 28 (nI (zSk B ln p)))) := by
    refine zdown ((ln - p)) ?_ (fun j hp0 ih0 => ?_)
    · skip
      intro hb
      refine zG_s rfl rfl ?_
      refine zN_get rfl zRh_o rfl ?_
      rw [show ∀ w, (zRi S 28 w).1 28 = w from fun w => rfl]
      refine zG_s rfl rfl ?_
      refine zN_get rfl zRh_o rfl ?_
      rw [show ∀ w, (zRi S 28 w).1 27 = nI ln from fun w => h27]
      refine zN_ige rfl (by omega) (by omega) (fun c3 => ?_) (fun c4 => absurd c4 (by omega))
      -- leaf 3
      exact jn38 _ (by omega) (by rw [zSk_end hp (fun i g1 g2 => hb i g1 (by omega))]; omega)
    · skip
      intro hb
      refine zG_s rfl rfl ?_
      refine zN_get rfl zRh_o rfl ?_
      rw [show ∀ w, (zRi S 28 w).1 28 = w from fun w => rfl]
      refine zG_s rfl rfl ?_
      refine zN_get rfl zRh_o rfl ?_
      rw [show ∀ w, (zRi S 28 w).1 27 = nI ln from fun w => h27]
      refine zN_ige rfl (by omega) (by omega) (fun c5 => absurd c5 (by omega)) (fun c6 => ?_)
      refine zG_s rfl rfl ?_
      refine zN_get rfl zRh_o rfl ?_
      refine zG_s rfl rfl ?_
      refine zN_get rfl zRh_o rfl ?_
      rw [show ∀ w, (zRi S 28 w).1 28 = w from fun w => rfl]
      refine zR_ald (k := 17) (n := 100) rfl rfl (by omega) (hB _ (by omega)) ?_
      have hb8 := hB2 (p + j) (by omega)
      refine zG_s rfl rfl ?_
      refine zN_ine rfl (by omega) (by omega) (fun c7 => ?_) (fun c8 => ?_)
      · skip
        -- leaf 4
        exact jn38 _ (by omega) (zSk_at (by omega) (by omega) hb (by assumption))
      · skip
        refine zG_s rfl rfl ?_
        refine zG_s rfl rfl ?_
        refine zN_get rfl zRh_o rfl ?_
        rw [show ∀ w, (zRi S 28 w).1 28 = w from fun w => rfl]
        refine zG_s rfl rfl ?_
        refine zN_add rfl ?_
        refine zR_put rfl rfl rfl (fun _ => rfl) ?_
        rw [zRi_i]
        refine zG_s rfl rfl ?_
        -- leaf 5
        refine ih0 (fun i g1 g2 => ?_)
        by_cases e : i = p + j
        · rw [e]; assumption
        · exact hb i g1 (by omega)
  rw [show zRh h r S = zRh h r (zRi S 28 (nI (p + 0))) from by rw [Nat.add_zero, zRi_self h28]]
  exact main0 0 (by omega) (fun i g1 g2 => absurd g1 (by omega))
theorem zAt8_eq {B : Nat → Nat} {ln p c : Nat} (hB : ∀ i, i < ln → B i < 256) (hc : c < 256) : zc2 .eq (zAt8 B ln p) (nI c) = zIsn B ln p c := by
  unfold zAt8 zIsn
  by_cases h : zSk B ln p < ln
  · rw [if_pos h, decide_eq_true h, Bool.true_and]
    show decide (nI (B (zSk B ln p)) = nI c) = _
    rw [decide_eq_decide, nI_inj (by have := hB _ h; omega) (by omega)]
  · rw [if_neg h, decide_eq_false h, Bool.false_and]
    exact decide_eq_false (fun g => znm1 (x := c) (by omega) g.symm)
theorem cr_takes {d r ln p c : Nat} {h : zH} {S : zRS} {B : Nat → Nat} (hr : 2 ≤ r) (hT : zTpr S B ln p) (hc : c < 256) : zCall (d + 2) 260 [.ref r, .int (nI c)] (zRh h r S) (some (.int (nI (b2n (zIsn B ln p c)))), zRh h r (zRi S 28 (nI (zSk B ln p + b2n (zIsn B ln p c))))) := by
  have h2 := zSk_le (B := B) hT.2.2.2.2.2
  refine zG_m (t := tX10_takes) (ls0 := [.ref r, .int (nI c)]) rfl rfl (zdnR (zdnI zdn0)) rfl ?_
  refine zG_s rfl rfl ?_
  refine zG_cV1 rfl rfl zRh_o rfl rfl (cr_here hr hT) ?_
  refine zG_s rfl rfl ?_
  refine zN_if2 rfl (fun c1 => ?_) (fun c2 => ?_)
  · skip
    refine zG_s rfl rfl ?_
    refine zG_s rfl rfl ?_
    refine zN_get rfl zRh_o rfl ?_
    rw [show ∀ w, (zRi S 28 w).1 28 = w from fun w => rfl]
    refine zG_s rfl rfl ?_
    refine zN_add rfl ?_
    refine zR_put rfl rfl rfl (fun _ => rfl) ?_
    rw [zRi_i]
    refine zG_s rfl rfl ?_
    -- leaf 1
    rw [zAt8_eq hT.2.2.2.1 hc] at c1
    exact zG_ret rfl rfl (by rw [c1]; rfl)
  · skip
    refine zG_s rfl rfl ?_
    -- leaf 2
    rw [zAt8_eq hT.2.2.2.1 hc] at c2
    exact zG_ret rfl rfl (by rw [c2]; rfl)
theorem zdig_in : ∀ b, b < 256 → ∀ l, l < 10 → zin (nI b - nI 48) l = (decide (48 ≤ b) && decide (b - 48 < l)) := by decide +kernel
theorem zdig_no : ∀ l, l < 10 → zin (-1 - nI 48) l = false := by decide +kernel
theorem cr_digit {d r ln p lim bb : Nat} {h : zH} {S : zRS} {B : Nat → Nat} (hr : 2 ≤ r) (hT : zTpr S B ln p) (hlim : lim ≤ 9) (hbb : bb ≤ 9) : zCall (d + 2) 261 [.ref r, .int (nI lim), .int (zbv bb)] (zRh h r S) (some (.int (zbv (zDgv B ln lim bb p))), zRh h r (zRi S 28 (nI (zDge B ln lim bb p)))) := by
  have h2 := zSk_le (B := B) hT.2.2.2.2.2
  have hin : zin (zAt8 B ln p - nI 48) lim = (decide (zSk B ln p < ln) && (decide (48 ≤ B (zSk B ln p)) && decide (B (zSk B ln p) - 48 < lim))) := by
    unfold zAt8
    by_cases g : zSk B ln p < ln
    · rw [if_pos g, decide_eq_true g, zdig_in _ (hT.2.2.2.1 _ g) _ (by omega)]; rfl
    · rw [if_neg g, decide_eq_false g, zdig_no _ (by omega)]; rfl
  refine zG_m (t := tX10_digit) (ls0 := [.ref r, .int (nI lim), .int (zbv bb), .null]) rfl rfl (zdnR (zdnI (zdnI zdn0))) rfl ?_
  refine zG_s rfl rfl ?_
  refine zG_cV1 rfl rfl zRh_o rfl rfl (cr_here hr hT) ?_
  refine zG_s rfl rfl ?_
  refine zG_s (st' := [.int (zAt8 B ln p - nI 48)]) rfl rfl ?_
  refine zN_st3 rfl (fun _ _ _ => rfl) rfl ?_
  refine zG_s rfl rfl ?_
  refine zG_s rfl rfl ?_
  refine zG_s rfl rfl ?_
  refine zG_s rfl rfl ?_
  refine zG_s rfl rfl ?_
  refine zG_cS1 rfl rfl (cr_inm (by omega)) ?_
  first | refine zN_ifb rfl (fun c1 => ?_) (fun c2 => ?_) | refine zN_eq0 rfl (by omega) (fun c1 => ?_) (fun c2 => ?_)
  · skip
    refine zG_s rfl rfl ?_
    -- leaf 1
    rw [hin] at c1
    have e0 : zDgv B ln lim bb p = 0 := by
      unfold zDgv
      rw [if_neg (fun g => by rw [decide_eq_true g.1, decide_eq_true g.2.1, decide_eq_true g.2.2.1] at c1; cases c1)]
    exact zG_ret rfl rfl (by rw [zDge, e0, if_pos rfl]; rfl)
  · skip
    rw [hin] at c2
    simp only [Bool.and_eq_true, decide_eq_true_eq] at c2
    have hb8 := hT.2.2.2.1 _ c2.1
    have e8 : zAt8 B ln p - nI 48 = nI (B (zSk B ln p) - 48) := by rw [zAt8, if_pos c2.1, pk_sub c2.2.1]
    rw [e8]
    refine zG_s rfl rfl ?_
    refine zG_s rfl rfl ?_
    refine zN_if2 rfl (fun c3 => ?_) (fun c4 => ?_)
    · skip
      refine zG_s rfl rfl ?_
      refine zG_s rfl rfl ?_
      refine zN_get rfl zRh_o rfl ?_
      rw [show ∀ w, (zRi S 28 w).1 28 = w from fun w => rfl]
      refine zG_s rfl rfl ?_
      refine zN_add rfl ?_
      refine zR_put rfl rfl rfl (fun _ => rfl) ?_
      rw [zRi_i]
      refine zG_s rfl rfl ?_
      -- leaf 2
      have g3 : ¬ bb = B (zSk B ln p) - 48 + 1 := fun g => (of_decide_eq_true c3 : ¬ _) ((zbv_in (by omega) (by omega)).mpr g).symm
      have e0 : zDgv B ln lim bb p = B (zSk B ln p) - 48 + 1 := by
        unfold zDgv
        rw [if_pos ⟨c2.1, c2.2.1, c2.2.2, fun g => g3 g.symm⟩]
      exact zG_ret rfl rfl (by rw [zDge, e0, if_neg (by omega)]; rfl)
    · skip
      refine zG_s rfl rfl ?_
      -- leaf 3
      have g3 : bb = B (zSk B ln p) - 48 + 1 := (zbv_in (by omega) (by omega)).mp (Decidable.not_not.mp (of_decide_eq_false c4)).symm
      have e0 : zDgv B ln lim bb p = 0 := by
        unfold zDgv
        rw [if_neg (fun g => g.2.2.2 g3.symm)]
      exact zG_ret rfl rfl (by rw [zDge, e0, if_pos rfl]; rfl)
