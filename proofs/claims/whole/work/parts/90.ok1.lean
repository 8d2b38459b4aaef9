theorem zok_cut {len pc : Nat} {x : Option zI} (h : len ≤ pc) : (bif Nat.blt pc len then x else none) = none := by
  have : Nat.blt pc len = false := by
    cases e : Nat.blt pc len with
    | false => rfl
    | true => exact absurd (Nat.le_of_ble_eq_true e) (by omega)
  rw [this]
  rfl
theorem zok_R {mi lo n pc : Nat} {ai : zI} (h : zokR mi lo n = true) (h1 : lo ≤ pc) (h2 : pc < lo + n) (e : zT mi pc = some ai) : zokI mi pc ai = true := by
  have h3 := List.all_eq_true.mp h (pc - lo) (List.mem_range.mpr (by omega))
  rw [show lo + (pc - lo) = pc by omega, e] at h3
  exact h3
theorem zo_0 : zokR 0 0 23 = true := by decide +kernel
theorem zp_0 : ∀ (pc : Nat) (ai : zI), zT 0 pc = some ai → zokI 0 pc ai = true := by
  intro pc ai e
  rcases Nat.lt_or_ge pc 23 with h | h
  · exact zok_R zo_0 (Nat.zero_le _) (by omega) e
  · exact absurd (e.symm.trans (show tX0_init pc = none from zok_cut h)) (by intro q; cases q)
theorem zo_1 : zokR 1 0 42 = true := by decide +kernel
theorem zp_1 : ∀ (pc : Nat) (ai : zI), zT 1 pc = some ai → zokI 1 pc ai = true := by
  intro pc ai e
  rcases Nat.lt_or_ge pc 42 with h | h
  · exact zok_R zo_1 (Nat.zero_le _) (by omega) e
  · exact absurd (e.symm.trans (show tX0_isUnder pc = none from zok_cut h)) (by intro q; cases q)
theorem zo_2 : zokR 2 0 6 = true := by decide +kernel
theorem zp_2 : ∀ (pc : Nat) (ai : zI), zT 2 pc = some ai → zokI 2 pc ai = true := by
  intro pc ai e
  rcases Nat.lt_or_ge pc 6 with h | h
  · exact zok_R zo_2 (Nat.zero_le _) (by omega) e
  · exact absurd (e.symm.trans (show tX0_clear pc = none from zok_cut h)) (by intro q; cases q)
theorem zo_3 : zokR 3 0 64 = true := by decide +kernel
theorem zp_3 : ∀ (pc : Nat) (ai : zI), zT 3 pc = some ai → zokI 3 pc ai = true := by
  intro pc ai e
  rcases Nat.lt_or_ge pc 64 with h | h
  · exact zok_R zo_3 (Nat.zero_le _) (by omega) e
  · exact absurd (e.symm.trans (show tX0_run pc = none from zok_cut h)) (by intro q; cases q)
theorem zo_4 : zokR 4 0 30 = true := by decide +kernel
theorem zp_4 : ∀ (pc : Nat) (ai : zI), zT 4 pc = some ai → zokI 4 pc ai = true := by
  intro pc ai e
  rcases Nat.lt_or_ge pc 30 with h | h
  · exact zok_R zo_4 (Nat.zero_le _) (by omega) e
  · exact absurd (e.symm.trans (show tX0_begin pc = none from zok_cut h)) (by intro q; cases q)
theorem zo_5 : zokR 5 0 97 = true := by decide +kernel
theorem zp_5 : ∀ (pc : Nat) (ai : zI), zT 5 pc = some ai → zokI 5 pc ai = true := by
  intro pc ai e
  rcases Nat.lt_or_ge pc 97 with h | h
  · exact zok_R zo_5 (Nat.zero_le _) (by omega) e
  · exact absurd (e.symm.trans (show tX0_goes pc = none from zok_cut h)) (by intro q; cases q)
theorem zo_6 : zokR 6 0 85 = true := by decide +kernel
theorem zp_6 : ∀ (pc : Nat) (ai : zI), zT 6 pc = some ai → zokI 6 pc ai = true := by
  intro pc ai e
  rcases Nat.lt_or_ge pc 85 with h | h
  · exact zok_R zo_6 (Nat.zero_le _) (by omega) e
  · exact absurd (e.symm.trans (show tX0_pays pc = none from zok_cut h)) (by intro q; cases q)
theorem zo_7 : zokR 7 0 113 = true := by decide +kernel
theorem zp_7 : ∀ (pc : Nat) (ai : zI), zT 7 pc = some ai → zokI 7 pc ai = true := by
  intro pc ai e
  rcases Nat.lt_or_ge pc 113 with h | h
  · exact zok_R zo_7 (Nat.zero_le _) (by omega) e
  · exact absurd (e.symm.trans (show tX0_tells pc = none from zok_cut h)) (by intro q; cases q)
theorem zo_8 : zokR 8 0 89 = true := by decide +kernel
theorem zp_8 : ∀ (pc : Nat) (ai : zI), zT 8 pc = some ai → zokI 8 pc ai = true := by
  intro pc ai e
  rcases Nat.lt_or_ge pc 89 with h | h
  · exact zok_R zo_8 (Nat.zero_le _) (by omega) e
  · exact absurd (e.symm.trans (show tX1_init pc = none from zok_cut h)) (by intro q; cases q)
theorem zo_9 : zokR 9 0 21 = true := by decide +kernel
theorem zp_9 : ∀ (pc : Nat) (ai : zI), zT 9 pc = some ai → zokI 9 pc ai = true := by
  intro pc ai e
  rcases Nat.lt_or_ge pc 21 with h | h
  · exact zok_R zo_9 (Nat.zero_le _) (by omega) e
  · exact absurd (e.symm.trans (show tX1_numberings pc = none from zok_cut h)) (by intro q; cases q)
theorem zo_10 : zokR 10 0 98 = true := by decide +kernel
theorem zp_10 : ∀ (pc : Nat) (ai : zI), zT 10 pc = some ai → zokI 10 pc ai = true := by
  intro pc ai e
  rcases Nat.lt_or_ge pc 98 with h | h
  · exact zok_R zo_10 (Nat.zero_le _) (by omega) e
  · exact absurd (e.symm.trans (show tX1_number pc = none from zok_cut h)) (by intro q; cases q)
theorem zo_11 : zokR 11 0 87 = true := by decide +kernel
theorem zp_11 : ∀ (pc : Nat) (ai : zI), zT 11 pc = some ai → zokI 11 pc ai = true := by
  intro pc ai e
  rcases Nat.lt_or_ge pc 87 with h | h
  · exact zok_R zo_11 (Nat.zero_le _) (by omega) e
  · exact absurd (e.symm.trans (show tX1_codeByOrder pc = none from zok_cut h)) (by intro q; cases q)
theorem zo_12 : zokR 12 0 88 = true := by decide +kernel
theorem zp_12 : ∀ (pc : Nat) (ai : zI), zT 12 pc = some ai → zokI 12 pc ai = true := by
  intro pc ai e
  rcases Nat.lt_or_ge pc 88 with h | h
  · exact zok_R zo_12 (Nat.zero_le _) (by omega) e
  · exact absurd (e.symm.trans (show tX1_formOf pc = none from zok_cut h)) (by intro q; cases q)
theorem zo_13 : zokR 13 0 91 = true := by decide +kernel
theorem zp_13 : ∀ (pc : Nat) (ai : zI), zT 13 pc = some ai → zokI 13 pc ai = true := by
  intro pc ai e
  rcases Nat.lt_or_ge pc 91 with h | h
  · exact zok_R zo_13 (Nat.zero_le _) (by omega) e
  · exact absurd (e.symm.trans (show tX1_listAll pc = none from zok_cut h)) (by intro q; cases q)
theorem zo_14 : zokR 14 0 105 = true := by decide +kernel
theorem zp_14 : ∀ (pc : Nat) (ai : zI), zT 14 pc = some ai → zokI 14 pc ai = true := by
  intro pc ai e
  rcases Nat.lt_or_ge pc 105 with h | h
  · exact zok_R zo_14 (Nat.zero_le _) (by omega) e
  · exact absurd (e.symm.trans (show tX1_enlist pc = none from zok_cut h)) (by intro q; cases q)
theorem zo_15 : zokR 15 0 33 = true := by decide +kernel
theorem zp_15 : ∀ (pc : Nat) (ai : zI), zT 15 pc = some ai → zokI 15 pc ai = true := by
  intro pc ai e
  rcases Nat.lt_or_ge pc 33 with h | h
  · exact zok_R zo_15 (Nat.zero_le _) (by omega) e
  · exact absurd (e.symm.trans (show tX1_plainForms pc = none from zok_cut h)) (by intro q; cases q)
theorem zo_16 : zokR 16 0 50 = true := by decide +kernel
theorem zp_16 : ∀ (pc : Nat) (ai : zI), zT 16 pc = some ai → zokI 16 pc ai = true := by
  intro pc ai e
  rcases Nat.lt_or_ge pc 50 with h | h
  · exact zok_R zo_16 (Nat.zero_le _) (by omega) e
  · exact absurd (e.symm.trans (show tX1_placeOf pc = none from zok_cut h)) (by intro q; cases q)
theorem zo_17 : zokR 17 0 23 = true := by decide +kernel
theorem zp_17 : ∀ (pc : Nat) (ai : zI), zT 17 pc = some ai → zokI 17 pc ai = true := by
  intro pc ai e
  rcases Nat.lt_or_ge pc 23 with h | h
  · exact zok_R zo_17 (Nat.zero_le _) (by omega) e
  · exact absurd (e.symm.trans (show tX2_init pc = none from zok_cut h)) (by intro q; cases q)
theorem zo_18 : zokR 18 0 206 = true := by decide +kernel
theorem zp_18 : ∀ (pc : Nat) (ai : zI), zT 18 pc = some ai → zokI 18 pc ai = true := by
  intro pc ai e
  rcases Nat.lt_or_ge pc 206 with h | h
  · exact zok_R zo_18 (Nat.zero_le _) (by omega) e
  · exact absurd (e.symm.trans (show tX2_steps pc = none from zok_cut h)) (by intro q; cases q)
theorem zo_19 : zokR 19 0 110 = true := by decide +kernel
theorem zp_19 : ∀ (pc : Nat) (ai : zI), zT 19 pc = some ai → zokI 19 pc ai = true := by
  intro pc ai e
  rcases Nat.lt_or_ge pc 110 with h | h
  · exact zok_R zo_19 (Nat.zero_le _) (by omega) e
  · exact absurd (e.symm.trans (show tX2_isNear pc = none from zok_cut h)) (by intro q; cases q)
theorem zo_20 : zokR 20 0 90 = true := by decide +kernel
theorem zp_20 : ∀ (pc : Nat) (ai : zI), zT 20 pc = some ai → zokI 20 pc ai = true := by
  intro pc ai e
  rcases Nat.lt_or_ge pc 90 with h | h
  · exact zok_R zo_20 (Nat.zero_le _) (by omega) e
  · exact absurd (e.symm.trans (show tX3_init pc = none from zok_cut h)) (by intro q; cases q)
theorem zo_21 : zokR 21 0 119 = true := by decide +kernel
theorem zp_21 : ∀ (pc : Nat) (ai : zI), zT 21 pc = some ai → zokI 21 pc ai = true := by
  intro pc ai e
  rcases Nat.lt_or_ge pc 119 with h | h
  · exact zok_R zo_21 (Nat.zero_le _) (by omega) e
  · exact absurd (e.symm.trans (show tX3_enter pc = none from zok_cut h)) (by intro q; cases q)
theorem zo_22 : zokR 22 0 9 = true := by decide +kernel
theorem zp_22 : ∀ (pc : Nat) (ai : zI), zT 22 pc = some ai → zokI 22 pc ai = true := by
  intro pc ai e
  rcases Nat.lt_or_ge pc 9 with h | h
  · exact zok_R zo_22 (Nat.zero_le _) (by omega) e
  · exact absurd (e.symm.trans (show tX3_all pc = none from zok_cut h)) (by intro q; cases q)
theorem zo_23 : zokR 23 0 38 = true := by decide +kernel
theorem zp_23 : ∀ (pc : Nat) (ai : zI), zT 23 pc = some ai → zokI 23 pc ai = true := by
  intro pc ai e
  rcases Nat.lt_or_ge pc 38 with h | h
  · exact zok_R zo_23 (Nat.zero_le _) (by omega) e
  · exact absurd (e.symm.trans (show tX3_holder pc = none from zok_cut h)) (by intro q; cases q)
theorem zo_24 : zokR 24 0 17 = true := by decide +kernel
theorem zp_24 : ∀ (pc : Nat) (ai : zI), zT 24 pc = some ai → zokI 24 pc ai = true := by
  intro pc ai e
  rcases Nat.lt_or_ge pc 17 with h | h
  · exact zok_R zo_24 (Nat.zero_le _) (by omega) e
  · exact absurd (e.symm.trans (show tX3_goesByLike pc = none from zok_cut h)) (by intro q; cases q)
theorem zo_25 : zokR 25 0 36 = true := by decide +kernel
theorem zp_25 : ∀ (pc : Nat) (ai : zI), zT 25 pc = some ai → zokI 25 pc ai = true := by
  intro pc ai e
  rcases Nat.lt_or_ge pc 36 with h | h
  · exact zok_R zo_25 (Nat.zero_le _) (by omega) e
  · exact absurd (e.symm.trans (show tX3_goesByDown pc = none from zok_cut h)) (by intro q; cases q)
theorem zo_26 : zokR 26 0 36 = true := by decide +kernel
theorem zp_26 : ∀ (pc : Nat) (ai : zI), zT 26 pc = some ai → zokI 26 pc ai = true := by
  intro pc ai e
  rcases Nat.lt_or_ge pc 36 with h | h
  · exact zok_R zo_26 (Nat.zero_le _) (by omega) e
  · exact absurd (e.symm.trans (show tX3_goesByUp pc = none from zok_cut h)) (by intro q; cases q)
theorem zo_27 : zokR 27 0 48 = true := by decide +kernel
theorem zp_27 : ∀ (pc : Nat) (ai : zI), zT 27 pc = some ai → zokI 27 pc ai = true := by
  intro pc ai e
  rcases Nat.lt_or_ge pc 48 with h | h
  · exact zok_R zo_27 (Nat.zero_le _) (by omega) e
  · exact absurd (e.symm.trans (show tX3_leastBeat pc = none from zok_cut h)) (by intro q; cases q)
theorem zo_28 : zokR 28 0 96 = true := by decide +kernel
theorem zp_28 : ∀ (pc : Nat) (ai : zI), zT 28 pc = some ai → zokI 28 pc ai = true := by
  intro pc ai e
  rcases Nat.lt_or_ge pc 96 with h | h
  · exact zok_R zo_28 (Nat.zero_le _) (by omega) e
  · exact absurd (e.symm.trans (show tX3_shrinks pc = none from zok_cut h)) (by intro q; cases q)
theorem zo_29 : zokR 29 0 161 = true := by decide +kernel
theorem zp_29 : ∀ (pc : Nat) (ai : zI), zT 29 pc = some ai → zokI 29 pc ai = true := by
  intro pc ai e
  rcases Nat.lt_or_ge pc 161 with h | h
  · exact zok_R zo_29 (Nat.zero_le _) (by omega) e
  · exact absurd (e.symm.trans (show tX3_mayGo pc = none from zok_cut h)) (by intro q; cases q)
theorem zo_30 : zokR 30 0 78 = true := by decide +kernel
theorem zp_30 : ∀ (pc : Nat) (ai : zI), zT 30 pc = some ai → zokI 30 pc ai = true := by
  intro pc ai e
  rcases Nat.lt_or_ge pc 78 with h | h
  · exact zok_R zo_30 (Nat.zero_le _) (by omega) e
  · exact absurd (e.symm.trans (show tX3_beatsOf pc = none from zok_cut h)) (by intro q; cases q)
theorem zo_31 : zokR 31 0 49 = true := by decide +kernel
theorem zp_31 : ∀ (pc : Nat) (ai : zI), zT 31 pc = some ai → zokI 31 pc ai = true := by
  intro pc ai e
  rcases Nat.lt_or_ge pc 49 with h | h
  · exact zok_R zo_31 (Nat.zero_le _) (by omega) e
  · exact absurd (e.symm.trans (show tX3_goers pc = none from zok_cut h)) (by intro q; cases q)
theorem zo_32 : zokR 32 0 88 = true := by decide +kernel
theorem zp_32 : ∀ (pc : Nat) (ai : zI), zT 32 pc = some ai → zokI 32 pc ai = true := by
  intro pc ai e
  rcases Nat.lt_or_ge pc 88 with h | h
  · exact zok_R zo_32 (Nat.zero_le _) (by omega) e
  · exact absurd (e.symm.trans (show tX3_priceOf pc = none from zok_cut h)) (by intro q; cases q)
theorem zo_33 : zokR 33 0 101 = true := by decide +kernel
theorem zp_33 : ∀ (pc : Nat) (ai : zI), zT 33 pc = some ai → zokI 33 pc ai = true := by
  intro pc ai e
  rcases Nat.lt_or_ge pc 101 with h | h
  · exact zok_R zo_33 (Nat.zero_le _) (by omega) e
  · exact absurd (e.symm.trans (show tX3_chosen pc = none from zok_cut h)) (by intro q; cases q)
theorem zo_34 : zokR 34 0 66 = true := by decide +kernel
theorem zp_34 : ∀ (pc : Nat) (ai : zI), zT 34 pc = some ai → zokI 34 pc ai = true := by
  intro pc ai e
  rcases Nat.lt_or_ge pc 66 with h | h
  · exact zok_R zo_34 (Nat.zero_le _) (by omega) e
  · exact absurd (e.symm.trans (show tX3_leftBy pc = none from zok_cut h)) (by intro q; cases q)
theorem zo_35 : zokR 35 0 171 = true := by decide +kernel
theorem zp_35 : ∀ (pc : Nat) (ai : zI), zT 35 pc = some ai → zokI 35 pc ai = true := by
  intro pc ai e
  rcases Nat.lt_or_ge pc 171 with h | h
  · exact zok_R zo_35 (Nat.zero_le _) (by omega) e
  · exact absurd (e.symm.trans (show tX3_walk pc = none from zok_cut h)) (by intro q; cases q)
theorem zo_36 : zokR 36 0 23 = true := by decide +kernel
theorem zp_36 : ∀ (pc : Nat) (ai : zI), zT 36 pc = some ai → zokI 36 pc ai = true := by
  intro pc ai e
  rcases Nat.lt_or_ge pc 23 with h | h
  · exact zok_R zo_36 (Nat.zero_le _) (by omega) e
  · exact absurd (e.symm.trans (show tX3_leastEnd pc = none from zok_cut h)) (by intro q; cases q)
theorem zo_37 : zokR 37 0 75 = true := by decide +kernel
theorem zp_37 : ∀ (pc : Nat) (ai : zI), zT 37 pc = some ai → zokI 37 pc ai = true := by
  intro pc ai e
  rcases Nat.lt_or_ge pc 75 with h | h
  · exact zok_R zo_37 (Nat.zero_le _) (by omega) e
  · exact absurd (e.symm.trans (show tX3_host pc = none from zok_cut h)) (by intro q; cases q)
theorem zo_38 : zokR 38 0 152 = true := by decide +kernel
theorem zp_38 : ∀ (pc : Nat) (ai : zI), zT 38 pc = some ai → zokI 38 pc ai = true := by
  intro pc ai e
  rcases Nat.lt_or_ge pc 152 with h | h
  · exact zok_R zo_38 (Nat.zero_le _) (by omega) e
  · exact absurd (e.symm.trans (show tX3_retraction pc = none from zok_cut h)) (by intro q; cases q)
theorem zo_39 : zokR 39 0 45 = true := by decide +kernel
theorem zp_39 : ∀ (pc : Nat) (ai : zI), zT 39 pc = some ai → zokI 39 pc ai = true := by
  intro pc ai e
  rcases Nat.lt_or_ge pc 45 with h | h
  · exact zok_R zo_39 (Nat.zero_le _) (by omega) e
  · exact absurd (e.symm.trans (show tX4_init pc = none from zok_cut h)) (by intro q; cases q)
theorem zo_40 : zokR 40 0 61 = true := by decide +kernel
theorem zp_40 : ∀ (pc : Nat) (ai : zI), zT 40 pc = some ai → zokI 40 pc ai = true := by
  intro pc ai e
  rcases Nat.lt_or_ge pc 61 with h | h
  · exact zok_R zo_40 (Nat.zero_le _) (by omega) e
  · exact absurd (e.symm.trans (show tX4_areSame pc = none from zok_cut h)) (by intro q; cases q)
theorem zo_41 : zokR 41 0 54 = true := by decide +kernel
theorem zp_41 : ∀ (pc : Nat) (ai : zI), zT 41 pc = some ai → zokI 41 pc ai = true := by
  intro pc ai e
  rcases Nat.lt_or_ge pc 54 with h | h
  · exact zok_R zo_41 (Nat.zero_le _) (by omega) e
  · exact absurd (e.symm.trans (show tX4_renumberings pc = none from zok_cut h)) (by intro q; cases q)
theorem zo_42 : zokR 42 0 33 = true := by decide +kernel
theorem zp_42 : ∀ (pc : Nat) (ai : zI), zT 42 pc = some ai → zokI 42 pc ai = true := by
  intro pc ai e
  rcases Nat.lt_or_ge pc 33 with h | h
  · exact zok_R zo_42 (Nat.zero_le _) (by omega) e
  · exact absurd (e.symm.trans (show tX4_wholeMaps pc = none from zok_cut h)) (by intro q; cases q)
theorem zo_43 : zokR 43 0 158 = true := by decide +kernel
theorem zp_43 : ∀ (pc : Nat) (ai : zI), zT 43 pc = some ai → zokI 43 pc ai = true := by
  intro pc ai e
  rcases Nat.lt_or_ge pc 158 with h | h
  · exact zok_R zo_43 (Nat.zero_le _) (by omega) e
  · exact absurd (e.symm.trans (show tX4_choices pc = none from zok_cut h)) (by intro q; cases q)
theorem zo_44 : zokR 44 0 122 = true := by decide +kernel
theorem zp_44 : ∀ (pc : Nat) (ai : zI), zT 44 pc = some ai → zokI 44 pc ai = true := by
  intro pc ai e
  rcases Nat.lt_or_ge pc 122 with h | h
  · exact zok_R zo_44 (Nat.zero_le _) (by omega) e
  · exact absurd (e.symm.trans (show tX4_fill pc = none from zok_cut h)) (by intro q; cases q)
theorem zo_45 : zokR 45 0 39 = true := by decide +kernel
theorem zp_45 : ∀ (pc : Nat) (ai : zI), zT 45 pc = some ai → zokI 45 pc ai = true := by
  intro pc ai e
  rcases Nat.lt_or_ge pc 39 with h | h
  · exact zok_R zo_45 (Nat.zero_le _) (by omega) e
  · exact absurd (e.symm.trans (show tX5_init pc = none from zok_cut h)) (by intro q; cases q)
theorem zo_46 : zokR 46 0 116 = true := by decide +kernel
theorem zp_46 : ∀ (pc : Nat) (ai : zI), zT 46 pc = some ai → zokI 46 pc ai = true := by
  intro pc ai e
  rcases Nat.lt_or_ge pc 116 with h | h
  · exact zok_R zo_46 (Nat.zero_le _) (by omega) e
  · exact absurd (e.symm.trans (show tX5_becomeChains pc = none from zok_cut h)) (by intro q; cases q)
theorem zo_47 : zokR 47 0 106 = true := by decide +kernel
theorem zp_47 : ∀ (pc : Nat) (ai : zI), zT 47 pc = some ai → zokI 47 pc ai = true := by
  intro pc ai e
  rcases Nat.lt_or_ge pc 106 with h | h
  · exact zok_R zo_47 (Nat.zero_le _) (by omega) e
  · exact absurd (e.symm.trans (show tX5_becomeFaces pc = none from zok_cut h)) (by intro q; cases q)
theorem zo_48 : zokR 48 0 37 = true := by decide +kernel
theorem zp_48 : ∀ (pc : Nat) (ai : zI), zT 48 pc = some ai → zokI 48 pc ai = true := by
  intro pc ai e
  rcases Nat.lt_or_ge pc 37 with h | h
  · exact zok_R zo_48 (Nat.zero_le _) (by omega) e
  · exact absurd (e.symm.trans (show tX5_count pc = none from zok_cut h)) (by intro q; cases q)
theorem zo_49 : zokR 49 0 36 = true := by decide +kernel
theorem zp_49 : ∀ (pc : Nat) (ai : zI), zT 49 pc = some ai → zokI 49 pc ai = true := by
  intro pc ai e
  rcases Nat.lt_or_ge pc 36 with h | h
  · exact zok_R zo_49 (Nat.zero_le _) (by omega) e
  · exact absurd (e.symm.trans (show tX5_total pc = none from zok_cut h)) (by intro q; cases q)
theorem zo_50 : zokR 50 0 142 = true := by decide +kernel
theorem zp_50 : ∀ (pc : Nat) (ai : zI), zT 50 pc = some ai → zokI 50 pc ai = true := by
  intro pc ai e
  rcases Nat.lt_or_ge pc 142 with h | h
  · exact zok_R zo_50 (Nat.zero_le _) (by omega) e
  · exact absurd (e.symm.trans (show tX5_fill pc = none from zok_cut h)) (by intro q; cases q)
theorem zo_51 : zokR 51 0 119 = true := by decide +kernel
theorem zp_51 : ∀ (pc : Nat) (ai : zI), zT 51 pc = some ai → zokI 51 pc ai = true := by
  intro pc ai e
  rcases Nat.lt_or_ge pc 119 with h | h
  · exact zok_R zo_51 (Nat.zero_le _) (by omega) e
  · exact absurd (e.symm.trans (show tX5_rank pc = none from zok_cut h)) (by intro q; cases q)
theorem zo_52 : zokR 52 0 47 = true := by decide +kernel
theorem zp_52 : ∀ (pc : Nat) (ai : zI), zT 52 pc = some ai → zokI 52 pc ai = true := by
  intro pc ai e
  rcases Nat.lt_or_ge pc 47 with h | h
  · exact zok_R zo_52 (Nat.zero_le _) (by omega) e
  · exact absurd (e.symm.trans (show tX5_boundary pc = none from zok_cut h)) (by intro q; cases q)
theorem zo_53 : zokR 53 0 61 = true := by decide +kernel
theorem zp_53 : ∀ (pc : Nat) (ai : zI), zT 53 pc = some ai → zokI 53 pc ai = true := by
  intro pc ai e
  rcases Nat.lt_or_ge pc 61 with h | h
  · exact zok_R zo_53 (Nat.zero_le _) (by omega) e
  · exact absurd (e.symm.trans (show tX5_reduced pc = none from zok_cut h)) (by intro q; cases q)
theorem zo_54 : zokR 54 0 23 = true := by decide +kernel
theorem zp_54 : ∀ (pc : Nat) (ai : zI), zT 54 pc = some ai → zokI 54 pc ai = true := by
  intro pc ai e
  rcases Nat.lt_or_ge pc 23 with h | h
  · exact zok_R zo_54 (Nat.zero_le _) (by omega) e
  · exact absurd (e.symm.trans (show tX6_init pc = none from zok_cut h)) (by intro q; cases q)
theorem zo_55 : zokR 55 0 31 = true := by decide +kernel
theorem zp_55 : ∀ (pc : Nat) (ai : zI), zT 55 pc = some ai → zokI 55 pc ai = true := by
  intro pc ai e
  rcases Nat.lt_or_ge pc 31 with h | h
  · exact zok_R zo_55 (Nat.zero_le _) (by omega) e
  · exact absurd (e.symm.trans (show tX6_renew pc = none from zok_cut h)) (by intro q; cases q)
theorem zo_56 : zokR 56 0 32 = true := by decide +kernel
theorem zp_56 : ∀ (pc : Nat) (ai : zI), zT 56 pc = some ai → zokI 56 pc ai = true := by
  intro pc ai e
  rcases Nat.lt_or_ge pc 32 with h | h
  · exact zok_R zo_56 (Nat.zero_le _) (by omega) e
  · exact absurd (e.symm.trans (show tX6_isOutside pc = none from zok_cut h)) (by intro q; cases q)
theorem zo_57 : zokR 57 0 45 = true := by decide +kernel
theorem zp_57 : ∀ (pc : Nat) (ai : zI), zT 57 pc = some ai → zokI 57 pc ai = true := by
  intro pc ai e
  rcases Nat.lt_or_ge pc 45 with h | h
  · exact zok_R zo_57 (Nat.zero_le _) (by omega) e
  · exact absurd (e.symm.trans (show tX6_set pc = none from zok_cut h)) (by intro q; cases q)
theorem zo_58 : zokR 58 0 26 = true := by decide +kernel
theorem zp_58 : ∀ (pc : Nat) (ai : zI), zT 58 pc = some ai → zokI 58 pc ai = true := by
  intro pc ai e
  rcases Nat.lt_or_ge pc 26 with h | h
  · exact zok_R zo_58 (Nat.zero_le _) (by omega) e
  · exact absurd (e.symm.trans (show tX7_init pc = none from zok_cut h)) (by intro q; cases q)
theorem zo_59 : zokR 59 0 9 = true := by decide +kernel
theorem zp_59 : ∀ (pc : Nat) (ai : zI), zT 59 pc = some ai → zokI 59 pc ai = true := by
  intro pc ai e
  rcases Nat.lt_or_ge pc 9 with h | h
  · exact zok_R zo_59 (Nat.zero_le _) (by omega) e
  · exact absurd (e.symm.trans (show tX7_all pc = none from zok_cut h)) (by intro q; cases q)
theorem zo_60 : zokR 60 0 18 = true := by decide +kernel
theorem zp_60 : ∀ (pc : Nat) (ai : zI), zT 60 pc = some ai → zokI 60 pc ai = true := by
  intro pc ai e
  rcases Nat.lt_or_ge pc 18 with h | h
  · exact zok_R zo_60 (Nat.zero_le _) (by omega) e
  · exact absurd (e.symm.trans (show tX7_hasPoint pc = none from zok_cut h)) (by intro q; cases q)
theorem zo_61 : zokR 61 0 17 = true := by decide +kernel
theorem zp_61 : ∀ (pc : Nat) (ai : zI), zT 61 pc = some ai → zokI 61 pc ai = true := by
  intro pc ai e
  rcases Nat.lt_or_ge pc 17 with h | h
  · exact zok_R zo_61 (Nat.zero_le _) (by omega) e
  · exact absurd (e.symm.trans (show tX7_hasSet pc = none from zok_cut h)) (by intro q; cases q)
theorem zo_62 : zokR 62 0 16 = true := by decide +kernel
theorem zp_62 : ∀ (pc : Nat) (ai : zI), zT 62 pc = some ai → zokI 62 pc ai = true := by
  intro pc ai e
  rcases Nat.lt_or_ge pc 16 with h | h
  · exact zok_R zo_62 (Nat.zero_le _) (by omega) e
  · exact absurd (e.symm.trans (show tX7_strictlyBelow pc = none from zok_cut h)) (by intro q; cases q)
theorem zo_63 : zokR 63 0 16 = true := by decide +kernel
theorem zp_63 : ∀ (pc : Nat) (ai : zI), zT 63 pc = some ai → zokI 63 pc ai = true := by
  intro pc ai e
  rcases Nat.lt_or_ge pc 16 with h | h
  · exact zok_R zo_63 (Nat.zero_le _) (by omega) e
  · exact absurd (e.symm.trans (show tX7_strictlyAbove pc = none from zok_cut h)) (by intro q; cases q)
theorem zo_64 : zokR 64 0 37 = true := by decide +kernel
theorem zp_64 : ∀ (pc : Nat) (ai : zI), zT 64 pc = some ai → zokI 64 pc ai = true := by
  intro pc ai e
  rcases Nat.lt_or_ge pc 37 with h | h
  · exact zok_R zo_64 (Nat.zero_le _) (by omega) e
  · exact absurd (e.symm.trans (show tX7_scatter pc = none from zok_cut h)) (by intro q; cases q)
theorem zo_65 : zokR 65 0 49 = true := by decide +kernel
theorem zp_65 : ∀ (pc : Nat) (ai : zI), zT 65 pc = some ai → zokI 65 pc ai = true := by
  intro pc ai e
  rcases Nat.lt_or_ge pc 49 with h | h
  · exact zok_R zo_65 (Nat.zero_le _) (by omega) e
  · exact absurd (e.symm.trans (show tX7_become pc = none from zok_cut h)) (by intro q; cases q)
theorem zo_66 : zokR 66 0 69 = true := by decide +kernel
theorem zp_66 : ∀ (pc : Nat) (ai : zI), zT 66 pc = some ai → zokI 66 pc ai = true := by
  intro pc ai e
  rcases Nat.lt_or_ge pc 69 with h | h
  · exact zok_R zo_66 (Nat.zero_le _) (by omega) e
  · exact absurd (e.symm.trans (show tX7_mirror pc = none from zok_cut h)) (by intro q; cases q)
theorem zo_67 : zokR 67 0 100 = true := by decide +kernel
theorem zp_67 : ∀ (pc : Nat) (ai : zI), zT 67 pc = some ai → zokI 67 pc ai = true := by
  intro pc ai e
  rcases Nat.lt_or_ge pc 100 with h | h
  · exact zok_R zo_67 (Nat.zero_le _) (by omega) e
  · exact absurd (e.symm.trans (show tX7_enclose pc = none from zok_cut h)) (by intro q; cases q)
theorem zo_68 : zokR 68 0 31 = true := by decide +kernel
theorem zp_68 : ∀ (pc : Nat) (ai : zI), zT 68 pc = some ai → zokI 68 pc ai = true := by
  intro pc ai e
  rcases Nat.lt_or_ge pc 31 with h | h
  · exact zok_R zo_68 (Nat.zero_le _) (by omega) e
  · exact absurd (e.symm.trans (show tX7_strictPairs pc = none from zok_cut h)) (by intro q; cases q)
theorem zo_69 : zokR 69 0 65 = true := by decide +kernel
theorem zp_69 : ∀ (pc : Nat) (ai : zI), zT 69 pc = some ai → zokI 69 pc ai = true := by
  intro pc ai e
  rcases Nat.lt_or_ge pc 65 with h | h
  · exact zok_R zo_69 (Nat.zero_le _) (by omega) e
  · exact absurd (e.symm.trans (show tX7_covers pc = none from zok_cut h)) (by intro q; cases q)
theorem zo_70 : zokR 70 0 44 = true := by decide +kernel
theorem zp_70 : ∀ (pc : Nat) (ai : zI), zT 70 pc = some ai → zokI 70 pc ai = true := by
  intro pc ai e
  rcases Nat.lt_or_ge pc 44 with h | h
  · exact zok_R zo_70 (Nat.zero_le _) (by omega) e
  · exact absurd (e.symm.trans (show tX7_lowest pc = none from zok_cut h)) (by intro q; cases q)
theorem zo_71 : zokR 71 0 54 = true := by decide +kernel
theorem zp_71 : ∀ (pc : Nat) (ai : zI), zT 71 pc = some ai → zokI 71 pc ai = true := by
  intro pc ai e
  rcases Nat.lt_or_ge pc 54 with h | h
  · exact zok_R zo_71 (Nat.zero_le _) (by omega) e
  · exact absurd (e.symm.trans (show tX7_height pc = none from zok_cut h)) (by intro q; cases q)
theorem zo_72 : zokR 72 0 30 = true := by decide +kernel
theorem zp_72 : ∀ (pc : Nat) (ai : zI), zT 72 pc = some ai → zokI 72 pc ai = true := by
  intro pc ai e
  rcases Nat.lt_or_ge pc 30 with h | h
  · exact zok_R zo_72 (Nat.zero_le _) (by omega) e
  · exact absurd (e.symm.trans (show tX7_greatestHeight pc = none from zok_cut h)) (by intro q; cases q)
theorem zo_73 : zokR 73 0 44 = true := by decide +kernel
theorem zp_73 : ∀ (pc : Nat) (ai : zI), zT 73 pc = some ai → zokI 73 pc ai = true := by
  intro pc ai e
  rcases Nat.lt_or_ge pc 44 with h | h
  · exact zok_R zo_73 (Nat.zero_le _) (by omega) e
  · exact absurd (e.symm.trans (show tX7_widened pc = none from zok_cut h)) (by intro q; cases q)
theorem zo_74 : zokR 74 0 26 = true := by decide +kernel
