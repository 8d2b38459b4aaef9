def zhvc (c : Nat) : Nat := if c = 0 then 0 else if c ≤ 6 then 1 else 2
def zwhc (c : Nat) : Nat := if c ≤ 6 then c - 1 else c - 11
theorem zhv_22 {S : zRS} {s : zST} {i : Nat} (hI : zRI S s) (hW : zWT s) (hi : i < 4) : S.2.1 22 i = nI (zhvc (s.2.2.2.2.2.1 i).1) := by
  have h1 := hI.hv i hi
  have h2 := hW.2.2.2.2.1 i hi
  unfold zhvc
  by_cases e : (s.2.2.2.2.2.1 i).1 = 0
  · rw [if_pos e]; exact h1.1 e
  · rw [if_neg e]
    by_cases e2 : (s.2.2.2.2.2.1 i).1 ≤ 6
    · rw [if_pos e2]; exact (h1.2.1 (by omega) e2).1
    · rw [if_neg e2]; exact (h1.2.2 (by omega)).1
theorem zhv_23 {S : zRS} {s : zST} {i : Nat} (hI : zRI S s) (hW : zWT s) (hi : i < 4) (h0 : (s.2.2.2.2.2.1 i).1 ≠ 0) : S.2.1 23 i = nI (zwhc (s.2.2.2.2.2.1 i).1) := by
  have h1 := hI.hv i hi
  have h2 := hW.2.2.2.2.1 i hi
  unfold zwhc
  by_cases e2 : (s.2.2.2.2.2.1 i).1 ≤ 6
  · rw [if_pos e2]; exact (h1.2.1 (by omega) e2).2
  · rw [if_neg e2]; exact (h1.2.2 (by omega)).2.1
theorem zhvc_0 {c : Nat} : zhvc c = 0 ↔ c = 0 := by unfold zhvc; split <;> (try split) <;> omega
theorem zhvc_1 {c : Nat} : zhvc c = 1 ↔ 1 ≤ c ∧ c ≤ 6 := by unfold zhvc; split <;> (try split) <;> omega
theorem zhvc_2 {c : Nat} : zhvc c = 2 ↔ 7 ≤ c := by unfold zhvc; split <;> (try split) <;> omega
theorem zhvc_l {c : Nat} : zhvc c < 3 := by unfold zhvc; split <;> (try split) <;> omega
theorem cr_above {d : Nat} {h : zH} {k : Nat} (hk : k < 6) : zCall (d + 1) 278 [.int (nI k)] h (some (.int (nI (zAbv k))), h) := by
  refine zG_m (t := tX10_above) (ls0 := [.int (nI k)]) rfl rfl (zdnI zdn0) rfl ?_
  refine zG_s rfl rfl ?_
  refine zG_s rfl rfl ?_
  refine zN_ine rfl (by omega) (by omega) (fun c1 => ?_) (fun c2 => ?_)
  · skip
    refine zG_s rfl rfl ?_
    refine zG_s rfl rfl ?_
    refine zN_ine rfl (by omega) (by omega) (fun c3 => ?_) (fun c4 => ?_)
    · skip
      refine zG_s rfl rfl ?_
      refine zG_s rfl rfl ?_
      refine zN_ine rfl (by omega) (by omega) (fun c5 => ?_) (fun c6 => ?_)
      · skip
        refine zG_s rfl rfl ?_
        -- leaf 1
        exact zG_ret rfl rfl (by rw [zAbv, if_neg c1, if_neg c3, if_neg c5])
      · skip
        refine zG_s rfl rfl ?_
        refine zG_s rfl rfl ?_
        -- leaf 2
        exact zG_ret rfl rfl (by rw [zAbv, if_neg c1, if_neg c3, if_pos c6])
    · skip
      refine zG_s rfl rfl ?_
      refine zG_s rfl rfl ?_
      -- leaf 3
      exact zG_ret rfl rfl (by rw [zAbv, if_neg c1, if_pos c4])
  · skip
    refine zG_s rfl rfl ?_
    refine zG_s rfl rfl ?_
    -- leaf 4
    exact zG_ret rfl rfl (by rw [zAbv, if_pos c2])
theorem zUnd_s : ∀ w, w < 6 → ∀ k, k < 6 → w ≠ k → w ≠ 0 → zUnd w k = zUnd (zAbv w) k ∧ zAbv w < w := by decide +kernel
theorem zUnd_me : ∀ k, k < 6 → zUnd k k = true := by decide +kernel
theorem zUnd_0 : ∀ k, k < 6 → zUnd 0 k = decide (0 = k) := by decide +kernel
theorem cr_takenL {d r k w0 : Nat} {h : zH} {x1 : Value} {R : zR → Prop} (hk : k < 6) (K : ∀ e, e < 6 → zUnd w0 k = decide (e = k) → zGoP (d + 1) tX10_taken 106 [.ref r, x1, .int (nI k), .int (nI e)] [] h R) : ∀ n w, w < n → w < 6 → zUnd w k = zUnd w0 k → zGoP (d + 1) tX10_taken 89 [.ref r, x1, .int (nI k), .int (nI w)] [] h R
  | 0, w, hn, _, _ => absurd hn (Nat.not_lt_zero w)
  | n + 1, w, hn, hw, hu => by
    refine zG_s rfl rfl ?_
    refine zG_s rfl rfl ?_
    refine zN_ieq rfl (by omega) (by omega) (fun c1 => ?_) (fun c1 => ?_)
    · exact K w hw (by rw [← hu, c1, zUnd_me k hk]; exact (decide_eq_true rfl).symm)
    · refine zG_s rfl rfl ?_
      refine zN_eq0 rfl (by omega) (fun c2 => ?_) (fun c2 => ?_)
      · exact K w hw (by rw [← hu, c2, zUnd_0 k hk])
      · obtain ⟨e1, e2⟩ := zUnd_s w hw k hk c1 (by omega)
        refine zG_s rfl rfl ?_
        refine zG_cS1 rfl rfl (cr_above hw) ?_
        refine zN_st3 rfl (fun _ _ _ => rfl) rfl ?_
        refine zG_s rfl rfl ?_
        exact cr_takenL hk K n (zAbv w) (by omega) (by omega) (by rw [← e1]; exact hu)
theorem cr_taken6 {d r k : Nat} {h : zH} {S : zRS} {s : zST} {a : Int32} (hr : 2 ≤ r) (hI : zRI S s) (hW : zWT s) (hk : k < 6) : zCallP (d + 3) 279 [.ref r, .int a, .int (nI k)] (zRh h r S) (zROut h r (zo_taken s a (nI k))) := by
  refine zG_mP (t := tX10_taken) (ls0 := [.ref r, .int a, .int (nI k), .null]) rfl rfl (zdnR (zdnI (zdnI zdn0))) rfl ?_
  refine zG_s rfl rfl ?_
  refine zG_cS1 rfl rfl cr_isSheet ?_
  refine zN_ifb rfl (fun c1 => ?_) (fun c2 => ?_)
  · skip
    refine zG_s rfl rfl ?_
    -- leaf 1
    exact zG_ret rfl rfl (zRfin (by rw [zo_taken, zb_no c1]) hI)
  · skip
    obtain ⟨i, hi, rfl⟩ := zin_of c2 (by omega)
    have hc := hW.2.2.2.2.1 i hi
    have hrs : zo_taken s (nI i) (nI k) = (zTkn (s.2.2.2.2.2.1 i).1 (s.2.2.2.2.2.1 i).2 k, s) := by rw [zo_taken, zb_i hi (by omega), zb_i (show k < 13 by omega) (by omega), if_neg (by omega)]
    have h22 := zhv_22 hI hW hi
    have h23 := zhv_23 hI hW hi
    generalize (s.2.2.2.2.2.1 i).1 = cV at *
    generalize (s.2.2.2.2.2.1 i).2 = lV at *
    have hl3 := @zhvc_l cV
    refine zG_s rfl rfl ?_
    refine zG_s rfl rfl ?_
    refine zG_s rfl rfl ?_
    refine zG_cS1 rfl rfl cr_inc ?_
    refine zN_ifnb rfl (fun c3 => ?_) (fun q => by rw [zin_n (show k < 5 + 1 by omega) (by decide)] at q; cases q)
    refine zG_s rfl rfl ?_
    refine zN_get rfl zRh_o rfl ?_
    refine zG_s rfl rfl ?_
    refine zR_ald (k := 22) (n := 4) rfl rfl (by omega) h22 ?_
    refine zN_ne0 rfl (by omega) (fun c5 => ?_) (fun c6 => ?_)
    · skip
      refine zG_s rfl rfl ?_
      refine zG_s rfl rfl ?_
      refine zN_ilt (y := 10) rfl (by omega) (by omega) (fun c7 => ?_) (fun q => absurd q (by omega))
      refine zG_s rfl rfl ?_
      refine zN_get rfl zRh_o rfl ?_
      refine zG_s rfl rfl ?_
      have hc0 : cV ≠ 0 := fun g => by rw [zhvc_0.mpr g] at c5; omega
      have hw6 : zwhc cV < 6 := by unfold zwhc; split <;> omega
      refine zR_ald (k := 23) (n := 4) rfl rfl (by omega) (h23 hc0) ?_
      refine zN_st3 rfl (fun _ _ _ => rfl) rfl ?_
      refine cr_takenL (w0 := zwhc cV) hk (fun e he hu => ?_) 6 (zwhc cV) hw6 hw6 rfl
      refine zG_s rfl rfl ?_
      refine zN_get rfl zRh_o rfl ?_
      refine zG_s rfl rfl ?_
      refine zR_ald (k := 22) (n := 4) rfl rfl (by omega) h22 ?_
      refine zG_s rfl rfl ?_
      refine zN_ine (y := 1) rfl (by omega) (by omega) (fun c9 => ?_) (fun c10 => ?_)
      · skip
        refine zG_s rfl rfl ?_
        -- leaf 2
        exact zG_ret rfl rfl (zRfin (hrs.trans (by rw [zTkn, if_neg hc0, if_neg (by omega), if_neg (fun g => c9 (zhvc_1.mpr ⟨by omega, g.1⟩))])) hI)
      · skip
        refine zG_s rfl rfl ?_
        refine zG_s rfl rfl ?_
        refine zN_ine rfl (by omega) (by omega) (fun c11 => ?_) (fun c12 => ?_)
        · skip
          refine zG_s rfl rfl ?_
          -- leaf 3
          have g1 := zhvc_1.mp c10
          have hu2 : zUnd (cV - 1) k = decide (e = k) := by rw [← hu]; unfold zwhc; rw [if_pos g1.2]
          exact zG_ret rfl rfl (zRfin (hrs.trans (by rw [zTkn, if_neg hc0, if_neg (by omega), if_neg (fun g => c11 (of_decide_eq_true (hu2.symm.trans g.2)))])) hI)
        · skip
          refine zG_s rfl rfl ?_
          refine zN_get rfl zRh_o rfl ?_
          refine zG_s rfl rfl ?_
          refine zR_ald (k := 23) (n := 4) rfl rfl (by omega) (h23 hc0) ?_
          refine zG_s rfl rfl ?_
          -- leaf 4
          have g1 := zhvc_1.mp c10
          have hu2 : zUnd (cV - 1) k = decide (e = k) := by rw [← hu]; unfold zwhc; rw [if_pos g1.2]
          exact zG_ret rfl rfl (zRfin (hrs.trans (by rw [zTkn, if_neg hc0, if_neg (by omega), if_pos ⟨g1.2, hu2.trans (decide_eq_true c12)⟩]; unfold zwhc; rw [if_pos g1.2])) hI)
    · skip
      refine zG_s rfl rfl ?_
      -- leaf 5
      exact zG_ret rfl rfl (zRfin (hrs.trans (by rw [zTkn, if_pos (zhvc_0.mp c6)])) hI)
theorem zbt_10 : ∀ k, k < 13 → zbt (nI k) (nI 10) (nI 12) = decide (10 ≤ k) := by decide +kernel
theorem cr_taken10 {d r k : Nat} {h : zH} {S : zRS} {s : zST} {a : Int32} (hr : 2 ≤ r) (hI : zRI S s) (hW : zWT s) (hk : k < 13) (hk2 : 10 ≤ k) : zCallP (d + 3) 279 [.ref r, .int a, .int (nI k)] (zRh h r S) (zROut h r (zo_taken s a (nI k))) := by
  refine zG_mP (t := tX10_taken) (ls0 := [.ref r, .int a, .int (nI k), .null]) rfl rfl (zdnR (zdnI (zdnI zdn0))) rfl ?_
  refine zG_s rfl rfl ?_
  refine zG_cS1 rfl rfl cr_isSheet ?_
  refine zN_ifb rfl (fun c1 => ?_) (fun c2 => ?_)
  · skip
    refine zG_s rfl rfl ?_
    -- leaf 1
    exact zG_ret rfl rfl (zRfin (by rw [zo_taken, zb_no c1]) hI)
  · skip
    obtain ⟨i, hi, rfl⟩ := zin_of c2 (by omega)
    have hc := hW.2.2.2.2.1 i hi
    have hrs : zo_taken s (nI i) (nI k) = (zTkn (s.2.2.2.2.2.1 i).1 (s.2.2.2.2.2.1 i).2 k, s) := by rw [zo_taken, zb_i hi (by omega), zb_i (show k < 13 by omega) (by omega), if_neg (by omega)]
    have h22 := zhv_22 hI hW hi
    have h23 := zhv_23 hI hW hi
    have h24 := fun g => ((hI.hv i hi).2.2 g).2.2
    generalize (s.2.2.2.2.2.1 i).1 = cV at *
    generalize (s.2.2.2.2.2.1 i).2 = lV at *
    have hl3 := @zhvc_l cV
    have hw6 : zwhc cV < 14 := by unfold zwhc; split <;> omega
    refine zG_s rfl rfl ?_
    refine zG_s rfl rfl ?_
    refine zG_s rfl rfl ?_
    refine zG_cS1 rfl rfl cr_inc ?_
    refine zN_ifnb rfl (fun q => by rw [zin_d (by omega) (by decide)] at q; exact absurd (of_decide_eq_true q) (by omega)) (fun c4 => ?_)
    refine zG_s rfl rfl ?_
    refine zG_s rfl rfl ?_
    refine zG_s rfl rfl ?_
    refine zG_cS1 rfl rfl cr_in ?_
    refine zN_ifnb rfl (fun c5 => ?_) (fun q => by rw [zbt_10 k hk] at q; exact absurd hk2 (of_decide_eq_false q))
    refine zG_s rfl rfl ?_
    refine zN_get rfl zRh_o rfl ?_
    refine zG_s rfl rfl ?_
    refine zR_ald (k := 22) (n := 4) rfl rfl (by omega) h22 ?_
    refine zN_ne0 rfl (by omega) (fun c7 => ?_) (fun c8 => ?_)
    · skip
      refine zG_s rfl rfl ?_
      refine zG_s rfl rfl ?_
      refine zN_ilt (y := 10) rfl (by omega) (by omega) (fun q => absurd q (by omega)) (fun c10 => ?_)
      refine zG_s rfl rfl ?_
      refine zN_get rfl zRh_o rfl ?_
      refine zG_s rfl rfl ?_
      refine zR_ald (k := 22) (n := 4) rfl rfl (by omega) h22 ?_
      refine zG_s rfl rfl ?_
      refine zN_ine (y := 2) rfl (by omega) (by omega) (fun c11 => ?_) (fun c12 => ?_)
      · skip
        refine zG_s rfl rfl ?_
        -- leaf 2
        have h0 : cV ≠ 0 := fun g => by rw [zhvc_0.mpr g] at c7; omega
        have h7 : ¬ 7 ≤ cV := fun g => c11 (zhvc_2.mpr g)
        exact zG_ret rfl rfl (zRfin (hrs.trans (by rw [zTkn, if_neg h0, if_pos hk2, if_neg (by omega)])) hI)
      · skip
        refine zG_s rfl rfl ?_
        refine zN_get rfl zRh_o rfl ?_
        refine zG_s rfl rfl ?_
        refine zR_ald (k := 23) (n := 4) rfl rfl (by omega) (h23 (fun g => by rw [zhvc_0.mpr g] at c7; omega)) ?_
        refine zG_s rfl rfl ?_
        refine zG_s rfl rfl ?_
        refine zN_sub rfl (by omega) ?_
        refine zN_ine rfl (by omega) (by omega) (fun c13 => ?_) (fun c14 => ?_)
        · skip
          refine zG_s rfl rfl ?_
          -- leaf 3
          have h7 := zhvc_2.mp c12
          have e : zwhc cV = cV - 11 := if_neg (by omega)
          rw [e] at c13
          exact zG_ret rfl rfl (zRfin (hrs.trans (by rw [zTkn, if_neg (by omega), if_pos hk2, if_neg (by omega)])) hI)
        · skip
          refine zG_s rfl rfl ?_
          refine zN_get rfl zRh_o rfl ?_
          refine zG_s rfl rfl ?_
          refine zR_ald (k := 24) (n := 4) rfl rfl (by omega) (h24 (by have := zhvc_2.mp c12; omega)) ?_
          refine zG_s rfl rfl ?_
          -- leaf 4
          have h7 := zhvc_2.mp c12
          have e : zwhc cV = cV - 11 := if_neg (by omega)
          rw [e] at c14
          exact zG_ret rfl rfl (zRfin (hrs.trans (by rw [zTkn, if_neg (by omega), if_pos hk2, if_pos (by omega)])) hI)
    · skip
      refine zG_s rfl rfl ?_
      -- leaf 5
      exact zG_ret rfl rfl (zRfin (hrs.trans (by rw [zTkn, if_pos (zhvc_0.mp c8)])) hI)
theorem cr_takenX {d r : Nat} {h : zH} {S : zRS} {s : zST} {a b : Int32} (hr : 2 ≤ r) (hI : zRI S s) (hW : zWT s) (h6 : zin b 6 = false) (h10 : zbt b (nI 10) (nI 12) = false) (hz : ∀ i, i < 4 → zo_taken s (nI i) b = (-1, s)) : zCallP (d + 3) 279 [.ref r, .int a, .int b] (zRh h r S) (zROut h r (zo_taken s a b)) := by
  refine zG_mP (t := tX10_taken) (ls0 := [.ref r, .int a, .int b, .null]) rfl rfl (zdnR (zdnI (zdnI zdn0))) rfl ?_
  refine zG_s rfl rfl ?_
  refine zG_cS1 rfl rfl cr_isSheet ?_
  refine zN_ifb rfl (fun c1 => ?_) (fun c2 => ?_)
  · skip
    refine zG_s rfl rfl ?_
    -- leaf 1
    exact zG_ret rfl rfl (zRfin (by rw [zo_taken, zb_no c1]) hI)
  · skip
    obtain ⟨i, hi, rfl⟩ := zin_of c2 (by omega)
    refine zG_s rfl rfl ?_
    refine zG_s rfl rfl ?_
    refine zG_s rfl rfl ?_
    refine zG_cS1 rfl rfl cr_inc ?_
    refine zN_ifnb rfl (fun q => by rw [h6] at q; cases q) (fun c4 => ?_)
    refine zG_s rfl rfl ?_
    refine zG_s rfl rfl ?_
    refine zG_s rfl rfl ?_
    refine zG_cS1 rfl rfl cr_in ?_
    refine zN_ifnb rfl (fun q => by rw [h10] at q; cases q) (fun c6 => ?_)
    refine zG_s rfl rfl ?_
    -- leaf 2
    exact zG_ret rfl rfl (zRfin (hz i hi) hI)
theorem cr_taken {d r : Nat} {h : zH} {S : zRS} {s : zST} {a b : Int32} (hr : 2 ≤ r) (hI : zRI S s) (hW : zWT s) : zCallP (d + 3) 279 [.ref r, .int a, .int b] (zRh h r S) (zROut h r (zo_taken s a b)) := by
  cases q : zin b 13 with
  | false =>
    refine cr_takenX hr hI hW ?_ ?_ (fun i hi => by rw [zo_taken, zb_i hi (by omega), zb_no q])
    · cases q6 : zin b 6 with
      | false => rfl
      | true =>
        obtain ⟨j, hj, rfl⟩ := zin_of q6 (by decide)
        rw [zin_n (by omega) (by decide)] at q
        cases q
    · cases q6 : zbt b (nI 10) (nI 12) with
      | false => rfl
      | true =>
        unfold zbt at q6
        simp only [Bool.and_eq_true, Bool.not_eq_true'] at q6
        rw [zb12 q6.1 q6.2] at q
        cases q
  | true =>
    obtain ⟨k, hk, rfl⟩ := zin_of q (by decide)
    by_cases h6 : k < 6
    · exact cr_taken6 hr hI hW h6
    · by_cases h10 : 10 ≤ k
      · exact cr_taken10 hr hI hW hk h10
      · refine cr_takenX hr hI hW ?_ ?_ (fun i hi => by rw [zo_taken, zb_i hi (by omega), zb_i hk (by omega), if_pos ⟨by omega, by omega⟩])
        · rw [zin_d (by omega) (by decide)]; exact decide_eq_false h6
        · rw [zbt_10 k hk]; exact decide_eq_false h10
