def zIcF (n c x y i : Nat) : Nat := if i < x then zDl n c i else if i = x then 1 <<< x ||| zor (zDlf n c x) y else 1 <<< i
theorem zIcF_0 {n c i : Nat} : zIcF n c 0 0 i = zDisc i := by
  unfold zIcF
  rw [if_neg (by omega)]
  split
  · next e => rw [e]; exact Nat.or_zero _
  · rfl
theorem zIcF_n {n c x i : Nat} : zIcF n c x n i = zIcF n c (x + 1) 0 i := by
  unfold zIcF
  by_cases e : i < x
  · rw [if_pos e, if_pos (by omega)]
  · rw [if_neg e]
    by_cases g : i = x
    · subst g
      rw [if_pos rfl, if_pos (by omega)]
      rfl
    · rw [if_neg g, if_neg (by omega)]
      split
      · next e2 => rw [e2]; exact (Nat.or_zero _).symm
      · rfl
theorem zIcF_x {n c x y : Nat} : zIcF n c x (y + 1) x = zIcF n c x y x ||| zDlf n c x y := by
  unfold zIcF
  simp only [Nat.lt_irrefl, if_false, if_true, zor, Nat.or_assoc]
theorem zIcF_i {n c x y i : Nat} (h : i ≠ x) : zIcF n c x (y + 1) i = zIcF n c x y i := by
  unfold zIcF
  rw [if_neg h, if_neg h]
def zIcV (n c x y : Nat) : Bool := !(zDl n c x).testBit y || decide (zan (zDl n c y) (zDl n c x) = 0)
theorem cr_isCode {d r s n c : Nat} {h : zH} {S : zRS} (hr : 2 ≤ r) (hs : s < 10) (hn : n < 6) (hc : c < 2 ^ 20) : zCallP (d + 3) 228 [.ref r, .int (nI n), .int (nI c), .int (nI s)] (zRh h r S) (zRV (.int (nI (b2n (zVal n c)))) (zRX h r S (zRsp s) (fun S1 => zRs S1 s n (zDl n c)))) := by
  refine zG_mP (t := tX10_isCode) (ls0 := [.ref r, .int (nI n), .int (nI c), .int (nI s), .null, .null, .null]) rfl rfl (zdnR (zdnI (zdnI (zdnI zdn0)))) rfl ?_
  refine zG_s rfl rfl ?_
  refine zG_s rfl rfl ?_
  refine zG_s rfl rfl ?_
  refine zG_cQN rfl rfl zRh_o rfl rfl (cr_empties hr hs (by omega)) (fun h1 hB => ?_)
  obtain ⟨S0, rfl, hF0, hS0⟩ := hB
  refine zG_s rfl rfl ?_
  refine zN_st4 rfl (fun _ _ _ => rfl) rfl ?_
  have main9 : ∀ x, x ≤ n → ∀ (S1 : zRS) (x5 : Value), zRF (zRsp s) S S1 → S1.2.1 3 s = nI n → (∀ i, i < n → S1.2.1 1 (8 * s + i) = nI (zIcF n c x 0 i)) → zGoP (d + 2) tX10_isCode 9 [.ref r, .int (nI n), .int (nI c), .int (nI s), .int (nI x), x5, .null] [] (zRh h r S1) (zRV (.int (nI (b2n (zVal n c)))) (zRX h r S (zRsp s) (fun S1 => zRs S1 s n (zDl n c)))) := by
    refine zdown (n) ?_ (fun x hp9 ih9 => ?_)
    · skip
      intro S1 x5 hF1 hN1 hL1
      have hD : ∀ i, i < n → S1.2.1 1 (8 * s + i) = nI (zDl n c i) := fun i hi => by rw [hL1 i hi]; unfold zIcF; rw [if_pos hi]
      refine zG_s rfl rfl ?_
      refine zG_s rfl rfl ?_
      refine zN_ige rfl (by omega) (by omega) (fun c1 => ?_) (fun c2 => absurd c2 (by omega))
      refine zG_s rfl rfl ?_
      refine zN_st4 rfl (fun _ _ _ => rfl) rfl ?_
      refine zG_s rfl rfl ?_
      refine zN_st5 rfl (fun _ _ _ => rfl) rfl ?_
      have main87 : ∀ x, x ≤ n → ∀ x6 : Value, zGoP (d + 2) tX10_isCode 87 [.ref r, .int (nI n), .int (nI c), .int (nI s), .int (nI (b2n (zAl (fun x => zAl (zIcV n c x) n) x))), .int (nI x), x6] [] (zRh h r S1) (zRV (.int (nI (b2n (zVal n c)))) (zRX h r S (zRsp s) (fun S1 => zRs S1 s n (zDl n c)))) := by
        refine zdown (n) ?_ (fun x hp87 ih87 => ?_)
        · skip
          intro x6
          refine zG_s rfl rfl ?_
          refine zG_s rfl rfl ?_
          refine zN_ige rfl (by omega) (by omega) (fun c3 => ?_) (fun c4 => absurd c4 (by omega))
          refine zG_s rfl rfl ?_
          refine zG_s rfl rfl ?_
          refine zG_cQN rfl rfl zRh_o rfl rfl (cr_turns hr hs (by omega) hN1 hD (fun x hx => zDl_lt (by omega) (by omega))) (fun h1 hB => ?_)
          obtain ⟨S3, rfl, hF3, hS3⟩ := hB
          refine zG_s rfl rfl ?_
          -- leaf 1
          exact zG_retb rfl (fun k => by cases k <;> rfl) ⟨rfl, S3, rfl, hF1.tr (hF3.mono (zRrw.sp (Or.inr rfl))), hS3⟩
        · skip
          intro x6
          refine zG_s rfl rfl ?_
          refine zG_s rfl rfl ?_
          refine zN_ige rfl (by omega) (by omega) (fun c5 => absurd c5 (by omega)) (fun c6 => ?_)
          refine zG_s rfl rfl ?_
          refine zN_st6 rfl (fun _ _ _ => rfl) rfl ?_
          have main96 : ∀ y, y ≤ n → zGoP (d + 2) tX10_isCode 96 [.ref r, .int (nI n), .int (nI c), .int (nI s), .int (nI (b2n (zAl (fun x => zAl (zIcV n c x) n) x && zAl (zIcV n c x) y))), .int (nI x), .int (nI y)] [] (zRh h r S1) (zRV (.int (nI (b2n (zVal n c)))) (zRX h r S (zRsp s) (fun S1 => zRs S1 s n (zDl n c)))) := by
            refine zdown (n) ?_ (fun y hp96 ih96 => ?_)
            · skip
              refine zG_s rfl rfl ?_
              refine zG_s rfl rfl ?_
              refine zN_ige rfl (by omega) (by omega) (fun c7 => ?_) (fun c8 => absurd c8 (by omega))
              refine zN_inc5 rfl rfl ?_
              refine zG_s rfl rfl ?_
              -- leaf 2
              exact ih87 _
            · skip
              have hdx := zDl_lt (n := n) (c := c) (x := x) (by omega) (by omega)
              have hdy := zDl_lt (n := n) (c := c) (x := y) (by omega) (by omega)
              have hdz := zan_le (zDl n c y) (zDl n c x)
              refine zG_s rfl rfl ?_
              refine zG_s rfl rfl ?_
              refine zN_ige rfl (by omega) (by omega) (fun c9 => absurd c9 (by omega)) (fun c10 => ?_)
              refine zG_s rfl rfl ?_
              first | refine zN_ifb rfl (fun c11 => ?_) (fun c12 => ?_) | refine zN_eq0 rfl (by omega) (fun c11 => ?_) (fun c12 => ?_)
              · skip
                refine zG_s rfl rfl ?_
                refine zN_st4 rfl (fun _ _ _ => rfl) rfl ?_
                refine zN_inc6 rfl rfl ?_
                refine zG_s rfl rfl ?_
                -- leaf 3
                rw [zAl, ← Bool.and_assoc, c11] at ih96
                exact ih96
              · skip
                refine zG_s rfl rfl ?_
                refine zN_get rfl zRh_o rfl ?_
                refine zG_s rfl rfl ?_
                refine zG_s rfl rfl ?_
                refine zN_mul rfl ?_
                refine zG_s rfl rfl ?_
                refine zN_add rfl ?_
                refine zR_ald (k := 1) (n := 80) rfl rfl (by omega) (hD x (by omega)) ?_
                refine zG_s rfl rfl ?_
                refine zG_cS1 rfl rfl (cr_has _ (by omega) (by omega)) ?_
                first | refine zN_ifb rfl (fun c13 => ?_) (fun c14 => ?_) | refine zN_eq0 rfl (by omega) (fun c13 => ?_) (fun c14 => ?_)
                · skip
                  refine zG_s rfl rfl ?_
                  refine zG_s rfl rfl ?_
                  refine zN_st4 rfl (fun _ _ _ => rfl) rfl ?_
                  refine zN_inc6 rfl rfl ?_
                  refine zG_s rfl rfl ?_
                  -- leaf 4
                  have e : zIcV n c x y = true := by unfold zIcV; rw [c13]; rfl
                  rw [zAl, ← Bool.and_assoc, c12, e] at ih96
                  exact ih96
                · skip
                  refine zG_s rfl rfl ?_
                  refine zN_get rfl zRh_o rfl ?_
                  refine zG_s rfl rfl ?_
                  refine zG_s rfl rfl ?_
                  refine zN_mul rfl ?_
                  refine zG_s rfl rfl ?_
                  refine zN_add rfl ?_
                  refine zR_ald (k := 1) (n := 80) rfl rfl (by omega) (hD y (by omega)) ?_
                  refine zG_s rfl rfl ?_
                  refine zN_get rfl zRh_o rfl ?_
                  refine zG_s rfl rfl ?_
                  refine zG_s rfl rfl ?_
                  refine zN_mul rfl ?_
                  refine zG_s rfl rfl ?_
                  refine zN_add rfl ?_
                  refine zR_ald (k := 1) (n := 80) rfl rfl (by omega) (hD x (by omega)) ?_
                  refine zG_s rfl rfl ?_
                  refine zN_not rfl ?_
                  refine zN_andn rfl ?_
                  first | refine zN_ifnb rfl (fun c15 => ?_) (fun c16 => ?_) | refine zN_ne0 rfl (by omega) (fun c15 => ?_) (fun c16 => ?_)
                  · skip
                    refine zG_s rfl rfl ?_
                    refine zN_st4 rfl (fun _ _ _ => rfl) rfl ?_
                    refine zN_inc6 rfl rfl ?_
                    refine zG_s rfl rfl ?_
                    -- leaf 5
                    have e : zIcV n c x y = false := by unfold zIcV; rw [c14, decide_eq_false (by omega)]; rfl
                    rw [zAl, ← Bool.and_assoc, c12, e] at ih96
                    exact ih96
                  · skip
                    refine zG_s rfl rfl ?_
                    refine zG_s rfl rfl ?_
                    refine zN_st4 rfl (fun _ _ _ => rfl) rfl ?_
                    refine zN_inc6 rfl rfl ?_
                    refine zG_s rfl rfl ?_
                    -- leaf 6
                    have e : zIcV n c x y = true := by unfold zIcV; rw [c14, decide_eq_true c16]; rfl
                    rw [zAl, ← Bool.and_assoc, c12, e] at ih96
                    exact ih96
          have e96 := main96 0 (by omega); rw [show zAl (zIcV n c x) 0 = true from rfl, Bool.and_true] at e96; exact e96
      exact main87 0 (by omega) _
    · skip
      intro S1 x5 hF1 hN1 hL1
      refine zG_s rfl rfl ?_
      refine zG_s rfl rfl ?_
      refine zN_ige rfl (by omega) (by omega) (fun c17 => absurd c17 (by omega)) (fun c18 => ?_)
      refine zG_s rfl rfl ?_
      refine zN_st5 rfl (fun _ _ _ => rfl) rfl ?_
      have main18 : ∀ y, y ≤ n → ∀ S2 : zRS, zRF (zRsp s) S S2 → S2.2.1 3 s = nI n → (∀ i, i < n → S2.2.1 1 (8 * s + i) = nI (zIcF n c x y i)) → zGoP (d + 2) tX10_isCode 18 [.ref r, .int (nI n), .int (nI c), .int (nI s), .int (nI x), .int (nI y), .null] [] (zRh h r S2) (zRV (.int (nI (b2n (zVal n c)))) (zRX h r S (zRsp s) (fun S1 => zRs S1 s n (zDl n c)))) := by
        refine zdown (n) ?_ (fun y hp18 ih18 => ?_)
        · skip
          intro S2 hF2 hN2 hL2
          refine zG_s rfl rfl ?_
          refine zG_s rfl rfl ?_
          refine zN_ige rfl (by omega) (by omega) (fun c19 => ?_) (fun c20 => absurd c20 (by omega))
          refine zN_inc4 rfl rfl ?_
          refine zG_s rfl rfl ?_
          -- leaf 7
          exact ih9 _ _ hF2 hN2 (fun i hi => by rw [← zIcF_n]; exact hL2 i hi)
        · skip
          intro S2 hF2 hN2 hL2
          have step : ∀ w, zDlf n c x y = w → ∀ i, i < n → (zRa S2 1 (8 * s + x) (nI (zIcF n c x y x ||| w))).2.1 1 (8 * s + i) = nI (zIcF n c x (y + 1) i) := fun w e i hi => by
            by_cases g : i = x
            · rw [g, zRa_at, zIcF_x, e]
            · rw [zRa_ne (Or.inr (by omega)), zIcF_i g]
              exact hL2 i hi
          refine zG_s rfl rfl ?_
          refine zG_s rfl rfl ?_
          refine zN_ige rfl (by omega) (by omega) (fun c21 => absurd c21 (by omega)) (fun c22 => ?_)
          refine zG_s rfl rfl ?_
          refine zN_get rfl zRh_o rfl ?_
          refine zG_s rfl rfl ?_
          refine zG_s rfl rfl ?_
          refine zN_mul rfl ?_
          refine zG_s rfl rfl ?_
          refine zN_add rfl ?_
          refine zG_s rfl rfl ?_
          refine zR_ald (k := 1) (n := 80) rfl rfl (by omega) (hL2 x (by omega)) ?_
          refine zG_s rfl rfl ?_
          refine zG_s rfl rfl ?_
          refine zN_ieq rfl (by omega) (by omega) (fun c23 => ?_) (fun c24 => ?_)
          · skip
            refine zG_s rfl rfl ?_
            refine zN_or rfl ?_
            refine zR_ast (k := 1) (n := 80) rfl rfl (by omega) hr ?_
            refine zN_inc5 rfl rfl ?_
            refine zG_s rfl rfl ?_
            -- leaf 8
            exact ih18 _ (hF2.a (Or.inl ⟨Or.inl rfl, by omega, by omega⟩)) ((zRa_ne (Or.inl (by decide))).trans hN2) (step 0 (if_neg (fun g => g.1 (by omega))))
          · skip
            refine zG_s rfl rfl ?_
            refine zG_s rfl rfl ?_
            refine zG_s rfl rfl ?_
            refine zG_s rfl rfl ?_
            have hbo := zBo_lt n hn x (by omega) y (by omega) (by omega)
            have h20 := zn20 n hn
            refine zG_cS1 rfl rfl (cr_bitOf (by omega) (by omega) (by omega) (by omega)) ?_
            refine zG_cS1 rfl rfl (cr_has _ (by omega) (by omega)) ?_
            first | refine zN_ifb rfl (fun c25 => ?_) (fun c26 => ?_) | refine zN_eq0 rfl (by omega) (fun c25 => ?_) (fun c26 => ?_)
            · skip
              refine zG_s rfl rfl ?_
              refine zN_or rfl ?_
              refine zR_ast (k := 1) (n := 80) rfl rfl (by omega) hr ?_
              refine zN_inc5 rfl rfl ?_
              refine zG_s rfl rfl ?_
              -- leaf 9
              exact ih18 _ (hF2.a (Or.inl ⟨Or.inl rfl, by omega, by omega⟩)) ((zRa_ne (Or.inl (by decide))).trans hN2) (step 0 (if_neg (fun g => by rw [g.2] at c25; exact absurd c25 (by decide))))
            · skip
              refine zG_s rfl rfl ?_
              refine zG_s rfl rfl ?_
              refine zN_shl rfl (by omega) ?_
              refine zG_s rfl rfl ?_
              refine zN_or rfl ?_
              refine zR_ast (k := 1) (n := 80) rfl rfl (by omega) hr ?_
              refine zN_inc5 rfl rfl ?_
              refine zG_s rfl rfl ?_
              -- leaf 10
              exact ih18 _ (hF2.a (Or.inl ⟨Or.inl rfl, by omega, by omega⟩)) ((zRa_ne (Or.inl (by decide))).trans hN2) (step _ (if_pos ⟨by omega, by assumption⟩))
      exact main18 0 (by omega) _ hF1 hN1 hL1
  exact main9 0 (by omega) _ _ hF0 hS0.1 (fun i hi => by rw [zIcF_0]; exact (hS0.2.2 i hi).1)
theorem zE9_s {n : Nat} : (1 <<< (n * (if 0 < n then n - 1 else 0)) : Nat) = zE9 n := by
  unfold zE9
  split
  · rfl
  · next h => rw [show n = 0 by omega]
theorem cr_inp {d N : Nat} {h : zH} {v : Int32} (h1 : 1 ≤ N) (h2 : N < 2 ^ 31) : zCall (d + 1) 166 [.int v, .int (nI 0), .int (nI (N - 1))] h (some (.int (nI (b2n (zin v N)))), h) := by
  have e := cr_inc (d := d) (h := h) (v := v) (n := N - 1) (by omega)
  rwa [show N - 1 + 1 = N by omega] at e
theorem zE9_1 {n : Nat} (hn : n < 6) : 1 ≤ zE9 n := by
  unfold zE9
  rw [Nat.one_shiftLeft]
  exact Nat.two_pow_pos _
theorem cr_byCode {d r : Nat} {h : zH} {S : zRS} {s : zST} {a b c : Int32} (hr : 2 ≤ r) (hI : zRI S s) (hW : zWT s) : zCallP (d + 4) 229 [.ref r, .int a, .int b, .int c] (zRh h r S) (zROut h r (zo_byCode s a b c)) := by
  refine zG_mP (t := tX10_byCode) (ls0 := [.ref r, .int a, .int b, .int c, .null]) rfl rfl (zdnR (zdnI (zdnI (zdnI zdn0)))) rfl ?_
  refine zG_s rfl rfl ?_
  refine zG_cS1 rfl rfl cr_isSpace ?_
  refine zN_ifb rfl (fun c1 => ?_) (fun c2 => ?_)
  · skip
    refine zG_s rfl rfl ?_
    -- leaf 1
    exact zG_ret rfl rfl (zRfin (by rw [zo_byCode, zb_no c1]) hI)
  · skip
    obtain ⟨i, hi, rfl⟩ := zin_of c2 (by omega)
    have hS := hI.sp i hi
    have hP := hW.1 i hi
    have hn8 := hP.1
    refine zG_s rfl rfl ?_
    refine zG_s rfl rfl ?_
    refine zG_s rfl rfl ?_
    refine zG_cS1 rfl rfl cr_inc ?_
    refine zN_ifb rfl (fun c3 => ?_) (fun c4 => ?_)
    · skip
      refine zG_s rfl rfl ?_
      -- leaf 2
      exact zG_ret rfl rfl (zRfin (by rw [zo_byCode, zb_i hi (by omega), zb_no c3]) hI)
    · skip
      obtain ⟨n, hn, rfl⟩ := zin_of c4 (by omega)
      have h9 := zE9_b hn
      have h91 := zE9_1 hn
      have h20 := zn20 n hn
      refine zG_s rfl rfl ?_
      refine zG_s rfl rfl ?_
      refine zG_s rfl rfl ?_
      refine zG_s rfl rfl ?_
      refine zG_s rfl rfl ?_
      have jn31 : ∀ (q : Nat), q = n - 1 → zGoP (d + 3) tX10_byCode 31 [.ref r, .int (nI i), .int (nI n), .int c, .null] [.int (nI q), .int (nI n), .int (nI 1), .int (nI 0), .int c] (zRh h r S) (zROut h r (zo_byCode s (nI i) (nI n) c)) := by
        intro q rfl
        refine zN_mul rfl ?_
        refine zN_shl rfl (by omega) ?_
        refine zG_s rfl rfl ?_
        refine zN_sub rfl (show 1 ≤ zE9 n from h91) ?_
        refine zG_cS1 rfl rfl (cr_inp (N := zE9 n) h91 (by omega)) ?_
        refine zN_ifb rfl (fun c5 => ?_) (fun c6 => ?_)
        · skip
          refine zG_s rfl rfl ?_
          -- leaf 3
          exact zG_ret rfl rfl (zRfin (by rw [zo_byCode, zb_i hi (by omega), zb_i hn (by omega), zb_no c5]) hI)
        · skip
          obtain ⟨w, hw, rfl⟩ := zin_of c6 (by omega)
          refine zG_s rfl rfl ?_
          refine zG_s rfl rfl ?_
          refine zG_s rfl rfl ?_
          refine zG_s rfl rfl ?_
          refine zG_cQV rfl rfl zRh_o rfl rfl (cr_isCode hr (by omega) (by omega) (by omega)) (fun h1 hB => ?_)
          obtain ⟨S1, rfl, hF1, hS1⟩ := hB
          have hI := hI.fr hW hF1 (fun k j g => by unfold zRsp at g; unfold zScr; omega)
          have hS := hI.sp i hi
          first | refine zN_ifnb rfl (fun c7 => ?_) (fun c8 => ?_) | refine zN_ne0 rfl (by omega) (fun c7 => ?_) (fun c8 => ?_)
          · skip
            refine zG_s rfl rfl ?_
            refine zN_get rfl zRh_o rfl ?_
            refine zG_s rfl rfl ?_
            refine zR_ald (k := 3) (n := 10) rfl rfl (by omega) hS.1 ?_
            refine zN_st4 rfl (fun _ _ _ => rfl) rfl ?_
            refine zG_s rfl rfl ?_
            refine zG_s rfl rfl ?_
            refine zG_s rfl rfl ?_
            refine zG_cQN rfl rfl zRh_o rfl rfl (cr_copies hr hS1 (by omega) (by omega) (by omega)) (fun h1 hB => ?_)
            obtain ⟨S2, rfl, hF2, hS2⟩ := hB
            have hI := hI.u_sp hi hS2 hW hF2 (fun k j g => Or.inr g)
            refine zG_s rfl rfl ?_
            -- leaf 4
            exact zG_ret rfl rfl (zRfin (by rw [zo_byCode, zb_i hi (by omega), zb_i hn (by omega), zb_i hw (by omega), if_pos (by assumption)]) hI)
          · skip
            refine zG_s rfl rfl ?_
            -- leaf 5
            exact zG_ret rfl rfl (zRfin (by rw [zo_byCode, zb_i hi (by omega), zb_i hn (by omega), zb_i hw (by omega), if_neg (by rw [c8]; decide)]) hI)
      refine zN_le0 rfl (by omega) (fun c9 => ?_) (fun c10 => ?_)
      · skip
        refine zG_s rfl rfl ?_
        -- leaf 6
        exact jn31 _ (by omega)
      · skip
        refine zG_s rfl rfl ?_
        refine zG_s rfl rfl ?_
        refine zN_sub rfl (by omega) ?_
        refine zG_s rfl rfl ?_
        -- leaf 7
        exact jn31 _ rfl
