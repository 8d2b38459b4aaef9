theorem ct_numberings {d : Nat} {h : zH} {n : Nat} (hn : n < 6) : zCall (d + 1) 9 [.int (nI n)] h (some (.int (nI (zFac n))), h) := by
  have hf : ∀ n, n < 7 → zFac n ≤ 720 := by decide
  refine zG_m (t := tX1_numberings) (ls0 := [.int (nI n), .null, .null]) rfl rfl (zdnI zdn0) rfl ?_
  refine zG_s rfl rfl ?_
  refine zN_st1 rfl (fun _ _ _ => rfl) rfl ?_
  refine zG_s rfl rfl ?_
  refine zN_st2 rfl (fun _ _ _ => rfl) rfl ?_
  have main4 : ∀ i, i ≤ max (n + 1) 2 → 2 ≤ i → zGo (d) tX1_numberings 4 [.int (nI n), .int (nI (zFac (i - 1))), .int (nI i)] [] h (some (.int (nI (zFac n))), h) := by
    refine zdown (max (n + 1) 2) ?_ (fun i hp4 ih4 => ?_)
    · skip
      intro hi2
      refine zG_s rfl rfl ?_
      refine zG_s rfl rfl ?_
      refine zN_igt rfl (by omega) (by omega) (fun c1 => ?_) (fun c2 => absurd c2 (by omega))
      refine zG_s rfl rfl ?_
      -- leaf 1
      have e : ∀ n, n < 6 → zFac (max (n + 1) 2 - 1) = zFac n := by decide
      exact zG_ret rfl rfl (by rw [e n hn])
    · skip
      intro hi2
      refine zG_s rfl rfl ?_
      refine zG_s rfl rfl ?_
      refine zN_igt rfl (by omega) (by omega) (fun c3 => absurd c3 (by omega)) (fun c4 => ?_)
      refine zG_s rfl rfl ?_
      refine zG_s rfl rfl ?_
      refine zN_mul rfl ?_
      refine zN_st1 rfl (fun _ _ _ => rfl) rfl ?_
      refine zN_inc2 rfl rfl ?_
      refine zG_s rfl rfl ?_
      -- leaf 2
      have e : zFac (i + 1 - 1) = zFac (i - 1) * i := by
        obtain ⟨j, rfl⟩ : ∃ j, i = j + 1 := ⟨i - 1, by omega⟩
        rw [Nat.add_sub_cancel, Nat.add_sub_cancel, zFac, Nat.mul_comm]
      rw [e] at ih4
      exact ih4 (by omega)
  exact main4 2 (by omega) (Nat.le_refl 2)
theorem ct_number {d : Nat} {h : zH} {o n p : Nat} {ht : Int32} {od il al pl fo : Nat → Int32} {R S P : Nat → Nat → Int32} (ho2 : 2 ≤ o) (hK : zCo0 h o ht od il al pl fo R S P) (hn : n < 6) (hp : p < zFac n) : zCallP (d + 2) 10 [.ref o, .int (nI n), .int (nI p)] h (zRN (fun h1 => zFr (fun j => j = o + 4) h h1 ∧ ∃ od1, zCo0 h1 o ht od1 il al pl fo R S P ∧ ∀ k, k < n → od1 k = nI (zOrd n p k))) := by
  generalize hQ : (zRN (fun h1 => zFr (fun j => j = o + 4) h h1 ∧ ∃ od1, zCo0 h1 o ht od1 il al pl fo R S P ∧ ∀ k, k < n → od1 k = nI (zOrd n p k))) = Q
  have hp9 := (zFac_le n hn).1
  refine zG_mP (t := tX1_number) (ls0 := [.ref o, .int (nI n), .int (nI p), .null, .null, .null, .null, .null]) rfl rfl (zdnR (zdnI (zdnI zdn0))) rfl ?_
  refine zG_s rfl rfl ?_
  refine zG_s rfl rfl ?_
  refine zN_shl (x := 1) rfl (by omega) ?_
  have hsh := zpow_le (show n ≤ 8 by omega)
  refine zG_s rfl rfl ?_
  refine zN_sub (y := 1) rfl (by omega) ?_
  refine zN_st3 rfl (fun _ _ _ => rfl) rfl ?_
  refine zG_s rfl rfl ?_
  refine zN_st4 rfl (fun _ _ _ => rfl) rfl ?_
  refine zG_s rfl rfl ?_
  refine zN_st5 rfl (fun _ _ _ => rfl) rfl ?_
  have main12 : ∀ k, k ≤ n → ∀ (h1 : zH) (od : Nat → Int32) (x6 x7 : Value), zok1 [.ref o, .int (nI n), .int (nI p), .int (nI (zOrS n p k).1), .int (nI (zOrS n p k).2.1), .int (nI k), x6, x7] 7 = true → zFr (fun j => j = o + 4) h h1 → zCo0 h1 o ht od il al pl fo R S P → (∀ j, j < k → od j = nI (zOrd n p j)) → zGoP (d + 1) tX1_number 12 [.ref o, .int (nI n), .int (nI p), .int (nI (zOrS n p k).1), .int (nI (zOrS n p k).2.1), .int (nI k), x6, x7] [] h1 Q := by
    refine zdown (n) ?_ (fun k hp12 ih12 => ?_)
    · skip
      intro h1 od x6 x7 e7 hF hK hod
      refine zG_s rfl rfl ?_
      refine zG_s rfl rfl ?_
      refine zN_ige rfl (by omega) (by omega) (fun c1 => ?_) (fun c2 => absurd c2 (by omega))
      -- leaf 1
      rw [← hQ]
      exact zG_ret rfl rfl ⟨rfl, hF, od, hK, hod⟩
    · skip
      intro h1 od x6 x7 e7 hF hK hod
      obtain ⟨hk1, hk2⟩ := zOrS_ok n hn p hp k hp12
      have hk3 := zOrS_p n p k
      have hk4 := zOrd_at (p := p) hp12
      obtain ⟨hk6, hk7, hk8⟩ := zKth_spec hk1
      generalize hK9 : zKth n (zOrS n p k).1 ((zOrS n p k).2.1 % (n - k)) = K at *
      have hk5 : (zOrS n p k).2.1 % (n - k) < n - k := Nat.mod_lt _ (by omega)
      refine zG_s rfl rfl ?_
      refine zG_s rfl rfl ?_
      refine zN_ige rfl (by omega) (by omega) (fun c3 => absurd c3 (by omega)) (fun c4 => ?_)
      refine zG_s rfl rfl ?_
      refine zG_s rfl rfl ?_
      refine zG_s rfl rfl ?_
      refine zN_sub rfl (by omega) ?_
      refine zN_rem rfl (by omega) (by omega) (by omega) ?_
      refine zN_st6 rfl (fun _ _ _ => rfl) rfl ?_
      refine zG_s rfl rfl ?_
      refine zG_s rfl rfl ?_
      refine zG_s rfl rfl ?_
      refine zN_sub rfl (by omega) ?_
      refine zN_div rfl (by omega) (by omega) (by omega) ?_
      refine zN_st4 rfl (fun _ _ _ => rfl) rfl ?_
      refine zG_s rfl rfl ?_
      refine zN_st7 rfl (fun _ _ _ => rfl) rfl ?_
      have main39 : ∀ x, x ≤ n → ∀ (h1 : zH) (od : Nat → Int32), zFr (fun j => j = o + 4) h h1 → zCo0 h1 o ht od il al pl fo R S P → (∀ j, j < k → od j = nI (zOrd n p j)) → (K < x → od k = nI K) → zGoP (d + 1) tX1_number 39 [.ref o, .int (nI n), .int (nI p), .int (nI (zOrS n p k).1), .int (nI ((zOrS n p k).2.1 / (n - k))), .int (nI k), .int (nI ((zOrS n p k).2.1 % (n - k)) - nI (zct (fun y => (zOrS n p k).1.testBit y) x)), .int (nI x)] [] h1 Q := by
        refine zdown (n) ?_ (fun x hp39 ih39 => ?_)
        · skip
          intro h1 od hF hK hod hodk
          refine zG_s rfl rfl ?_
          refine zG_s rfl rfl ?_
          refine zN_ige rfl (by omega) (by omega) (fun c5 => ?_) (fun c6 => absurd c6 (by omega))
          refine zG_s rfl rfl ?_
          refine zG_s rfl rfl ?_
          refine zG_s rfl rfl ?_
          refine zN_get rfl hK.1 rfl ?_
          refine zG_s rfl rfl ?_
          refine zN_ald rfl hK.2.1 (by omega) (by omega) (hodk (by omega)) ?_
          refine zN_shl rfl (by omega) ?_
          refine zG_s rfl rfl ?_
          refine zN_not rfl ?_
          refine zN_andn rfl ?_
          refine zN_st3 rfl (fun _ _ _ => rfl) rfl ?_
          refine zN_inc5 rfl rfl ?_
          refine zG_s rfl rfl ?_
          -- leaf 2
          have e1 : (zOrS n p (k + 1)).1 = zan (zOrS n p k).1 (1 <<< K) := by rw [← hK9]; rfl
          have e2 : (zOrS n p (k + 1)).2.1 = (zOrS n p k).2.1 / (n - k) := rfl
          rw [e1, e2] at ih12
          exact ih12 _ _ _ _ rfl hF hK (fun j hj => by
            by_cases ej : j = k
            · subst ej; rw [hk4]; exact hodk hk1
            · exact hod j (by omega))
        · skip
          intro h1 od hF hK hod hodk
          have hz1 := zct_le (fun y => (zOrS n p k).1.testBit y) x
          refine zG_s rfl rfl ?_
          refine zG_s rfl rfl ?_
          refine zN_ige rfl (by omega) (by omega) (fun c7 => absurd c7 (by omega)) (fun c8 => ?_)
          refine zG_s rfl rfl ?_
          refine zG_s rfl rfl ?_
          refine zG_cS1 rfl rfl (ct_has _ (by omega) (by omega)) ?_
          first | refine zN_ifb rfl (fun c9 => ?_) (fun c10 => ?_) | refine zN_eq0 rfl (by omega) (fun c9 => ?_) (fun c10 => ?_)
          · skip
            refine zN_inc7 rfl rfl ?_
            refine zG_s rfl rfl ?_
            -- leaf 3
            have e := zct_no (c := fun y => (zOrS n p k).1.testBit y) (n := x) c9
            rw [e] at ih39
            exact ih39 _ _ hF hK hod (fun g => hodk (by
              by_cases ex : K = x
              · rw [ex, c9] at hk6; cases hk6
              · omega))
          · skip
            refine zG_s rfl rfl ?_
            refine zN_if rfl (fun c11 => ?_) (fun c12 => ?_)
            · skip
              refine zG_s (ls' := [.ref o, .int (nI n), .int (nI p), .int (nI (zOrS n p k).1), .int (nI ((zOrS n p k).2.1 / (n - k))), .int (nI k), .int (nI ((zOrS n p k).2.1 % (n - k)) - nI (zct (fun y => (zOrS n p k).1.testBit y) x) + (-1)), .int (nI x)]) rfl rfl ?_
              rw [zsubs]
              refine zN_inc7 rfl rfl ?_
              refine zG_s rfl rfl ?_
              -- leaf 4
              have e := zct_yes (c := fun y => (zOrS n p k).1.testBit y) (n := x) c10
              rw [e] at ih39
              exact ih39 _ _ hF hK hod (fun g => hodk (by
                by_cases ex : K = x
                · exact absurd ((zsubn (by omega) (by omega)).mpr (by rw [← ex, hk7])) (of_decide_eq_true c11)
                · omega))
            · skip
              refine zG_s rfl rfl ?_
              refine zN_get rfl hK.1 rfl ?_
              refine zG_s rfl rfl ?_
              refine zG_s rfl rfl ?_
              refine zN_ast rfl hK.2.1 (by omega) (by omega) (zble_of ho2) ?_
              refine zG_s (ls' := [.ref o, .int (nI n), .int (nI p), .int (nI (zOrS n p k).1), .int (nI ((zOrS n p k).2.1 / (n - k))), .int (nI k), .int (nI ((zOrS n p k).2.1 % (n - k)) - nI (zct (fun y => (zOrS n p k).1.testBit y) x) + (-1)), .int (nI x)]) rfl rfl ?_
              rw [zsubs]
              refine zN_inc7 rfl rfl ?_
              refine zG_s rfl rfl ?_
              -- leaf 5
              have e := zct_yes (c := fun y => (zOrS n p k).1.testBit y) (n := x) c10
              rw [e] at ih39
              have hxs := (zsubn (by omega) (by omega)).mp (Decidable.not_not.mp (of_decide_eq_false c12))
              have hxK := hk8 x hp39 c10 hxs.symm
              exact ih39 _ _ (hF.set rfl) hK.p_od (fun j hj => by rw [upd_ne _ _ (by omega)]; exact hod j hj) (fun g => by rw [upd_at, hxK])
      have hsb : nI ((zOrS n p k).2.1 % (n - k)) = nI ((zOrS n p k).2.1 % (n - k)) - nI (zct (fun y => (zOrS n p k).1.testBit y) 0) := by rw [zct, nI_0, Int32.sub_zero]
      rw [hsb]
      exact main39 0 (by omega) h1 od hF hK hod (fun g => absurd g (by omega))
  exact main12 0 (by omega) h od _ _ rfl zFr.rf hK (fun j hj => absurd hj (by omega))
theorem ct_codeByOrder {d : Nat} {h : zH} {o q n : Nat} {lo hi Q : Nat → Nat} {ht : Int32} {od il al pl fo : Nat → Int32} {R S P : Nat → Nat → Int32} (hK : zCo0 h o ht od il al pl fo R S P) (hS : zSp h q n lo hi) (hO : zOk n lo hi) (hn : n < 6) (hod : ∀ k, k < n → od k = nI (Q k) ∧ Q k < n) : zCall (d + 2) 11 [.ref o, .ref q] h (some (.int (nI (zCode n lo Q))), h) := by
  obtain ⟨s1, al9, ah9, s2, s3, sv⟩ := hS
  unfold zCode
  generalize hF : (fun i => zor (zCdf n lo Q i) n) = F
  have hFx : ∀ i, F i = zor (zCdf n lo Q i) n := fun i => by rw [← hF]
  have hn20 := zn20 n hn
  refine zG_m (t := tX1_codeByOrder) (ls0 := [.ref o, .ref q, .null, .null, .null, .null]) rfl rfl (zdnR (zdnR zdn0)) rfl ?_
  refine zG_s rfl rfl ?_
  refine zN_st2 rfl (fun _ _ _ => rfl) rfl ?_
  refine zG_s rfl rfl ?_
  refine zN_st3 rfl (fun _ _ _ => rfl) rfl ?_
  refine zG_s rfl rfl ?_
  refine zN_st4 rfl (fun _ _ _ => rfl) rfl ?_
  have main7 : ∀ i, i ≤ n → ∀ x5 : Value, zGo (d + 1) tX1_codeByOrder 7 [.ref o, .ref q, .int (nI (zor F i)), .int (nI (zBc n i 0)), .int (nI i), x5] [] h (some (.int (nI (zor F n))), h) := by
    refine zdown (n) ?_ (fun i hp7 ih7 => ?_)
    · skip
      intro x5
      refine zG_s rfl rfl ?_
      refine zG_s rfl rfl ?_
      refine zN_get rfl s1 rfl ?_
      refine zN_ige rfl (by omega) (by omega) (fun c1 => ?_) (fun c2 => absurd c2 (by omega))
      refine zG_s rfl rfl ?_
      -- leaf 1
      exact zG_ret rfl rfl rfl
    · skip
      intro x5
      refine zG_s rfl rfl ?_
      refine zG_s rfl rfl ?_
      refine zN_get rfl s1 rfl ?_
      refine zN_ige rfl (by omega) (by omega) (fun c3 => absurd c3 (by omega)) (fun c4 => ?_)
      refine zG_s rfl rfl ?_
      refine zN_st5 rfl (fun _ _ _ => rfl) rfl ?_
      have main19 : ∀ j, j ≤ n → zGo (d + 1) tX1_codeByOrder 19 [.ref o, .ref q, .int (nI (zor F i ||| zor (zCdf n lo Q i) j)), .int (nI (zBc n i j)), .int (nI i), .int (nI j)] [] h (some (.int (nI (zor F n))), h) := by
        refine zdown (n) ?_ (fun j hp19 ih19 => ?_)
        · skip
          refine zG_s rfl rfl ?_
          refine zG_s rfl rfl ?_
          refine zN_get rfl s1 rfl ?_
          refine zN_ige rfl (by omega) (by omega) (fun c5 => ?_) (fun c6 => absurd c6 (by omega))
          refine zN_inc4 rfl rfl ?_
          refine zG_s rfl rfl ?_
          -- leaf 2
          rw [zor, hFx, ← zBc_n hp7] at ih7
          exact ih7 _
        · skip
          obtain ⟨q1, q2⟩ := hod i hp7
          obtain ⟨q3, q4⟩ := hod j hp19
          have q5 := (hO.2 _ q2).1
          refine zG_s rfl rfl ?_
          refine zG_s rfl rfl ?_
          refine zN_get rfl s1 rfl ?_
          refine zN_ige rfl (by omega) (by omega) (fun c7 => absurd c7 (by omega)) (fun c8 => ?_)
          refine zG_s rfl rfl ?_
          refine zG_s rfl rfl ?_
          refine zN_ieq rfl (by omega) (by omega) (fun c9 => ?_) (fun c10 => ?_)
          · skip
            refine zN_inc5 rfl rfl ?_
            refine zG_s rfl rfl ?_
            -- leaf 3
            have e1 : zCdf n lo Q i j = 0 := if_neg (fun g => g.1 c9)
            have e2 : zBc n i (j + 1) = zBc n i j := by rw [c9]; exact zBc_i
            rw [zor, e1, Nat.or_zero, e2] at ih19
            exact ih19
          · skip
            have jn68 : ∀ w : Nat, w = zCdf n lo Q i j → zGo (d + 1) tX1_codeByOrder 68 [.ref o, .ref q, .int (nI (zor F i ||| zor (zCdf n lo Q i) j)), .int (nI (zBc n i j)), .int (nI i), .int (nI j)] [.int (nI w), .int (nI (zor F i ||| zor (zCdf n lo Q i) j))] h (some (.int (nI (zor F n))), h) := by
              intro w ew
              refine zN_or rfl ?_
              refine zN_st2 rfl (fun _ _ _ => rfl) rfl ?_
              refine zN_inc3 rfl rfl ?_
              refine zN_inc5 rfl rfl ?_
              refine zG_s rfl rfl ?_
              -- leaf 4
              rw [zor, ← ew, ← Nat.or_assoc, zBc_s c10] at ih19
              exact ih19
            refine zG_s rfl rfl ?_
            refine zG_s rfl rfl ?_
            refine zN_get rfl s1 rfl ?_
            refine zG_s rfl rfl ?_
            refine zN_get rfl hK.1 rfl ?_
            refine zG_s rfl rfl ?_
            refine zN_ald rfl hK.2.1 (by omega) (by omega) q1 ?_
            refine zN_ald rfl s2 (by omega) (by omega) (sv _ q2).1 ?_
            refine zG_s rfl rfl ?_
            refine zN_get rfl hK.1 rfl ?_
            refine zG_s rfl rfl ?_
            refine zN_ald rfl hK.2.1 (by omega) (by omega) q3 ?_
            refine zG_cS1 rfl rfl (ct_has _ (by omega) (by omega)) ?_
            first | refine zN_ifb rfl (fun c11 => ?_) (fun c12 => ?_) | refine zN_eq0 rfl (by omega) (fun c11 => ?_) (fun c12 => ?_)
            · skip
              refine zG_s rfl rfl ?_
              -- leaf 5
              exact jn68 0 (if_neg (fun g => by rw [c11] at g; exact absurd g.2 (by simp))).symm
            · skip
              refine zG_s rfl rfl ?_
              have hb9 := zBo_lt n hn i hp7 j hp19 (by omega)
              have hb8 := zBc_b (n := n) (i := i) (j := j) (by omega)
              refine zG_s rfl rfl ?_
              refine zN_shl (x := 1) rfl (by omega) ?_
              refine zG_s rfl rfl ?_
              -- leaf 6
              exact jn68 _ (by rw [zCdf, if_pos ⟨c10, c12⟩, hb8])
      have := main19 0 (by omega)
      rw [zor, Nat.or_zero] at this
      exact this
  have e0 : zBc n 0 0 = 0 := by unfold zBc; simp
  have hm := main7 0 (by omega) .null
  rw [e0] at hm
  exact hm
theorem ct_formOf {d : Nat} {h : zH} {o q n : Nat} {lo hi : Nat → Nat} {ht : Int32} {od il al pl fo : Nat → Int32} {R S P : Nat → Nat → Int32} (ho2 : 2 ≤ o) (hK : zCo0 h o ht od il al pl fo R S P) (hS : zSp h q n lo hi) (hO : zOk n lo hi) (hn : n < 6) (ha : ∀ i, i < 3 → q + i ≠ o ∧ q + i ≠ o + 4) : zCallP (d + 3) 12 [.ref o, .ref q] h (zRV (.int (nI (zFm n lo (zFac n)).1)) (fun h1 => zFr (fun j => j = o ∨ j = o + 4) h h1 ∧ ∃ od1, zCo0 h1 o (nI (zFm n lo (zFac n)).2) od1 il al pl fo R S P)) := by
  generalize hQ : (zRV (.int (nI (zFm n lo (zFac n)).1)) (fun h1 => zFr (fun j => j = o ∨ j = o + 4) h h1 ∧ ∃ od1, zCo0 h1 o (nI (zFm n lo (zFac n)).2) od1 il al pl fo R S P)) = Q
  have hp9 := zFac_le n hn
  have hSf : ∀ h1, zFr (fun j => j = o ∨ j = o + 4) h h1 → zSp h1 q n lo hi := fun h1 hF => zSp.fr hF (by have := ha 0 (by omega); omega) (by have := ha 1 (by omega); omega) (by have := ha 2 (by omega); omega) hS
  refine zG_mP (t := tX1_formOf) (ls0 := [.ref o, .ref q, .null, .null, .null, .null]) rfl rfl (zdnR (zdnR zdn0)) rfl ?_
  refine zG_s rfl rfl ?_
  refine zN_st2 rfl (fun _ _ _ => rfl) rfl ?_
  refine zG_s rfl rfl ?_
  refine zG_s rfl rfl ?_
  refine zN_put (fs' := [.ref (o + 1), .ref (o + 4), .int (nI 0), .ref (o + 5), .ref (o + 6), .ref (o + 7), .ref (o + 8), .ref (o + 9), .ref (o + 15), .ref (o + 21)]) rfl hK.1 rfl rfl rfl ?_
  have hF : zFr (fun j => j = o ∨ j = o + 4) h (zset h o (.inr (1, [.ref (o + 1), .ref (o + 4), .int (nI 0), .ref (o + 5), .ref (o + 6), .ref (o + 7), .ref (o + 8), .ref (o + 9), .ref (o + 15), .ref (o + 21)]))) := zFr.rf.set (Or.inl rfl)
  have hK := hK.p_ht (q := nI 0)
  refine zG_s rfl rfl ?_
  refine zN_get rfl (hSf _ hF).1 rfl ?_
  refine zG_cS1 rfl rfl (ct_numberings hn) ?_
  refine zN_st3 rfl (fun _ _ _ => rfl) rfl ?_
  refine zG_s rfl rfl ?_
  refine zN_st4 rfl (fun _ _ _ => rfl) rfl ?_
  have main18 : ∀ p, p ≤ zFac n → ∀ (h1 : zH) (od : Nat → Int32) (x5 : Value), zFr (fun j => j = o ∨ j = o + 4) h h1 → zCo0 h1 o (nI (zFm n lo p).2) od il al pl fo R S P → zGoP (d + 2) tX1_formOf 18 [.ref o, .ref q, .int (nI (zFm n lo p).1), .int (nI (zFac n)), .int (nI p), x5] [] h1 Q := by
    refine zdown (zFac n) ?_ (fun p hp18 ih18 => ?_)
    · skip
      intro h1 od x5 hF hK
      refine zG_s rfl rfl ?_
      refine zG_s rfl rfl ?_
      refine zN_ige rfl (by omega) (by omega) (fun c1 => ?_) (fun c2 => absurd c2 (by omega))
      refine zG_s rfl rfl ?_
      -- leaf 1
      rw [← hQ]
      exact zG_ret rfl rfl ⟨rfl, hF, od, hK⟩
    · skip
      intro h1 od x5 hF hK
      have b1 := zFm_lt (lo := lo) hn p
      have b2 := zFm_hl (n := n) (lo := lo) p
      refine zG_s rfl rfl ?_
      refine zG_s rfl rfl ?_
      refine zN_ige rfl (by omega) (by omega) (fun c3 => absurd c3 (by omega)) (fun c4 => ?_)
      refine zG_s rfl rfl ?_
      refine zG_s rfl rfl ?_
      refine zN_get rfl (hSf _ hF).1 rfl ?_
      refine zG_s rfl rfl ?_
      refine zG_cQN rfl rfl hK.1 rfl rfl (ct_number ho2 hK hn (by omega)) (fun h2 hB => ?_)
      obtain ⟨hF2, od2, hK, hod⟩ := hB
      have hF := hF.tr (hF2.mono (fun j hj => Or.inr hj))
      refine zG_s rfl rfl ?_
      refine zG_s rfl rfl ?_
      refine zG_cV1 rfl rfl hK.1 rfl rfl (ct_codeByOrder (Q := zOrd n p) hK (hSf _ hF) hO hn (fun k hk => ⟨hod k hk, zOrd_lt hn hp18 hk⟩)) ?_
      have b3 := zCode_lt (n := n) (lo := lo) (Q := zOrd n p) hn
      generalize hcc : zCode n lo (zOrd n p) = cc at *
      refine zN_st5 rfl (fun _ _ _ => rfl) rfl ?_
      have jn60 : ∀ (h3 : zH) (l hh : Nat), zFr (fun j => j = o ∨ j = o + 4) h h3 → zCo0 h3 o (nI hh) od2 il al pl fo R S P → l < 2 ^ 20 → (l, hh + b2n (decide (cc = l))) = zFm n lo (p + 1) → zGoP (d + 2) tX1_formOf 60 [.ref o, .ref q, .int (nI l), .int (nI (zFac n)), .int (nI p), .int (nI cc)] [] h3 Q := by
        intro h3 l hh hF hK hl el
        refine zG_s rfl rfl ?_
        refine zG_s rfl rfl ?_
        refine zN_get rfl hK.1 rfl ?_
        have jn76 : ∀ w : Nat, w = b2n (decide (cc = l)) → zGoP (d + 2) tX1_formOf 76 [.ref o, .ref q, .int (nI l), .int (nI (zFac n)), .int (nI p), .int (nI cc)] [.int (nI w), .int (nI hh), .ref o] h3 Q := by
          intro w ew
          refine zN_add rfl ?_
          refine zN_put (fs' := [.ref (o + 1), .ref (o + 4), .int (nI (hh + w)), .ref (o + 5), .ref (o + 6), .ref (o + 7), .ref (o + 8), .ref (o + 9), .ref (o + 15), .ref (o + 21)]) rfl hK.1 rfl rfl rfl ?_
          have hF := hF.set (k := o) (c := .inr (1, [.ref (o + 1), .ref (o + 4), .int (nI (hh + w)), .ref (o + 5), .ref (o + 6), .ref (o + 7), .ref (o + 8), .ref (o + 9), .ref (o + 15), .ref (o + 21)])) (Or.inl rfl)
          have hK := hK.p_ht (q := nI (hh + w))
          refine zN_inc4 rfl rfl ?_
          refine zG_s rfl rfl ?_
          -- leaf 2
          subst ew
          rw [← el] at ih18
          exact ih18 _ _ _ hF hK
        refine zG_s rfl rfl ?_
        refine zG_s rfl rfl ?_
        refine zN_ine rfl (by omega) (by omega) (fun c5 => ?_) (fun c6 => ?_)
        · skip
          refine zG_s rfl rfl ?_
          -- leaf 3
          exact jn76 0 (by rw [decide_eq_false c5]; rfl)
        · skip
          refine zG_s rfl rfl ?_
          refine zG_s rfl rfl ?_
          -- leaf 4
          exact jn76 1 (by rw [decide_eq_true c6]; rfl)
      refine zG_s rfl rfl ?_
      first | refine zN_ifb rfl (fun c7 => ?_) (fun c8 => ?_) | refine zN_eq0 rfl (by omega) (fun c7 => ?_) (fun c8 => ?_)
      · skip
        refine zG_s rfl rfl ?_
        refine zN_st2 rfl (fun _ _ _ => rfl) rfl ?_
        refine zG_s rfl rfl ?_
        refine zG_s rfl rfl ?_
        refine zN_put (fs' := [.ref (o + 1), .ref (o + 4), .int (nI 0), .ref (o + 5), .ref (o + 6), .ref (o + 7), .ref (o + 8), .ref (o + 9), .ref (o + 15), .ref (o + 21)]) rfl hK.1 rfl rfl rfl ?_
        have hF := hF.set (k := o) (c := .inr (1, [.ref (o + 1), .ref (o + 4), .int (nI 0), .ref (o + 5), .ref (o + 6), .ref (o + 7), .ref (o + 8), .ref (o + 9), .ref (o + 15), .ref (o + 21)])) (Or.inl rfl)
        have hK := hK.p_ht (q := nI 0)
        -- leaf 5
        exact jn60 _ cc 0 hF hK b3 (by rw [zFm_y (Or.inl c7), hcc, decide_eq_true rfl]; rfl)
      · skip
        refine zG_s rfl rfl ?_
        refine zG_s rfl rfl ?_
        refine zN_ige rfl (by omega) (by omega) (fun c9 => ?_) (fun c10 => ?_)
        · skip
          -- leaf 6
          exact jn60 _ _ _ hF hK b1 (by rw [zFm_n (by rw [hcc]; omega), hcc])
        · skip
          refine zG_s rfl rfl ?_
          refine zN_st2 rfl (fun _ _ _ => rfl) rfl ?_
          refine zG_s rfl rfl ?_
          refine zG_s rfl rfl ?_
          refine zN_put (fs' := [.ref (o + 1), .ref (o + 4), .int (nI 0), .ref (o + 5), .ref (o + 6), .ref (o + 7), .ref (o + 8), .ref (o + 9), .ref (o + 15), .ref (o + 21)]) rfl hK.1 rfl rfl rfl ?_
          have hF := hF.set (k := o) (c := .inr (1, [.ref (o + 1), .ref (o + 4), .int (nI 0), .ref (o + 5), .ref (o + 6), .ref (o + 7), .ref (o + 8), .ref (o + 9), .ref (o + 15), .ref (o + 21)])) (Or.inl rfl)
          have hK := hK.p_ht (q := nI 0)
          -- leaf 7
          exact jn60 _ cc 0 hF hK b3 (by rw [zFm_y (Or.inr (by rw [hcc]; exact c10)), hcc, decide_eq_true rfl]; rfl)
  exact main18 0 (by omega) _ od _ hF hK
theorem ct_becomeCoded {d : Nat} {h : zH} {o m n c : Nat} {fl fh : Nat → Int32} (ho2 : 2 ≤ o) (hn : n < 6) (hc : c < 1 <<< (n * (n - 1))) : zCall (d + 3) 88 [.ref o, .int (nI n), .int (nI c)] (zeh h o m fl fh) (some (.int (nI (b2n (zVal n c)))), zeh h o n (zcut (fun x => nI (zDl n c x)) fl n) (zcut (fun y => nI (zTr n (zDl n c) y)) fh n)) := by
  generalize hF : (fun x => nI (zDl n c x)) = F
  have hFx : ∀ x, F x = nI (zDl n c x) := fun x => by rw [← hF]
  generalize hR : (fun y => nI (zTr n (zDl n c) y)) = F2
  have hk := zn20 n hn
  have hc30 : c < 2 ^ 20 := Nat.lt_of_lt_of_le hc (by rw [Nat.one_shiftLeft]; exact Nat.pow_le_pow_right (by decide) hk)
  have hb9 : ∀ x, x < n → zDl n c x < 256 := fun x hx => zDl_lt (by omega) (by omega)
  have hv9 : ∀ x, x < n → zcut F fl n x = nI (zDl n c x) := fun x hx => (zcut_lt hx).trans (hFx x)
  refine zG_m (t := tX7_becomeCoded) (ls0 := [.ref o, .int (nI n), .int (nI c), .null, .null, .null]) rfl rfl (zdnR (zdnI (zdnI zdn0))) rfl ?_
  refine zG_s rfl rfl ?_
  refine zN_lt0 rfl (by omega) ?_
  refine zG_s rfl rfl ?_
  refine zG_s rfl rfl ?_
  refine zG_s rfl rfl ?_
  refine zG_s rfl rfl ?_
  refine zG_s rfl rfl ?_
  refine zG_s rfl rfl ?_
  show zGo (d + 2) _ 10 _ [.int (nI n * (nI n - nI 1)), _] _ _
  rw [zn1 n (by omega)]
  refine zN_shr rfl (by omega) (by omega) ?_
  rw [Nat.shiftRight_eq_div_pow, Nat.div_eq_of_lt (by rw [← Nat.one_shiftLeft]; exact hc)]
  refine zN_eq0 rfl (by omega) (fun c3 => ?_) (fun q => absurd q (by omega))
  refine zG_s rfl rfl ?_
  refine zG_s rfl rfl ?_
  refine zN_psz rfl ?_
  refine zG_s rfl rfl ?_
  refine zN_st3 rfl (fun _ _ _ => rfl) rfl ?_
  refine zG_s rfl rfl ?_
  refine zN_st4 rfl (fun _ _ _ => rfl) rfl ?_
  have main26 : ∀ x, x ≤ n → ∀ x5 : Value, zGo (d + 2) tX7_becomeCoded 26 [.ref o, .int (nI n), .int (nI c), .int (nI (zBc n x 0)), .int (nI x), x5] [] (zeh h o n (zcut F fl x) fh) (some (.int (nI (b2n (zVal n c)))), zeh h o n (zcut F fl n) (zcut F2 fh n)) := by
    refine zdown (n) ?_ (fun x hp26 ih26 => ?_)
    · skip
      intro x5
      refine zG_s rfl rfl ?_
      refine zG_s rfl rfl ?_
      refine zN_ige rfl (by omega) (by omega) (fun c5 => ?_) (fun c6 => absurd c6 (by omega))
      refine zG_s rfl rfl ?_
      refine zG_cV0 rfl rfl zeh_o rfl rfl (ct_mirror ho2 (by omega) hb9 hv9) ?_
      refine zG_s rfl rfl ?_
      refine zG_cV1 rfl rfl zeh_o rfl rfl (ct_isNested (R9 := zVal n c) zeh_o zeh_l (by omega) hb9 hv9 (fun g => zVal_y g) (fun x hx y hy g1 g2 => zVal_n hx hy g1 g2)) ?_
      -- leaf 1
      rw [← hR]
      exact zG_retb rfl (fun k => by cases k <;> rfl) rfl
    · skip
      intro x5
      refine zG_s rfl rfl ?_
      refine zG_s rfl rfl ?_
      refine zN_ige rfl (by omega) (by omega) (fun c7 => absurd c7 (by omega)) (fun c8 => ?_)
      refine zG_s rfl rfl ?_
      refine zN_get rfl (by first | exact zeh_o | assumption) rfl ?_
      refine zG_s rfl rfl ?_
      refine zG_s rfl rfl ?_
      refine zG_s rfl rfl ?_
      refine zN_shl (x := 1) rfl (by omega) ?_
      refine zN_plo rfl (by omega) ho2 ?_
      refine zG_s rfl rfl ?_
      refine zN_st5 rfl (fun _ _ _ => rfl) rfl ?_
      have main46 : ∀ y, y ≤ n → zGo (d + 2) tX7_becomeCoded 46 [.ref o, .int (nI n), .int (nI c), .int (nI (zBc n x y)), .int (nI x), .int (nI y)] [] (zeh h o n (upd (zcut F fl x) x (nI (1 <<< x ||| zor (zDlf n c x) y))) fh) (some (.int (nI (b2n (zVal n c)))), zeh h o n (zcut F fl n) (zcut F2 fh n)) := by
        refine zdown (n) ?_ (fun y hp46 ih46 => ?_)
        · skip
          refine zG_s rfl rfl ?_
          refine zG_s rfl rfl ?_
          refine zN_ige rfl (by omega) (by omega) (fun c9 => ?_) (fun c10 => absurd c10 (by omega))
          refine zN_inc4 rfl rfl ?_
          refine zG_s rfl rfl ?_
          -- leaf 2
          rw [zcut_up (by rw [hFx, zDl]), zBc_n hp26]
          exact ih26 _
        · skip
          refine zG_s rfl rfl ?_
          refine zG_s rfl rfl ?_
          refine zN_ige rfl (by omega) (by omega) (fun c11 => absurd c11 (by omega)) (fun c12 => ?_)
          refine zG_s rfl rfl ?_
          refine zG_s rfl rfl ?_
          refine zN_ieq rfl (by omega) (by omega) (fun c13 => ?_) (fun c14 => ?_)
          · skip
            refine zN_inc5 rfl rfl ?_
            refine zG_s rfl rfl ?_
            -- leaf 3
            have e1 : zDlf n c x y = 0 := if_neg (fun g => g.1 c13)
            have e2 : zBc n x (y + 1) = zBc n x y := by rw [c13]; exact zBc_i
            rw [zor, e1, Nat.or_zero, e2] at ih46
            exact ih46
          · skip
            refine zG_s rfl rfl ?_
            refine zN_get rfl (by first | exact zeh_o | assumption) rfl ?_
            refine zG_s rfl rfl ?_
            refine zG_s rfl rfl ?_
            have hb8 := zBo_lt n hn x hp26 y hp46 (by omega)
            have hb7 := zBc_b (n := n) (i := x) (j := y) (by omega)
            refine zN_ald rfl zeh_l (by omega) (by omega) (upd_at _ _ _) ?_
            have jn83 : ∀ w : Nat, w = zDlf n c x y → zGo (d + 2) tX7_becomeCoded 83 [.ref o, .int (nI n), .int (nI c), .int (nI (zBc n x y)), .int (nI x), .int (nI y)] [.int (nI w), .int (nI (1 <<< x ||| zor (zDlf n c x) y)), .int (nI x), .ref (o + 1)] (zeh h o n (upd (zcut F fl x) x (nI (1 <<< x ||| zor (zDlf n c x) y))) fh) (some (.int (nI (b2n (zVal n c)))), zeh h o n (zcut F fl n) (zcut F2 fh n)) := by
              intro w ew
              refine zN_or rfl ?_
              refine zN_plo rfl (by omega) ho2 ?_
              rw [upd_upd]
              refine zN_inc3 rfl rfl ?_
              refine zN_inc5 rfl rfl ?_
              refine zG_s rfl rfl ?_
              -- leaf 4
              rw [zor, ← ew, ← Nat.or_assoc, zBc_s c14] at ih46
              exact ih46
            refine zG_s rfl rfl ?_
            refine zG_s rfl rfl ?_
            refine zG_cS1 rfl rfl (ct_has _ (by omega) (by omega)) ?_
            first | refine zN_ifb rfl (fun c15 => ?_) (fun c16 => ?_) | refine zN_eq0 rfl (by omega) (fun c15 => ?_) (fun c16 => ?_)
            · skip
              refine zG_s rfl rfl ?_
              -- leaf 5
              exact jn83 0 (if_neg (fun g => by rw [← hb7, c15] at g; exact absurd g.2 (by simp))).symm
            · skip
              refine zG_s rfl rfl ?_
              refine zG_s rfl rfl ?_
              refine zN_shl (x := 1) rfl (by omega) ?_
              refine zG_s rfl rfl ?_
              -- leaf 6
              exact jn83 _ (by rw [zDlf, if_pos ⟨c14, by rw [← hb7]; exact c16⟩])
      have hm := main46 0 (by omega)
      rw [zor, Nat.or_zero] at hm
      exact hm
  have hm := main26 0 (by omega) .null
  rw [zcut_0, show zBc n 0 0 = 0 from by unfold zBc; simp] at hm
  exact hm
theorem cp_becomeCoded {d : Nat} {h : zH} {o m n c : Nat} {l0 h0 : Nat → Nat} (ho2 : 2 ≤ o) (hn : n < 6) (hc : c < 1 <<< (n * (n - 1))) (hX : zSp h o m l0 h0) : zCallP (d + 3) 88 [.ref o, .int (nI n), .int (nI c)] h (zRV (.int (nI (b2n (zVal n c)))) (fun h1 => zFr (zsS o) h h1 ∧ zSp h1 o n (zDl n c) (zTr n (zDl n c)))) := by
  obtain ⟨fl, fh, hx, -⟩ := hX.x
  have hc := ct_becomeCoded (d := d) (h := h) (m := m) (fl := fl) (fh := fh) ho2 hn hc
  rw [hx.w] at hc
  exact hc.rv ⟨zeh_fr, zeh_x.sp (fun p hp => by rw [zcut_lt hp, zcut_lt hp]; exact ⟨rfl, rfl⟩)⟩
