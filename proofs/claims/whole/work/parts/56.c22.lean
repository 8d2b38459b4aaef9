theorem ct_readPairs {d : Nat} {h : zH} {o q ln n p : Nat} {f : Nat → Int32} {B lo : Nat → Nat} (ho2 : 2 ≤ o) (hq2 : 2 ≤ q) (hT : h.2.2 o = .inr (8, [.ref (o + 1), .int (nI ln), .int (nI p)])) (hf : h.2.2 (o + 1) = .inl (2, 100, .inl f)) (hB : ∀ i, i < ln → f i = zS8 (B i) ∧ B i < 256) (hl : ln ≤ 100) (hp : p ≤ ln) (hX : zSq h q n lo) (hP : zPre n lo) (ha : q + 2 < o ∨ o + 1 < q) : zCallP (d + 4) 96 [.ref o, .ref q] h (zRV (.int (nI (b2n (zRp B ln n p lo).1))) (fun h1 => zFr (fun j => j = o ∨ zsS q j) h h1 ∧ h1.2.2 o = .inr (8, [.ref (o + 1), .int (nI ln), .int (nI (zRp B ln n p lo).2.1)]) ∧ zSq h1 q n (zRp B ln n p lo).2.2)) := by
  have hn := hP.1
  have hqo : ¬ zsS q o ∧ ¬ zsS q (o + 1) := by unfold zsS; omega
  have hfr : ∀ {h1 : zH}, zFr (fun j => j = o ∨ zsS q j) h h1 → h1.2.2 (o + 1) = .inl (2, 100, .inl f) := fun hF => hF.eq (by rintro (g | g); omega; exact hqo.2 g) hf
  have hsq : ∀ {h1 : zH} {c : zC} {lo : Nat → Nat}, zSq h1 q n lo → zSq (zset h1 o c) q n lo := fun hS => zSp_ne hS (by omega) (by omega) (by omega)
  generalize hQ : (zRV (.int (nI (b2n (zRp B ln n p lo).1))) (fun h1 => zFr (fun j => j = o ∨ zsS q j) h h1 ∧ h1.2.2 o = .inr (8, [.ref (o + 1), .int (nI ln), .int (nI (zRp B ln n p lo).2.1)]) ∧ zSq h1 q n (zRp B ln n p lo).2.2)) = Q at *
  have k1 := zDge_le (B := B) (lim := n) (bb := 0) hp
  have k2 := zDgv_lt (B := B) (ln := ln) (lim := n) (bb := 0) (p := p)
  have k3 := zSk_le (B := B) k1.2
  generalize hv9 : zDgv B ln n 0 p = v9 at *
  generalize he9 : zDge B ln n 0 p = e9 at *
  refine zG_mP (t := tX8_readPairs) (ls0 := [.ref o, .ref q, .null, .null, .null, .null]) rfl rfl (zdnR (zdnR zdn0)) rfl ?_
  refine zG_s rfl rfl ?_
  refine zG_s rfl rfl ?_
  refine zN_get rfl hX.1 rfl ?_
  refine zG_s rfl rfl ?_
  refine zG_cV1 rfl rfl hT rfl rfl (ct_digitBelow (lim := n) (bb := 0) hT hf hB hl hp (by omega) (by omega)) ?_
  rw [hv9, he9]
  have hF : zFr (fun j => j = o ∨ zsS q j) h (zset h o (.inr (8, [.ref (o + 1), .int (nI ln), .int (nI e9)]))) := zFr.rf.set (Or.inl rfl)
  have hT : (zset h o (.inr (8, [.ref (o + 1), .int (nI ln), .int (nI e9)]))).2.2 o = .inr (8, [.ref (o + 1), .int (nI ln), .int (nI e9)]) := zset_eq _ _ _
  have hX := hsq (c := .inr (8, [.ref (o + 1), .int (nI ln), .int (nI e9)])) hX
  refine zN_st2 rfl (fun _ _ _ => rfl) rfl ?_
  refine zG_s rfl rfl ?_
  refine zN_gebv rfl (by omega) (fun c1 => ?_) (fun c2 => ?_)
  · skip
    obtain ⟨x, hx9⟩ : ∃ x, v9 = x + 1 := ⟨v9 - 1, by omega⟩
    rw [hx9, zbv_s]
    refine zG_s rfl rfl ?_
    refine zG_s rfl rfl ?_
    refine zG_cV1 rfl rfl hT rfl rfl (ct_isNext (ch := 61) hT (hfr hF) hB hl k1.2 (by omega)) ?_
    have hF := hF.set (k := o) (c := .inr (8, [.ref (o + 1), .int (nI ln), .int (nI (zSk B ln e9 + b2n (zIsn B ln e9 61)))])) (Or.inl rfl)
    have hT : (zset (zset h o (.inr (8, [.ref (o + 1), .int (nI ln), .int (nI e9)]))) o (.inr (8, [.ref (o + 1), .int (nI ln), .int (nI (zSk B ln e9 + b2n (zIsn B ln e9 61)))]))).2.2 o = .inr (8, [.ref (o + 1), .int (nI ln), .int (nI (zSk B ln e9 + b2n (zIsn B ln e9 61)))]) := zset_eq _ _ _
    have hX := hsq (c := .inr (8, [.ref (o + 1), .int (nI ln), .int (nI (zSk B ln e9 + b2n (zIsn B ln e9 61)))])) hX
    have k4 := zSk_b (B := B) (c := 61) k1.2
    have k5 := zIsn_lt (B := B) (ln := ln) (p := e9) (c := 61)
    refine zN_st3 rfl (fun _ _ _ => rfl) rfl ?_
    have jn38 : ∀ (h1 : zH) (p1 : Nat), zFr (fun j => j = o ∨ zsS q j) h h1 → h1.2.2 o = .inr (8, [.ref (o + 1), .int (nI ln), .int (nI p1)]) → zSq h1 q n lo → p1 ≤ ln → zRp B ln n p lo = zRy B ln n x (zIsn B ln e9 61) 100 p1 lo → zGoP (d + 3) tX8_readPairs 38 [.ref o, .ref q, .int (nI x), .int (nI (b2n (zIsn B ln e9 61))), .null, .null] [] h1 Q := by
      intro h1 p1 hF hT hX hp hR
      refine zG_s rfl rfl ?_
      refine zN_st4 rfl (fun _ _ _ => rfl) rfl ?_
      have main41 : ∀ i, i ≤ 100 → ∀ (h1 : zH) (p1 : Nat) (lo1 : Nat → Nat) (x5 : Value), zFr (fun j => j = o ∨ zsS q j) h h1 → h1.2.2 o = .inr (8, [.ref (o + 1), .int (nI ln), .int (nI p1)]) → zSq h1 q n lo1 → zPre n lo1 → p1 ≤ ln → zRp B ln n p lo = zRy B ln n x (zIsn B ln e9 61) (100 - i) p1 lo1 → zGoP (d + 3) tX8_readPairs 41 [.ref o, .ref q, .int (nI x), .int (nI (b2n (zIsn B ln e9 61))), .int (nI i), x5] [] h1 Q := by
        refine zdown (100) ?_ (fun i hp41 ih41 => ?_)
        · skip
          intro h1 p1 lo1 x5 hF hT hX hP hp hR
          refine zG_s rfl rfl ?_
          refine zG_s rfl rfl ?_
          refine zN_ige rfl (by omega) (by omega) (fun c3 => ?_) (fun c4 => absurd c4 (by omega))
          refine zG_s rfl rfl ?_
          -- leaf 1
          exact zG_ret rfl rfl (by rw [← hQ, hR]; exact ⟨rfl, hF, hT, hX⟩)
        · skip
          intro h1 p1 lo1 x5 hF hT hX hP hp hR
          rw [show 100 - i = (100 - (i + 1)) + 1 by omega, zRy] at hR
          have k6 := zDge_le (B := B) (lim := n) (bb := x + 1) hp
          have k7 := zDgv_lt (B := B) (ln := ln) (lim := n) (bb := x + 1) (p := p1)
          generalize hw9 : zDgv B ln n (x + 1) p1 = w9 at *
          generalize hg9 : zDge B ln n (x + 1) p1 = g9 at *
          refine zG_s rfl rfl ?_
          refine zG_s rfl rfl ?_
          refine zN_ige rfl (by omega) (by omega) (fun c5 => absurd c5 (by omega)) (fun c6 => ?_)
          refine zG_s rfl rfl ?_
          refine zG_s rfl rfl ?_
          refine zN_get rfl hX.1 rfl ?_
          refine zG_s rfl rfl ?_
          refine zG_cV1 rfl rfl hT rfl rfl (ct_digitBelow (lim := n) (bb := x + 1) hT (hfr hF) hB hl hp (by omega) (by omega)) ?_
          rw [hw9, hg9]
          have hF := hF.set (k := o) (c := .inr (8, [.ref (o + 1), .int (nI ln), .int (nI g9)])) (Or.inl rfl)
          have hT : (zset h1 o (.inr (8, [.ref (o + 1), .int (nI ln), .int (nI g9)]))).2.2 o = .inr (8, [.ref (o + 1), .int (nI ln), .int (nI g9)]) := zset_eq _ _ _
          have hX := hsq (c := .inr (8, [.ref (o + 1), .int (nI ln), .int (nI g9)])) hX
          refine zN_st5 rfl (fun _ _ _ => rfl) rfl ?_
          refine zG_s rfl rfl ?_
          refine zN_gebv rfl (by omega) (fun c7 => ?_) (fun c8 => ?_)
          · skip
            obtain ⟨y, hy9⟩ : ∃ y, w9 = y + 1 := ⟨w9 - 1, by omega⟩
            rw [hy9, zbv_s]
            rw [if_neg (by omega), hy9, Nat.add_sub_cancel] at hR
            refine zG_s rfl rfl ?_
            refine zG_s rfl rfl ?_
            refine zG_s rfl rfl ?_
            refine zG_cQV rfl rfl hX.1 rfl rfl (cs_enclose hq2 hX hP (by omega) (by omega)) (fun h2 hB2 => ?_)
            have hP := hP.nst (x := x) (y := y) (by omega)
            have hF := hF.tr (hB2.1.mono (fun j hj => Or.inr hj))
            have hT := hB2.1.eq hqo.1 hT
            have hX := hB2.2
            refine zG_s rfl rfl ?_
            have jn86 : ∀ (h3 : zH) (lo3 : Nat → Nat), zFr (fun j => j = o ∨ zsS q j) h h3 → h3.2.2 o = .inr (8, [.ref (o + 1), .int (nI ln), .int (nI g9)]) → zSq h3 q n lo3 → zPre n lo3 → lo3 = (if zIsn B ln e9 61 then zNst (zNst lo1 x y) y x else zNst lo1 x y) → zGoP (d + 3) tX8_readPairs 86 [.ref o, .ref q, .int (nI x), .int (nI (b2n (zIsn B ln e9 61))), .int (nI i), .int (nI y)] [] h3 Q := by
              intro h3 lo3 hF hT hX hP h3e
              refine zG_s rfl rfl ?_
              first | refine zN_ifnb rfl (fun c9 => ?_) (fun c10 => ?_) | refine zN_ne0 rfl (by omega) (fun c9 => ?_) (fun c10 => ?_)
              · skip
                refine zG_s rfl rfl ?_
                -- leaf 2
                rw [if_pos c9] at hR h3e
                exact zG_ret rfl rfl (by rw [← hQ, hR, ← h3e]; exact ⟨rfl, hF, hT, hX⟩)
              · skip
                refine zG_s rfl rfl ?_
                refine zG_s rfl rfl ?_
                refine zG_cV1 rfl rfl hT rfl rfl (ct_isNext (ch := 44) hT (hfr hF) hB hl k6.2 (by omega)) ?_
                have hF := hF.set (k := o) (c := .inr (8, [.ref (o + 1), .int (nI ln), .int (nI (zSk B ln g9 + b2n (zIsn B ln g9 44)))])) (Or.inl rfl)
                have hT : (zset h3 o (.inr (8, [.ref (o + 1), .int (nI ln), .int (nI (zSk B ln g9 + b2n (zIsn B ln g9 44)))]))).2.2 o = .inr (8, [.ref (o + 1), .int (nI ln), .int (nI (zSk B ln g9 + b2n (zIsn B ln g9 44)))]) := zset_eq _ _ _
                have hX := hsq (c := .inr (8, [.ref (o + 1), .int (nI ln), .int (nI (zSk B ln g9 + b2n (zIsn B ln g9 44)))])) hX
                have k8 := zSk_b (B := B) (c := 44) k6.2
                first | refine zN_ifnb rfl (fun c11 => ?_) (fun c12 => ?_) | refine zN_ne0 rfl (by omega) (fun c11 => ?_) (fun c12 => ?_)
                · skip
                  refine zN_inc4 rfl rfl ?_
                  refine zG_s rfl rfl ?_
                  -- leaf 3
                  rw [if_neg (by rw [c10]; simp)] at hR h3e
                  rw [if_pos c11, ← h3e] at hR
                  exact ih41 _ (zSk B ln g9 + 1) _ _ hF (by rw [hT, c11]; rfl) hX hP (zIsn_lt c11) hR
                · skip
                  refine zG_s rfl rfl ?_
                  refine zG_s rfl rfl ?_
                  -- leaf 4
                  rw [if_neg (by rw [c10]; simp)] at hR h3e
                  rw [if_neg (by rw [c12]; simp), ← h3e] at hR
                  exact zG_ret rfl rfl (by rw [← hQ, hR]; exact ⟨rfl, hF, (by rw [hT, c12]; rfl), hX⟩)
            refine zG_s rfl rfl ?_
            first | refine zN_ifb rfl (fun c13 => ?_) (fun c14 => ?_) | refine zN_eq0 rfl (by omega) (fun c13 => ?_) (fun c14 => ?_)
            · skip
              -- leaf 5
              exact jn86 _ _ hF hT hX hP (by rw [if_neg (by rw [c13]; simp)])
            · skip
              refine zG_s rfl rfl ?_
              refine zG_s rfl rfl ?_
              refine zG_s rfl rfl ?_
              refine zG_cQV rfl rfl hX.1 rfl rfl (cs_enclose hq2 hX hP (by omega) (by omega)) (fun h3 hB3 => ?_)
              have hP := hP.nst (x := y) (y := x) (by omega)
              have hF := hF.tr (hB3.1.mono (fun j hj => Or.inr hj))
              have hT := hB3.1.eq hqo.1 hT
              have hX := hB3.2
              refine zG_s rfl rfl ?_
              -- leaf 6
              exact jn86 _ _ hF hT hX hP (by rw [if_pos c14])
          · skip
            refine zG_s rfl rfl ?_
            -- leaf 7
            rw [if_pos c8] at hR
            exact zG_ret rfl rfl (by rw [← hQ, hR]; exact ⟨rfl, hF, hT, hX⟩)
      exact main41 0 (by omega) h1 p1 lo _ hF hT hX hP hp hR
    refine zG_s rfl rfl ?_
    first | refine zN_ifnb rfl (fun c15 => ?_) (fun c16 => ?_) | refine zN_ne0 rfl (by omega) (fun c15 => ?_) (fun c16 => ?_)
    · skip
      -- leaf 8
      exact jn38 _ (zSk B ln e9 + 1) hF (by rw [hT, c15]; rfl) hX (k5 c15) (by rw [zRp, hv9, he9, if_neg (by omega), if_pos c15, hx9, Nat.add_sub_cancel, c15])
    · skip
      have e0 : zSk B ln e9 + b2n (zIsn B ln e9 61) = zSk B ln e9 := by rw [c16]; rfl
      rw [e0] at hF hT hX ⊢
      refine zG_s rfl rfl ?_
      refine zG_s rfl rfl ?_
      refine zG_cV1 rfl rfl hT rfl rfl (ct_isNext (ch := 62) hT (hfr hF) hB hl k3.2 (by omega)) ?_
      have hF := hF.set (k := o) (c := .inr (8, [.ref (o + 1), .int (nI ln), .int (nI (zSk B ln (zSk B ln e9) + b2n (zIsn B ln (zSk B ln e9) 62)))])) (Or.inl rfl)
      have hT : (zset (zset (zset h o (.inr (8, [.ref (o + 1), .int (nI ln), .int (nI e9)]))) o (.inr (8, [.ref (o + 1), .int (nI ln), .int (nI (zSk B ln e9))]))) o (.inr (8, [.ref (o + 1), .int (nI ln), .int (nI (zSk B ln (zSk B ln e9) + b2n (zIsn B ln (zSk B ln e9) 62)))]))).2.2 o = .inr (8, [.ref (o + 1), .int (nI ln), .int (nI (zSk B ln (zSk B ln e9) + b2n (zIsn B ln (zSk B ln e9) 62)))]) := zset_eq _ _ _
      have hX := hsq (c := .inr (8, [.ref (o + 1), .int (nI ln), .int (nI (zSk B ln (zSk B ln e9) + b2n (zIsn B ln (zSk B ln e9) 62)))])) hX
      first | refine zN_ifnb rfl (fun c17 => ?_) (fun c18 => ?_) | refine zN_ne0 rfl (by omega) (fun c17 => ?_) (fun c18 => ?_)
      · skip
        -- leaf 9
        exact jn38 _ (zSk B ln (zSk B ln e9) + 1) hF (by rw [hT, c17]; rfl) hX (zIsn_lt c17) (by rw [zRp, hv9, he9, if_neg (by omega), if_neg (by rw [c16]; simp), if_pos c17, hx9, Nat.add_sub_cancel, c16])
      · skip
        refine zG_s rfl rfl ?_
        -- leaf 10
        exact zG_ret rfl rfl (by rw [← hQ, zRp, hv9, he9, if_neg (by omega), if_neg (by rw [c16]; simp), if_neg (by rw [c18]; simp)]; exact ⟨rfl, hF, (by rw [hT, c18]; rfl), hX⟩)
  · skip
    refine zG_s rfl rfl ?_
    -- leaf 11
    exact zG_ret rfl rfl (by rw [← hQ, zRp, hv9, he9, if_pos c2]; exact ⟨rfl, hF, hT, hX⟩)
