theorem ct_read {d : Nat} {h : zH} {o q ln m0 p0 : Nat} {f : Nat → Int32} {B l0 h0 : Nat → Nat} (ho2 : 2 ≤ o) (hq2 : 2 ≤ q) (hT : h.2.2 o = .inr (8, [.ref (o + 1), .int (nI ln), .int (nI p0)])) (hf : h.2.2 (o + 1) = .inl (2, 100, .inl f)) (hB : ∀ i, i < ln → f i = zS8 (B i) ∧ B i < 256) (hl : ln ≤ 100) (hX : zSp h q m0 l0 h0) (ha : q + 2 < o ∨ o + 1 < q) : zCallP (d + 5) 95 [.ref o, .ref q] h (zRV (.int (nI (b2n (zRead B ln).1))) (fun h1 => zFr (fun j => j = o ∨ zsS q j) h h1 ∧ h1.2.2 o = .inr (8, [.ref (o + 1), .int (nI ln), .int (nI (zRead B ln).2.1)]) ∧ (∃ m l9 h9, zSp h1 q m l9 h9) ∧ ((zRead B ln).1 = true → zSq h1 q (zRead B ln).2.2.1 (zRead B ln).2.2.2))) := by
  have hqo : ¬ zsS q o ∧ ¬ zsS q (o + 1) := by unfold zsS; omega
  have hfr : ∀ {h1 : zH}, zFr (fun j => j = o ∨ zsS q j) h h1 → h1.2.2 (o + 1) = .inl (2, 100, .inl f) := fun hF => hF.eq (by rintro (g | g); omega; exact hqo.2 g) hf
  have hsq : ∀ {h1 : zH} {c : zC} {n : Nat} {lo hi : Nat → Nat}, zSp h1 q n lo hi → zSp (zset h1 o c) q n lo hi := fun hS => zSp_ne hS (by omega) (by omega) (by omega)
  generalize hQ : (zRV (.int (nI (b2n (zRead B ln).1))) (fun h1 => zFr (fun j => j = o ∨ zsS q j) h h1 ∧ h1.2.2 o = .inr (8, [.ref (o + 1), .int (nI ln), .int (nI (zRead B ln).2.1)]) ∧ (∃ m l9 h9, zSp h1 q m l9 h9) ∧ ((zRead B ln).1 = true → zSq h1 q (zRead B ln).2.2.1 (zRead B ln).2.2.2))) = Q at *
  have k1 := zDge_le (B := B) (ln := ln) (lim := 9) (bb := 0) (p := 0) (Nat.zero_le _)
  have k2 := zDgv_lt (B := B) (ln := ln) (lim := 9) (bb := 0) (p := 0)
  generalize hv9 : zDgv B ln 9 0 0 = v9 at *
  generalize he9 : zDge B ln 9 0 0 = e9 at *
  refine zG_mP (t := tX8_read) (ls0 := [.ref o, .ref q, .null, .null]) rfl rfl (zdnR (zdnR zdn0)) rfl ?_
  refine zG_s rfl rfl ?_
  refine zG_s rfl rfl ?_
  refine zN_put (fs' := [.ref (o + 1), .int (nI ln), .int (nI 0)]) rfl hT rfl rfl rfl ?_
  have hF : zFr (fun j => j = o ∨ zsS q j) h (zset h o (.inr (8, [.ref (o + 1), .int (nI ln), .int (nI 0)]))) := zFr.rf.set (Or.inl rfl)
  have hT : (zset h o (.inr (8, [.ref (o + 1), .int (nI ln), .int (nI 0)]))).2.2 o = .inr (8, [.ref (o + 1), .int (nI ln), .int (nI 0)]) := zset_eq _ _ _
  have hX := hsq (c := .inr (8, [.ref (o + 1), .int (nI ln), .int (nI 0)])) hX
  refine zG_s rfl rfl ?_
  refine zG_s rfl rfl ?_
  refine zG_s rfl rfl ?_
  refine zG_cV1 rfl rfl hT rfl rfl (ct_digitBelow (lim := 9) (bb := 0) hT (hfr hF) hB hl (Nat.zero_le _) (by omega) (by omega)) ?_
  rw [hv9, he9]
  have hF := hF.set (k := o) (c := .inr (8, [.ref (o + 1), .int (nI ln), .int (nI e9)])) (Or.inl rfl)
  have hT : (zset (zset h o (.inr (8, [.ref (o + 1), .int (nI ln), .int (nI 0)]))) o (.inr (8, [.ref (o + 1), .int (nI ln), .int (nI e9)]))).2.2 o = .inr (8, [.ref (o + 1), .int (nI ln), .int (nI e9)]) := zset_eq _ _ _
  have hX := hsq (c := .inr (8, [.ref (o + 1), .int (nI ln), .int (nI e9)])) hX
  refine zN_st2 rfl (fun _ _ _ => rfl) rfl ?_
  refine zG_s rfl rfl ?_
  refine zN_gebv rfl (by omega) (fun c1 => ?_) (fun c2 => ?_)
  · skip
    obtain ⟨n, hn9⟩ : ∃ n, v9 = n + 1 := ⟨v9 - 1, by omega⟩
    rw [hn9, zbv_s]
    refine zG_s rfl rfl ?_
    refine zG_s rfl rfl ?_
    refine zG_cQN rfl rfl hX.1 rfl rfl (cs_scatter hq2 hX (by omega)) (fun h2 hB2 => ?_)
    have hF := hF.tr (hB2.1.mono (fun j hj => Or.inr hj))
    have hT := hB2.1.eq hqo.1 hT
    have hX := hB2.2
    have hP := zPre_disc (show n ≤ 8 by omega)
    have hZ : ∀ {h1 : zH} {w : Bool} {p : Nat} {lo : Nat → Nat}, zFr (fun j => j = o ∨ zsS q j) h h1 → h1.2.2 o = .inr (8, [.ref (o + 1), .int (nI ln), .int (nI p)]) → zSq h1 q n lo → zRd B ln n 100 e9 zDisc = (w, p, lo) → Q (some (.int (nI (b2n w))), h1) := fun {h1 w p lo} hF hT hX hR => by
      have e : zRead B ln = (w, p, n, lo) := by rw [zRead, hv9, he9, if_neg (by omega), hn9, Nat.add_sub_cancel, hR]
      rw [← hQ, e]
      exact ⟨rfl, hF, hT, ⟨_, _, _, hX⟩, fun _ => hX⟩
    generalize hRD : zRd B ln n 100 e9 zDisc = RD at *
    refine zG_s rfl rfl ?_
    refine zN_st3 rfl (fun _ _ _ => rfl) rfl ?_
    have main26 : ∀ i, i ≤ 100 → ∀ (h1 : zH) (p1 : Nat) (lo1 : Nat → Nat), zFr (fun j => j = o ∨ zsS q j) h h1 → h1.2.2 o = .inr (8, [.ref (o + 1), .int (nI ln), .int (nI p1)]) → zSq h1 q n lo1 → zPre n lo1 → p1 ≤ ln → RD = zRd B ln n (100 - i) p1 lo1 → zGoP (d + 4) tX8_read 26 [.ref o, .ref q, .int (nI n), .int (nI i)] [] h1 Q := by
      refine zdown (100) ?_ (fun i hp26 ih26 => ?_)
      · skip
        intro h1 p1 lo1 hF hT hX hP hp hR
        refine zG_s rfl rfl ?_
        refine zG_s rfl rfl ?_
        refine zN_ige rfl (by omega) (by omega) (fun c3 => ?_) (fun c4 => absurd c4 (by omega))
        refine zG_s rfl rfl ?_
        -- leaf 1
        exact zG_ret rfl rfl (hZ (w := true) hF hT hX hR)
      · skip
        intro h1 p1 lo1 hF hT hX hP hp hR
        rw [show 100 - i = (100 - (i + 1)) + 1 by omega, zRd] at hR
        have k6 := zSk_le (B := B) hp
        have k7 := zSk_b (B := B) (ln := ln) (c := 59) (p := zSk B ln p1) k6.2
        refine zG_s rfl rfl ?_
        refine zG_s rfl rfl ?_
        refine zN_ige rfl (by omega) (by omega) (fun c5 => absurd c5 (by omega)) (fun c6 => ?_)
        refine zG_s rfl rfl ?_
        refine zG_cV1 rfl rfl hT rfl rfl (ct_next hT (hfr hF) hB hl hp) ?_
        have hF := hF.set (k := o) (c := .inr (8, [.ref (o + 1), .int (nI ln), .int (nI (zSk B ln p1))])) (Or.inl rfl)
        have hT : (zset h1 o (.inr (8, [.ref (o + 1), .int (nI ln), .int (nI (zSk B ln p1))]))).2.2 o = .inr (8, [.ref (o + 1), .int (nI ln), .int (nI (zSk B ln p1))]) := zset_eq _ _ _
        have hX := hsq (c := .inr (8, [.ref (o + 1), .int (nI ln), .int (nI (zSk B ln p1))])) hX
        refine zN_if rfl (fun c7 => ?_) (fun c8 => ?_)
        · skip
          refine zG_s rfl rfl ?_
          -- leaf 2
          have e : zSk B ln p1 = ln := by
            rw [zAt8_lt (fun i hi => (hB i hi).2)] at c7
            have c7 := of_decide_eq_false (by simpa using c7 : decide (zSk B ln p1 < ln) = false)
            omega
          rw [if_pos e] at hR
          exact zG_ret rfl rfl (hZ (w := true) hF hT hX hR)
        · skip
          have hne : ¬ zSk B ln p1 = ln := by
            rw [zAt8_lt (fun i hi => (hB i hi).2)] at c8
            intro e
            rw [e, decide_eq_false (Nat.lt_irrefl ln)] at c8
            cases c8
          refine zG_s rfl rfl ?_
          refine zG_s rfl rfl ?_
          refine zG_cV1 rfl rfl hT rfl rfl (ct_isNext (ch := 59) hT (hfr hF) hB hl k6.2 (by omega)) ?_
          have hF := hF.set (k := o) (c := .inr (8, [.ref (o + 1), .int (nI ln), .int (nI (zSk B ln (zSk B ln p1) + b2n (zIsn B ln (zSk B ln p1) 59)))])) (Or.inl rfl)
          have hT : (zset (zset h1 o (.inr (8, [.ref (o + 1), .int (nI ln), .int (nI (zSk B ln p1))]))) o (.inr (8, [.ref (o + 1), .int (nI ln), .int (nI (zSk B ln (zSk B ln p1) + b2n (zIsn B ln (zSk B ln p1) 59)))]))).2.2 o = .inr (8, [.ref (o + 1), .int (nI ln), .int (nI (zSk B ln (zSk B ln p1) + b2n (zIsn B ln (zSk B ln p1) 59)))]) := zset_eq _ _ _
          have hX := hsq (c := .inr (8, [.ref (o + 1), .int (nI ln), .int (nI (zSk B ln (zSk B ln p1) + b2n (zIsn B ln (zSk B ln p1) 59)))])) hX
          first | refine zN_ifb rfl (fun c9 => ?_) (fun c10 => ?_) | refine zN_eq0 rfl (by omega) (fun c9 => ?_) (fun c10 => ?_)
          · skip
            refine zG_s rfl rfl ?_
            -- leaf 3
            rw [if_neg hne, if_neg (by rw [c9]; simp)] at hR
            exact zG_ret rfl rfl (hZ (w := false) hF (by rw [hT, c9]; rfl) hX hR)
          · skip
            refine zG_s rfl rfl ?_
            refine zG_s rfl rfl ?_
            refine zG_cQV rfl rfl hT rfl rfl (ct_readPairs (p := zSk B ln (zSk B ln p1) + 1) ho2 hq2 (by rw [hT, c10]; rfl) (hfr hF) hB hl (zIsn_lt c10) hX hP ha) (fun h5 hB5 => ?_)
            obtain ⟨hF5, hT, hX⟩ := hB5
            have hF := hF.tr hF5
            have hok := zRp_ok (B := B) (zIsn_lt c10) hP
            rw [if_neg hne, if_pos c10] at hR
            first | refine zN_ifnb rfl (fun c11 => ?_) (fun c12 => ?_) | refine zN_ne0 rfl (by omega) (fun c11 => ?_) (fun c12 => ?_)
            · skip
              refine zN_inc3 rfl rfl ?_
              refine zG_s rfl rfl ?_
              -- leaf 4
              rw [if_pos c11] at hR
              exact ih26 _ _ _ hF hT hX hok.2 hok.1 hR
            · skip
              refine zG_s rfl rfl ?_
              -- leaf 5
              rw [if_neg (by rw [c12]; simp)] at hR
              exact zG_ret rfl rfl (hZ (w := false) hF hT hX (hR.trans (by rw [← c12])))
    exact main26 0 (by omega) h2 e9 zDisc hF hT hX hP k1.2 hRD.symm
  · skip
    refine zG_s rfl rfl ?_
    -- leaf 6
    have e : zRead B ln = (false, e9, 0, zDisc) := by rw [zRead, hv9, he9, if_pos c2]
    rw [← hQ, e]
    exact zG_ret rfl rfl ⟨rfl, hF, hT, ⟨_, _, _, hX⟩, fun g => by cases g⟩
