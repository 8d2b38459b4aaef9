theorem cr_lists {d r K p : Nat} {h : zH} {S : zRS} (hr : 2 ≤ r) (hK : K = 7 ∨ K = 10) (hp : p < 256) : zCallP (d + 2) 211 [.ref r, .int (nI p), .ref (r + K)] (zRh h r S) (zRV (.int (nI (zPos p 8))) (zRX h r S (fun k _ => k = K) (fun S1 => ∀ q, q < zPos p 8 → S1.2.1 K q = nI (zNth p q)))) := by
  have hk : zRak 0 K 8 = true := by rcases hK with rfl | rfl <;> rfl
  refine zG_mP (t := tX10_lists) (ls0 := [.ref r, .int (nI p), .ref (r + K), .null, .null]) rfl rfl (zdnR (zdnI (zdnR zdn0))) rfl ?_
  refine zG_s rfl rfl ?_
  refine zN_st3 rfl (fun _ _ _ => rfl) rfl ?_
  refine zG_s rfl rfl ?_
  refine zN_st4 rfl (fun _ _ _ => rfl) rfl ?_
  have main5 : ∀ x, x ≤ 8 → ∀ S1 : zRS, zRF (fun k _ => k = K) S S1 → (∀ q, q < zPos p x → S1.2.1 K q = nI (zNth p q)) → zGoP (d + 1) tX10_lists 5 [.ref r, .int (nI p), .ref (r + K), .int (nI (zPos p x)), .int (nI x)] [] (zRh h r S1) (zRV (.int (nI (zPos p 8))) (zRX h r S (fun k _ => k = K) (fun S1 => ∀ q, q < zPos p 8 → S1.2.1 K q = nI (zNth p q)))) := by
    refine zdown (8) ?_ (fun x hp5 ih5 => ?_)
    · skip
      intro S1 hF hA
      refine zG_s rfl rfl ?_
      refine zG_s rfl rfl ?_
      refine zN_ige rfl (by omega) (by omega) (fun c1 => ?_) (fun c2 => absurd c2 (by omega))
      refine zG_s rfl rfl ?_
      -- leaf 1
      exact zG_ret rfl rfl ⟨rfl, S1, rfl, hF, hA⟩
    · skip
      intro S1 hF hA
      have hpl : zPos p x ≤ x := zct_le _ _
      refine zG_s rfl rfl ?_
      refine zG_s rfl rfl ?_
      refine zN_ige rfl (by omega) (by omega) (fun c3 => absurd c3 (by omega)) (fun c4 => ?_)
      refine zG_s rfl rfl ?_
      refine zG_s rfl rfl ?_
      refine zG_cS1 rfl rfl (cr_has _ (by omega) (by omega)) ?_
      first | refine zN_ifb rfl (fun c5 => ?_) (fun c6 => ?_) | refine zN_eq0 rfl (by omega) (fun c5 => ?_) (fun c6 => ?_)
      · skip
        refine zN_inc4 rfl rfl ?_
        refine zG_s rfl rfl ?_
        -- leaf 2
        have e : zPos p (x + 1) = zPos p x := zct_no c5
        rw [e] at ih5
        exact ih5 _ hF hA
      · skip
        refine zG_s rfl rfl ?_
        refine zG_s rfl rfl ?_
        refine zG_s rfl rfl ?_
        refine zR_ast (k := K) (n := 8) rfl hk (by omega) hr ?_
        refine zN_inc3 rfl rfl ?_
        refine zN_inc4 rfl rfl ?_
        refine zG_s rfl rfl ?_
        -- leaf 3
        have e : zPos p (x + 1) = zPos p x + 1 := zct_yes c6
        rw [e] at ih5
        refine ih5 _ (hF.a rfl) (fun q hq => ?_)
        by_cases eq : q = zPos p x
        · rw [eq, zRa_at, zNth_pos (by omega) c6]
        · rw [zRa_ne (Or.inr eq)]
          exact hA q (by omega)
  exact main5 0 (by omega) _ zRF.rf (fun q hq => absurd hq (Nat.not_lt_zero q))
theorem zNth_in {p q : Nat} (h : q < zPos p 8) : zNth p q < 8 ∧ p.testBit (zNth p q) = true ∧ zPos p (zNth p q) = q := by
  obtain ⟨x, hx, hb, e⟩ := zPos_of h
  rw [← e, zNth_pos hx hb]
  exact ⟨hx, hb, rfl⟩
theorem zPl_row {p x : Nat} {g : Nat → Nat} : zPl g p x = zbits (fun y => (g (zNth p x)).testBit (zNth p y)) (zPos p 8) := by
  refine zext (fun q => ?_)
  rw [zbits_bit]
  have hk : (zPl g p x).testBit q = true ↔ q < zPos p 8 ∧ (g (zNth p x)).testBit (zNth p q) = true := by
    unfold zPl
    rw [zSqz_bit]
    constructor
    · rintro ⟨b, hb, h1, h2, h3⟩
      have hlt : q < zPos p 8 := by rw [← h3]; exact zPos_lt h1 hb
      refine ⟨hlt, ?_⟩
      rw [← h3, zNth_pos hb h1]; exact h2
    · rintro ⟨h1, h2⟩
      obtain ⟨a1, a2, a3⟩ := zNth_in h1
      exact ⟨_, a1, a2, h2, a3⟩
  cases q1 : (zPl g p x).testBit q with
  | true => rw [decide_eq_true (hk.mp q1).1, (hk.mp q1).2]; rfl
  | false =>
    cases q2 : decide (q < zPos p 8) && (g (zNth p x)).testBit (zNth p q) with
    | false => rfl
    | true =>
      rw [Bool.and_eq_true, decide_eq_true_eq] at q2
      rw [hk.mpr q2] at q1
      exact absurd q1 (by decide)
theorem zPl_lt8 {p x : Nat} {g : Nat → Nat} : zPl g p x < 256 := by
  rw [zPl_row]
  exact zbits_lt8 _ (zct_le _ _)
theorem cr_becomes {d r s t n p : Nat} {h : zH} {S : zRS} {lo : Nat → Nat} (hr : 2 ≤ r) (hS : zRs S s n lo) (hP : zPre n lo) (hs6 : s < 6) (hp : p < 1 <<< n) (ht : t < 6) : zCallP (d + 3) 212 [.ref r, .int (nI s), .int (nI p), .int (nI t)] (zRh h r S) (zRN (zRX h r S (fun k j => k = 7 ∨ zRsp 9 k j ∨ zRsp t k j) (fun S1 => zRs S1 t (zPos p n) (zPl lo p)))) := by
  have hn := hP.1
  have hpw := zpow_le hn
  rw [← zPos_8 hn hp]
  have hm : zPos p 8 ≤ 8 := zct_le _ _
  have hNn : ∀ q, q < zPos p 8 → zNth p q < n := fun q hq => zlt_bit hp (zNth_in hq).2.1
  refine zG_mP (t := tX10_becomes) (ls0 := [.ref r, .int (nI s), .int (nI p), .int (nI t), .null, .null, .null, .null]) rfl rfl (zdnR (zdnI (zdnI (zdnI zdn0)))) rfl ?_
  refine zG_s rfl rfl ?_
  refine zG_s rfl rfl ?_
  refine zG_s rfl rfl ?_
  refine zN_get rfl zRh_o rfl ?_
  refine zG_cQV rfl rfl zRh_o rfl rfl (cr_lists hr (Or.inl rfl) (by omega)) (fun h1 hB => ?_)
  obtain ⟨S1, rfl, hF1, hN1⟩ := hB
  have hS1 := hS.fr hn hF1 (fun k j g1 g2 => by unfold zRsp at g1; omega)
  refine zN_st4 rfl (fun _ _ _ => rfl) rfl ?_
  refine zG_s rfl rfl ?_
  refine zG_s rfl rfl ?_
  refine zG_s rfl rfl ?_
  refine zG_cQN rfl rfl zRh_o rfl rfl (cr_empties (s := 9) hr (by omega) hm) (fun h1 hB => ?_)
  obtain ⟨S2, rfl, hF2, hE2⟩ := hB
  have hS2 := hS1.fr hn hF2 (fun k j g1 g2 => by unfold zRsp at g1 g2; omega)
  have hN2 : ∀ q, q < zPos p 8 → S2.2.1 7 q = nI (zNth p q) := fun q hq => (hF2.2.1 7 q (fun g => by unfold zRsp at g; omega)).trans (hN1 q hq)
  refine zG_s rfl rfl ?_
  refine zN_st5 rfl (fun _ _ _ => rfl) rfl ?_
  have main22 : ∀ x, x ≤ zPos p 8 → ∀ (S3 : zRS) (x6 x7 : Value), zRF (zRrw 1 9) S2 S3 → (∀ i, i < x → S3.2.1 1 (8 * 9 + i) = nI (zPl lo p i)) → zGoP (d + 2) tX10_becomes 22 [.ref r, .int (nI s), .int (nI p), .int (nI t), .int (nI (zPos p 8)), .int (nI x), x6, x7] [] (zRh h r S3) (zRN (zRX h r S (fun k j => k = 7 ∨ zRsp 9 k j ∨ zRsp t k j) (fun S1 => zRs S1 t (zPos p 8) (zPl lo p)))) := by
    refine zdown (zPos p 8) ?_ (fun x hp22 ih22 => ?_)
    · skip
      intro S3 x6 x7 hF3 hA3
      have hE3 : S3.2.1 3 9 = nI (zPos p 8) := (hF3.2.1 3 9 (zRrw.m (Or.inl rfl))).trans hE2.1
      refine zG_s rfl rfl ?_
      refine zG_s rfl rfl ?_
      refine zN_ige rfl (by omega) (by omega) (fun c1 => ?_) (fun c2 => absurd c2 (by omega))
      refine zG_s rfl rfl ?_
      refine zG_s rfl rfl ?_
      refine zG_cQN rfl rfl zRh_o rfl rfl (cr_turns (s := 9) hr (by omega) hm hE3 hA3 (fun i hi => zPl_lt8)) (fun h1 hB => ?_)
      obtain ⟨S4, rfl, hF4, hS4⟩ := hB
      refine zG_s rfl rfl ?_
      refine zG_s rfl rfl ?_
      refine zG_s rfl rfl ?_
      refine zG_cQN rfl rfl zRh_o rfl rfl (cr_copies hr hS4 hm (by omega) (by omega)) (fun h1 hB => ?_)
      obtain ⟨S5, rfl, hF5, hS5⟩ := hB
      -- leaf 1
      refine zG_ret rfl rfl ⟨rfl, S5, rfl, ?_, hS5⟩
      refine ((((hF1.mono ?_).tr (hF2.mono ?_)).tr (hF3.mono ?_)).tr (hF4.mono ?_)).tr (hF5.mono ?_)
      · exact fun k j g => Or.inl g
      · exact fun k j g => Or.inr (Or.inl g)
      · exact fun k j g => Or.inr (Or.inl (zRrw.sp (Or.inl rfl) _ _ g))
      · exact fun k j g => Or.inr (Or.inl (zRrw.sp (Or.inr rfl) _ _ g))
      · exact fun k j g => Or.inr (Or.inr g)
    · skip
      intro S3 x6 x7 hF3 hA3
      have hS3 := hS2.fr hn hF3 (fun k j g1 g2 => by unfold zRsp at g1; unfold zRrw at g2; omega)
      have hN3 : ∀ q, q < zPos p 8 → S3.2.1 7 q = nI (zNth p q) := fun q hq => (hF3.2.1 7 q (zRrw.no (by decide))).trans (hN2 q hq)
      have hnx := hNn x hp22
      have hlx := hP.b hnx
      refine zG_s rfl rfl ?_
      refine zG_s rfl rfl ?_
      refine zN_ige rfl (by omega) (by omega) (fun c3 => absurd c3 (by omega)) (fun c4 => ?_)
      refine zG_s rfl rfl ?_
      refine zN_st6 rfl (fun _ _ _ => rfl) rfl ?_
      refine zG_s rfl rfl ?_
      refine zN_st7 rfl (fun _ _ _ => rfl) rfl ?_
      have main35 : ∀ y, y ≤ zPos p 8 → zGoP (d + 2) tX10_becomes 35 [.ref r, .int (nI s), .int (nI p), .int (nI t), .int (nI (zPos p 8)), .int (nI x), .int (nI (zbits (fun y => (lo (zNth p x)).testBit (zNth p y)) y)), .int (nI y)] [] (zRh h r S3) (zRN (zRX h r S (fun k j => k = 7 ∨ zRsp 9 k j ∨ zRsp t k j) (fun S1 => zRs S1 t (zPos p 8) (zPl lo p)))) := by
        refine zdown (zPos p 8) ?_ (fun y hp35 ih35 => ?_)
        · skip
          refine zG_s rfl rfl ?_
          refine zG_s rfl rfl ?_
          refine zN_ige rfl (by omega) (by omega) (fun c5 => ?_) (fun c6 => absurd c6 (by omega))
          refine zG_s rfl rfl ?_
          refine zN_get rfl zRh_o rfl ?_
          refine zG_s rfl rfl ?_
          refine zG_s rfl rfl ?_
          refine zN_add rfl ?_
          refine zG_s rfl rfl ?_
          refine zR_ast (k := 1) (n := 80) rfl rfl (by omega) hr ?_
          refine zN_inc5 rfl rfl ?_
          refine zG_s rfl rfl ?_
          -- leaf 2
          exact ih22 _ _ _ (hF3.a ⟨rfl, by omega, by omega⟩) (zRa_row hA3 (by rw [zPl_row]))
        · skip
          have hny := hNn y hp35
          refine zG_s rfl rfl ?_
          refine zG_s rfl rfl ?_
          refine zN_ige rfl (by omega) (by omega) (fun c7 => absurd c7 (by omega)) (fun c8 => ?_)
          refine zG_s rfl rfl ?_
          refine zG_s rfl rfl ?_
          refine zN_get rfl zRh_o rfl ?_
          refine zG_s rfl rfl ?_
          refine zG_s rfl rfl ?_
          refine zN_mul rfl ?_
          refine zG_s rfl rfl ?_
          refine zN_get rfl zRh_o rfl ?_
          refine zG_s rfl rfl ?_
          refine zR_ald (k := 7) (n := 8) rfl rfl (by omega) (hN3 x hp22) ?_
          refine zN_add rfl ?_
          refine zR_ald (k := 1) (n := 80) rfl rfl (by omega) (hS3.2.2 _ hnx).1 ?_
          refine zG_s rfl rfl ?_
          refine zN_get rfl zRh_o rfl ?_
          refine zG_s rfl rfl ?_
          refine zR_ald (k := 7) (n := 8) rfl rfl (by omega) (hN3 y hp35) ?_
          refine zG_cS1 rfl rfl (cr_has _ (by omega) (by omega)) ?_
          first | refine zN_ifb rfl (fun c9 => ?_) (fun c10 => ?_) | refine zN_eq0 rfl (by omega) (fun c9 => ?_) (fun c10 => ?_)
          · skip
            refine zG_s rfl rfl ?_
            refine zN_or rfl ?_
            refine zN_st6 rfl (fun _ _ _ => rfl) rfl ?_
            refine zN_inc7 rfl rfl ?_
            refine zG_s rfl rfl ?_
            -- leaf 3
            rw [zbits_no (by assumption)] at ih35
            rw [Nat.or_zero]
            exact ih35
          · skip
            refine zG_s rfl rfl ?_
            refine zG_s rfl rfl ?_
            refine zN_shl rfl (by omega) ?_
            refine zG_s rfl rfl ?_
            refine zN_or rfl ?_
            refine zN_st6 rfl (fun _ _ _ => rfl) rfl ?_
            refine zN_inc7 rfl rfl ?_
            refine zG_s rfl rfl ?_
            -- leaf 4
            rw [zbits_yes (by assumption)] at ih35
            exact ih35
      exact main35 0 (by omega)
  exact main22 0 (by omega) _ _ _ zRF.rf (fun i hi => absurd hi (by omega))
theorem zRb_scr {t : Nat} : ∀ k j, (k = 7 ∨ zRsp 9 k j ∨ zRsp t k j) → zScr k j ∨ zRsp t k j := fun k j g => by
  rcases g with g | g | g
  · exact Or.inl (by unfold zScr; omega)
  · exact Or.inl (by unfold zRsp at g; unfold zScr; omega)
  · exact Or.inr g
theorem cr_reduce {d r : Nat} {h : zH} {S : zRS} {s : zST} {a b c e : Int32} (hr : 2 ≤ r) (hI : zRI S s) (hW : zWT s) : zCallP (d + 12) 213 [.ref r, .int a, .int b, .int c, .int e] (zRh h r S) (zROut h r (zo_reduce s a b c e)) := by
  refine zG_mP (t := tX10_reduce) (ls0 := [.ref r, .int a, .int b, .int c, .int e]) rfl rfl (zdnR (zdnI (zdnI (zdnI (zdnI zdn0))))) rfl ?_
  refine zG_s rfl rfl ?_
  refine zG_cS1 rfl rfl cr_isSpace ?_
  refine zN_ifb rfl (fun c1 => ?_) (fun c2 => ?_)
  · skip
    refine zG_s rfl rfl ?_
    -- leaf 1
    exact zG_ret rfl rfl (zRfin (by rw [zo_reduce, zb_no c1]) hI)
  · skip
    obtain ⟨i, hi, rfl⟩ := zin_of c2 (by omega)
    have hS := hI.sp i hi
    have hP := hW.1 i hi
    have hn8 := hP.1
    have hpw := zpow_le hn8
    refine zG_s rfl rfl ?_
    refine zG_cS1 rfl rfl cr_isKind ?_
    refine zN_ifb rfl (fun c3 => ?_) (fun c4 => ?_)
    · skip
      refine zG_s rfl rfl ?_
      -- leaf 2
      exact zG_ret rfl rfl (zRfin (by rw [zo_reduce, zb_i hi (by omega), zb_no c3]) hI)
    · skip
      obtain ⟨k, hk, rfl⟩ := zin_of c4 (by omega)
      refine zG_s rfl rfl ?_
      refine zG_cS1 rfl rfl cr_isOrder ?_
      refine zN_ifb rfl (fun c5 => ?_) (fun c6 => ?_)
      · skip
        refine zG_s rfl rfl ?_
        -- leaf 3
        exact zG_ret rfl rfl (zRfin (by rw [zo_reduce, zb_i hi (by omega), zb_i hk (by omega), zb_no c5]) hI)
      · skip
        obtain ⟨o, ho, rfl⟩ := zin_of c6 (by omega)
        refine zG_s rfl rfl ?_
        refine zG_cS1 rfl rfl cr_isSpace ?_
        refine zN_ifnb rfl (fun c7 => ?_) (fun c8 => ?_)
        · skip
          obtain ⟨j, hj, rfl⟩ := zin_of c7 (by omega)
          refine zG_s rfl rfl ?_
          refine zG_s rfl rfl ?_
          refine zG_s rfl rfl ?_
          refine zG_s rfl rfl ?_
          refine zG_s rfl rfl ?_
          refine zG_s rfl rfl ?_
          refine zG_s rfl rfl ?_
          refine zG_s rfl rfl ?_
          refine zG_cV1 rfl rfl zRh_o rfl rfl (cr_all hS (by omega)) ?_
          refine zG_cV1 rfl rfl zRh_o rfl rfl (cr_leftAll hS hP (by omega) (by omega)) ?_
          refine zG_s rfl rfl ?_
          refine zG_cQN rfl rfl zRh_o rfl rfl (cr_becomes hr hS hP hi (zLeft_lt hn8) hj) (fun h1 hB => ?_)
          obtain ⟨S1, rfl, hF1, hS1⟩ := hB
          have hI := hI.u_sp hj hS1 hW hF1 zRb_scr
          refine zG_s rfl rfl ?_
          refine zN_get rfl zRh_o rfl ?_
          refine zG_s rfl rfl ?_
          refine zR_ald (k := 3) (n := 10) rfl rfl (by omega) hS1.1 ?_
          -- leaf 4
          exact zG_ret rfl rfl (zRfin (by rw [zo_reduce, zb_i hi (by omega), zb_i hk (by omega), zb_i ho (by omega), zb_i hj (by omega)]; first | done | rfl) hI)
        · skip
          refine zG_s rfl rfl ?_
          -- leaf 5
          exact zG_ret rfl rfl (zRfin (by rw [zo_reduce, zb_i hi (by omega), zb_i hk (by omega), zb_i ho (by omega), zb_no c8]) hI)
theorem cr_part {d r : Nat} {h : zH} {S : zRS} {s : zST} {a b c : Int32} (hr : 2 ≤ r) (hI : zRI S s) (hW : zWT s) : zCallP (d + 4) 257 [.ref r, .int a, .int b, .int c] (zRh h r S) (zROut h r (zo_part s a b c)) := by
  refine zG_mP (t := tX10_part) (ls0 := [.ref r, .int a, .int b, .int c]) rfl rfl (zdnR (zdnI (zdnI (zdnI zdn0)))) rfl ?_
  refine zG_s rfl rfl ?_
  refine zG_cS1 rfl rfl cr_isSpace ?_
  refine zN_ifb rfl (fun c1 => ?_) (fun c2 => ?_)
  · skip
    refine zG_s rfl rfl ?_
    -- leaf 1
    exact zG_ret rfl rfl (zRfin (by rw [zo_part, zb_no c1]) hI)
  · skip
    obtain ⟨i, hi, rfl⟩ := zin_of c2 (by omega)
    have hS := hI.sp i hi
    have hP := hW.1 i hi
    have hn8 := hP.1
    have hpw := zpow_le hn8
    refine zG_s rfl rfl ?_
    refine zG_s rfl rfl ?_
    refine zG_s rfl rfl ?_
    refine zG_cV1 rfl rfl zRh_o rfl rfl (cr_isSet hS (by omega)) ?_
    refine zN_ifb rfl (fun c3 => ?_) (fun c4 => ?_)
    · skip
      refine zG_s rfl rfl ?_
      -- leaf 2
      exact zG_ret rfl rfl (zRfin (by rw [zo_part, zb_i hi (by omega), zb_no c3]) hI)
    · skip
      obtain ⟨p, hp, rfl⟩ := zin_of c4 (by omega)
      refine zG_s rfl rfl ?_
      refine zG_cS1 rfl rfl cr_isSpace ?_
      refine zN_ifnb rfl (fun c5 => ?_) (fun c6 => ?_)
      · skip
        obtain ⟨j, hj, rfl⟩ := zin_of c5 (by omega)
        refine zG_s rfl rfl ?_
        refine zG_s rfl rfl ?_
        refine zG_s rfl rfl ?_
        refine zG_s rfl rfl ?_
        refine zG_cQN rfl rfl zRh_o rfl rfl (cr_becomes hr hS hP hi hp hj) (fun h1 hB => ?_)
        obtain ⟨S1, rfl, hF1, hS1⟩ := hB
        have hI := hI.u_sp hj hS1 hW hF1 zRb_scr
        refine zG_s rfl rfl ?_
        refine zN_get rfl zRh_o rfl ?_
        refine zG_s rfl rfl ?_
        refine zR_ald (k := 3) (n := 10) rfl rfl (by omega) hS1.1 ?_
        -- leaf 3
        exact zG_ret rfl rfl (zRfin (by rw [zo_part, zb_i hi (by omega), zb_i hp (by omega), zb_i hj (by omega)]; first | done | rfl) hI)
      · skip
        refine zG_s rfl rfl ?_
        -- leaf 4
        exact zG_ret rfl rfl (zRfin (by rw [zo_part, zb_i hi (by omega), zb_i hp (by omega), zb_no c6]) hI)
