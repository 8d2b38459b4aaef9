theorem zNew_le {n x y : Nat} {lo : Nat → Nat} (hn : n ≤ 8) : zNew n lo x y ≤ 64 := by
  have h1 : zNew n lo x y ≤ n * 8 := zsm_le (fun p _ => by
    split
    · exact zcnt_le _
    · exact Nat.zero_le _)
  omega
theorem zSk_2 {B : Nat → Nat} {ln p : Nat} (hp : p ≤ ln) : zSk B ln (zSk B ln p) = zSk B ln p := by
  have h1 := zSk_le (B := B) hp
  by_cases e : zSk B ln p < ln
  · have h2 := zfs_spec (p := fun j => !decide (B (p + j) = 32)) (n := ln - p) (by unfold zSk at e; omega)
    have h3 : B (zSk B ln p) ≠ 32 := fun g => by
      have h4 := h2.1
      rw [show p + zfs (fun j => !decide (B (p + j) = 32)) (ln - p) = zSk B ln p from rfl, g] at h4
      cases h4
    exact zSk_at (Nat.le_refl _) e (fun i g1 g2 => absurd g1 (by omega)) h3
  · rw [show zSk B ln p = ln by omega]
    exact zSk_end (Nat.le_refl _) (fun i g1 g2 => absurd g1 (by omega))
section ZTQ
variable {B : Nat → Nat} {ln p q : Nat}
theorem zIsn_sk {c : Nat} (h : zSk B ln p = zSk B ln q) : zIsn B ln p c = zIsn B ln q c := by unfold zIsn; rw [h]
theorem zDgv_sk {lim bb : Nat} (h : zSk B ln p = zSk B ln q) : zDgv B ln lim bb p = zDgv B ln lim bb q := by unfold zDgv; rw [h]
theorem zDge_sk {lim bb : Nat} (h : zSk B ln p = zSk B ln q) : zDge B ln lim bb p = zDge B ln lim bb q := by unfold zDge; rw [zDgv_sk h, h]
theorem zDge_no {lim bb : Nat} (h : zDgv B ln lim bb p = 0) : zDge B ln lim bb p = zSk B ln p := if_pos h
theorem zDge_yes {lim bb : Nat} (h : zDgv B ln lim bb p ≠ 0) : zDge B ln lim bb p = zSk B ln p + 1 := if_neg h
end ZTQ
theorem zN_at8ne {d : Nat} {t : Nat → Option zI} {pc : Nat} {ls st : List Value} {h : zH} {r : zR → Prop} {nx a b c ch ln p : Nat} {v : Value} {z : Int} {B : Nat → Nat} (hai : t pc = some (.if_icmp .ne z, nx, a, b, c, v)) (hB : ∀ i, i < ln → B i < 256) (hc : ch < 256) (K1 : zIsn B ln p ch = false → zGoP d t a ls st h r) (K2 : zIsn B ln p ch = true → zGoP d t nx ls st h r) : zGoP d t pc ls (.int (nI ch) :: .int (zAt8 B ln p) :: st) h r := by
  have e := zAt8_eq (p := p) hB hc
  refine zN_if2 hai (fun q => K1 ?_) (fun q => K2 ?_)
  · rw [← e]; exact decide_eq_false (of_decide_eq_true q)
  · rw [← e]; exact decide_eq_true (Decidable.not_not.mp (of_decide_eq_false q))
def zRtk (k j : Nat) : Prop := zRsp 7 k j ∨ (k = 0 ∧ j = 28)
/-- how the reading of an item ends -/
def zRit (B : Nat → Nat) (ln n : Nat) (Z : Bool × Nat × (Nat → Nat)) (S1 : zRS) : Prop := ∃ q, zTpr S1 B ln q ∧ zSk B ln q = zSk B ln Z.2.1 ∧ zRs S1 7 n Z.2.2
theorem cr_readsItem {d r ln n p : Nat} {h : zH} {S : zRS} {B lo : Nat → Nat} (hr : 2 ≤ r) (hT : zTpr S B ln p) (h1 : 1 ≤ p) (hS : zRs S 7 n lo) (hP : zPre n lo) : zCallP (d + 4) 262 [.ref r, .int (nI n)] (zRh h r S) (zRV (.int (nI (b2n (zRp B ln n p lo).1))) (zRX h r S zRtk (zRit B ln n (zRp B ln n p lo)))) := by
  have hn8 := hP.1
  have hp := hT.2.2.2.2.2
  have hl := hT.2.2.2.2.1
  have hge := zDge_le (B := B) (lim := n) (bb := 0) hp
  have hdv := zDgv_lt (B := B) (ln := ln) (lim := n) (bb := 0) (p := p)
  have hT1 := hT.to hge.2
  have hsk := zSk_le (B := B) hge.2
  have hT2 := hT1.to hsk.2
  refine zG_mP (t := tX10_readsItem) (ls0 := [.ref r, .int (nI n), .null, .null, .null, .null, .null]) rfl rfl (zdnR (zdnI zdn0)) rfl ?_
  have jn48 : ∀ (e9 : Bool) (v q : Nat) (S1 : zRS), v < n → 2 ≤ q → zTpr S1 B ln q → zRs S1 7 n lo → zRF zRtk S S1 → zRp B ln n p lo = zRy B ln n v e9 100 q lo → zGoP (d + 3) tX10_readsItem 48 [.ref r, .int (nI n), .int (nI v), .int (nI (b2n e9)), .null, .null, .null] [] (zRh h r S1) (zRV (.int (nI (b2n (zRp B ln n p lo).1))) (zRX h r S zRtk (zRit B ln n (zRp B ln n p lo)))) := by
    intro e9 v q S1 hv hq2 hT hS hF hrp
    refine zG_s rfl rfl ?_
    refine zN_st4 rfl (fun _ _ _ => rfl) rfl ?_
    have main51 : ∀ j, j ≤ 100 → ∀ (mo q2 : Nat) (lo2 : Nat → Nat) (S2 : zRS) (x5 x6 : Value), mo ≤ 1 → (0 < mo → ln < q2 + (100 - j)) → zTpr S2 B ln q2 → zRs S2 7 n lo2 → zPre n lo2 → zRF zRtk S S2 → (0 < mo → zRp B ln n p lo = zRy B ln n v e9 (100 - j) q2 lo2) → (mo = 0 → (zRp B ln n p lo).1 = true ∧ zSk B ln q2 = zSk B ln (zRp B ln n p lo).2.1 ∧ (zRp B ln n p lo).2.2 = lo2) → zGoP (d + 3) tX10_readsItem 51 [.ref r, .int (nI n), .int (nI v), .int (nI (b2n e9)), .int (nI mo), x5, x6] [] (zRh h r S2) (zRV (.int (nI (b2n (zRp B ln n p lo).1))) (zRX h r S zRtk (zRit B ln n (zRp B ln n p lo)))) := by
      refine zdown (100) ?_ (fun j hp51 ih51 => ?_)
      · skip
        intro mo q2 lo2 S2 x5 x6 hm1 hml hT hS hP2 hF hm hm0
        have hq2 := hT.2.2.2.2.2
        refine zG_s rfl rfl ?_
        refine zN_eq0 rfl (by omega) (fun c1 => ?_) (fun c2 => absurd c2 (by omega))
        refine zG_s rfl rfl ?_
        -- leaf 1
        exact zG_ret rfl rfl ⟨by rw [(hm0 c1).1]; rfl, S2, rfl, hF, q2, hT, (hm0 c1).2.1, by rw [(hm0 c1).2.2]; exact hS⟩
      · skip
        intro mo q2 lo2 S2 x5 x6 hm1 hml hT hS hP2 hF hm hm0
        have hq2 := hT.2.2.2.2.2
        have hge2 := zDge_le (B := B) (lim := n) (bb := v + 1) hq2
        have hdv2 := zDgv_lt (B := B) (ln := ln) (lim := n) (bb := v + 1) (p := q2)
        have hdg := cr_digit (d := d + 1) (h := h) (bb := v + 1) hr hT (lim := n) (by omega) (by omega)
        rw [zbv_s] at hdg
        have hTd := hT.to hge2.2
        have hF2 := hF.i (w := nI (zDge B ln n (v + 1) q2)) (show zRtk 0 28 from Or.inr ⟨rfl, rfl⟩)
        have hSd : zRs (zRi S2 28 (nI (zDge B ln n (v + 1) q2))) 7 n lo2 := hS
        refine zG_s rfl rfl ?_
        refine zN_eq0 rfl (by omega) (fun c3 => ?_) (fun c4 => ?_)
        · skip
          refine zG_s rfl rfl ?_
          -- leaf 2
          exact zG_ret rfl rfl ⟨by rw [(hm0 c3).1]; rfl, S2, rfl, hF, q2, hT, (hm0 c3).2.1, by rw [(hm0 c3).2.2]; exact hS⟩
        · skip
          refine zG_s rfl rfl ?_
          refine zG_s rfl rfl ?_
          refine zG_s rfl rfl ?_
          refine zG_cV1 rfl rfl zRh_o rfl rfl hdg ?_
          refine zN_st5 rfl (fun _ _ _ => rfl) rfl ?_
          refine zG_s rfl rfl ?_
          refine zN_gebv rfl (by omega) (fun c5 => ?_) (fun c6 => ?_)
          · skip
            obtain ⟨y, hy⟩ : ∃ y, zDgv B ln n (v + 1) q2 = y + 1 := ⟨zDgv B ln n (v + 1) q2 - 1, by omega⟩
            rw [show zbv (zDgv B ln n (v + 1) q2) = nI y from by rw [hy]; rfl]
            have hm := hm (by omega)
            rw [show 100 - j = (100 - (j + 1)) + 1 by omega, zRy, if_neg (by omega), hy, Nat.add_sub_cancel] at hm
            have hdy := zDge_yes (B := B) (ln := ln) (lim := n) (bb := v + 1) (p := q2) (by omega)
            have hsk2 := zSk_le (B := B) hq2
            have hml := hml (by omega)
            refine zG_s rfl rfl ?_
            refine zG_s rfl rfl ?_
            refine zG_s rfl rfl ?_
            refine zG_s rfl rfl ?_
            refine zG_cQV rfl rfl zRh_o rfl rfl (cr_nests hr hSd hP2 hv (show y < n by omega)) (fun h3 hB => ?_)
            obtain ⟨S3, rfl, hF3, hS3⟩ := hB
            have hF3 := hF2.tr (hF3.mono (fun k j g => Or.inl g))
            have hT3 : zTpr S3 B ln (zDge B ln n (v + 1) q2) := hTd.fr (P := zRsp 7) (by assumption) (by unfold zRsp; omega) (by unfold zRsp; omega) (fun j => by unfold zRsp; omega)
            have hnl := zNew_le (lo := lo2) (x := v) (y := y) hn8
            have hP3 := hP2.nst (x := v) (show y < n by omega)
            refine zN_st6 rfl (fun _ _ _ => rfl) rfl ?_
            refine zG_s rfl rfl ?_
            refine zG_s rfl rfl ?_
            refine zN_ifb rfl (fun c7 => ?_) (fun c8 => ?_)
            · skip
              refine zG_s rfl rfl ?_
              refine zN_add rfl ?_
              refine zN_st6 rfl (fun _ _ _ => rfl) rfl ?_
              refine zG_s rfl rfl ?_
              refine zN_ifnb rfl (fun c9 => ?_) (fun c10 => ?_)
              · skip
                refine zG_s rfl rfl ?_
                refine zN_st4 rfl (fun _ _ _ => rfl) rfl ?_
                refine zG_s rfl rfl ?_
                -- leaf 3
                exact absurd (c7.symm.trans c9) (by decide)
              · skip
                refine zG_s rfl rfl ?_
                refine zN_lt0 rfl (by omega) ?_
                refine zG_s rfl rfl ?_
                refine zG_s rfl rfl ?_
                first | refine zG_cV1 rfl rfl zRh_o rfl rfl (cr_takes hr hT4 (by decide)) ?_ | refine zG_cV1 rfl rfl zRh_o rfl rfl (cr_takes hr hT3 (by decide)) ?_
                first | refine zN_ifb rfl (fun c13 => ?_) (fun c14 => ?_) | refine zN_eq0 rfl (by omega) (fun c13 => ?_) (fun c14 => ?_)
                · skip
                  refine zG_s rfl rfl ?_
                  refine zN_st4 rfl (fun _ _ _ => rfl) rfl ?_
                  refine zG_s rfl rfl ?_
                  -- leaf 4
                  have hz : zRp B ln n p lo = (true, zSk B ln (zDge B ln n (v + 1) q2), zNst lo2 v y) := by rw [hm, if_neg (by rw [c7]; decide), if_neg (by rw [c13]; decide)]
                  exact ih51 0 _ (zNst lo2 v y) _ _ _ (by omega) (fun g => absurd g (by omega)) (hT3.to (zSk_b (c := 44) hge2.2)) hS3 hP3 (hF3.i (Or.inr ⟨rfl, rfl⟩)) (fun g => absurd g (by omega)) (fun _ => ⟨by rw [hz], by rw [hz, c13]; rfl, by rw [hz]⟩)
                · skip
                  refine zG_s rfl rfl ?_
                  refine zG_s rfl rfl ?_
                  refine zN_st4 rfl (fun _ _ _ => rfl) rfl ?_
                  refine zG_s rfl rfl ?_
                  -- leaf 5
                  have hb1 : b2n (zIsn B ln (zDge B ln n (v + 1) q2) 44) = 1 := by rw [c14]; rfl
                  have hs4 := zSk_le (B := B) hge2.2
                  exact ih51 1 _ (zNst lo2 v y) _ _ _ (by omega) (fun _ => by rw [hb1]; omega) (hT3.to (zSk_b (c := 44) hge2.2)) hS3 hP3 (hF3.i (Or.inr ⟨rfl, rfl⟩)) (fun _ => by rw [hm, if_neg (by rw [c7]; decide), if_pos c14, hb1]) (fun g => absurd g (by omega))
            · skip
              refine zG_s rfl rfl ?_
              refine zG_s rfl rfl ?_
              refine zG_s rfl rfl ?_
              refine zG_s rfl rfl ?_
              refine zG_cQV rfl rfl zRh_o rfl rfl (cr_nests hr hS3 hP3 (show y < n by omega) hv) (fun h4 hB => ?_)
              obtain ⟨S4, rfl, hF4, hS4⟩ := hB
              have hnl2 := zNew_le (lo := zNst lo2 v y) (x := y) (y := v) hn8
              have hT4 : zTpr S4 B ln (zDge B ln n (v + 1) q2) := hT3.fr hF4 (by unfold zRsp; omega) (by unfold zRsp; omega) (fun j => by unfold zRsp; omega)
              have hF4 := hF3.tr (hF4.mono (fun k j g => Or.inl g))
              refine zG_s rfl rfl ?_
              refine zN_add rfl ?_
              refine zN_st6 rfl (fun _ _ _ => rfl) rfl ?_
              refine zG_s rfl rfl ?_
              refine zN_ifnb rfl (fun c15 => ?_) (fun c16 => ?_)
              · skip
                refine zG_s rfl rfl ?_
                refine zN_st4 rfl (fun _ _ _ => rfl) rfl ?_
                refine zG_s rfl rfl ?_
                -- leaf 6
                have hz : zRp B ln n p lo = (true, zDge B ln n (v + 1) q2, zNst (zNst lo2 v y) y v) := by rw [hm, if_pos c8]
                exact ih51 0 _ (zNst (zNst lo2 v y) y v) _ _ _ (by omega) (fun g => absurd g (by omega)) hT4 hS4 (hP3.nst hv) hF4 (fun g => absurd g (by omega)) (fun _ => ⟨by rw [hz], by rw [hz], by rw [hz]⟩)
              · skip
                refine zG_s rfl rfl ?_
                refine zN_lt0 rfl (by omega) ?_
                refine zG_s rfl rfl ?_
                refine zG_s rfl rfl ?_
                first | refine zG_cV1 rfl rfl zRh_o rfl rfl (cr_takes hr hT4 (by decide)) ?_ | refine zG_cV1 rfl rfl zRh_o rfl rfl (cr_takes hr hT3 (by decide)) ?_
                first | refine zN_ifb rfl (fun c19 => ?_) (fun c20 => ?_) | refine zN_eq0 rfl (by omega) (fun c19 => ?_) (fun c20 => ?_)
                · skip
                  refine zG_s rfl rfl ?_
                  refine zN_st4 rfl (fun _ _ _ => rfl) rfl ?_
                  refine zG_s rfl rfl ?_
                  -- leaf 7
                  exact absurd (c8.symm.trans c16) (by decide)
                · skip
                  refine zG_s rfl rfl ?_
                  refine zG_s rfl rfl ?_
                  refine zN_st4 rfl (fun _ _ _ => rfl) rfl ?_
                  refine zG_s rfl rfl ?_
                  -- leaf 8
                  exact absurd (c8.symm.trans c16) (by decide)
          · skip
            refine zG_s rfl rfl ?_
            -- leaf 9
            have hz : zRp B ln n p lo = (false, zDge B ln n (v + 1) q2, lo2) := by rw [hm (by omega), show 100 - j = (100 - (j + 1)) + 1 by omega, zRy, if_pos c6]
            exact zG_ret rfl rfl ⟨by rw [hz]; rfl, _, rfl, hF2, _, hTd, by rw [hz], by rw [hz]; exact hSd⟩
    exact main51 0 (by omega) 1 q lo S1 _ _ (by omega) (by omega) hT hS hP hF (fun _ => hrp) (fun g => absurd g (by omega))
  refine zG_s rfl rfl ?_
  refine zG_s rfl rfl ?_
  refine zG_s rfl rfl ?_
  refine zG_cV1 rfl rfl zRh_o rfl rfl (cr_digit (bb := 0) hr hT (by omega) (by omega)) ?_
  refine zN_st2 rfl (fun _ _ _ => rfl) rfl ?_
  refine zG_s rfl rfl ?_
  refine zN_gebv rfl (by omega) (fun c21 => ?_) (fun c22 => ?_)
  · skip
    obtain ⟨v, hv⟩ : ∃ v, zDgv B ln n 0 p = v + 1 := ⟨zDgv B ln n 0 p - 1, by omega⟩
    rw [show zbv (zDgv B ln n 0 p) = nI v from by rw [hv]; rfl]
    refine zG_s rfl rfl ?_
    refine zG_cV1 rfl rfl zRh_o rfl rfl (cr_here hr hT1) ?_
    rw [zRi_i]
    refine zG_s rfl rfl ?_
    refine zN_at8ne rfl hT.2.2.2.1 (by decide) (fun c23 => ?_) (fun c24 => ?_)
    · skip
      refine zG_s rfl rfl ?_
      refine zN_st3 rfl (fun _ _ _ => rfl) rfl ?_
      refine zG_s rfl rfl ?_
      refine zG_s rfl rfl ?_
      refine zG_cV1 rfl rfl zRh_o rfl rfl (cr_takes hr (hT.to hsk.2) (by decide)) ?_
      rw [zRi_i, zIsn_sk (zSk_2 hge.2), zSk_2 hge.2]
      have hTk := hT.to hsk.2
      have hdz : v + 1 ≠ 0 → zDge B ln n 0 p = zSk B ln p + 1 := fun g => zDge_yes (by omega)
      have hskp := zSk_le (B := B) hp
      have hsk3 := zSk_le (B := B) hsk.2
      refine zN_ifnb rfl (fun c25 => ?_) (fun c26 => ?_)
      · skip
        -- leaf 10
        exact absurd (c23.symm.trans c25) (by decide)
      · skip
        have e0 : zIsn B ln (zDge B ln n 0 p) 61 = false := by assumption
        rw [show b2n (zIsn B ln (zDge B ln n 0 p) 61) = 0 from by rw [e0]; rfl, Nat.add_zero]
        refine zG_s rfl rfl ?_
        refine zG_s rfl rfl ?_
        refine zG_cV1 rfl rfl zRh_o rfl rfl (cr_takes hr hTk (by decide)) ?_
        rw [zRi_i]
        refine zN_ifnb rfl (fun c27 => ?_) (fun c28 => ?_)
        · skip
          -- leaf 11
          have hb1 : b2n (zIsn B ln (zSk B ln (zDge B ln n 0 p)) 62) = 1 := by rw [c27]; rfl
          have hdz := hdz (by omega)
          exact jn48 false v _ _ (by omega) (by omega) (hT.to (zSk_b (c := 62) hsk.2)) hS (zRF.rf.i (Or.inr ⟨rfl, rfl⟩)) (by unfold zRp; rw [if_neg (by omega), if_neg (by rw [c26]; decide), if_pos c27, hv, Nat.add_sub_cancel, hb1])
        · skip
          refine zG_s rfl rfl ?_
          -- leaf 12
          have hz : zRp B ln n p lo = (false, zSk B ln (zSk B ln (zDge B ln n 0 p)), lo) := by unfold zRp; rw [if_neg (by omega), if_neg (by rw [c26]; decide), if_neg (by rw [c28]; decide)]
          exact zG_ret rfl rfl ⟨by rw [hz]; rfl, _, rfl, zRF.rf.i (Or.inr ⟨rfl, rfl⟩), _, hT.to (zSk_b (c := 62) hsk.2), by rw [hz, c28]; rfl, by rw [hz]; exact hS⟩
    · skip
      refine zG_s rfl rfl ?_
      refine zG_s rfl rfl ?_
      refine zN_st3 rfl (fun _ _ _ => rfl) rfl ?_
      refine zG_s rfl rfl ?_
      refine zG_s rfl rfl ?_
      refine zG_cV1 rfl rfl zRh_o rfl rfl (cr_takes hr (hT.to hsk.2) (by decide)) ?_
      rw [zRi_i, zIsn_sk (zSk_2 hge.2), zSk_2 hge.2]
      have hTk := hT.to hsk.2
      have hdz : v + 1 ≠ 0 → zDge B ln n 0 p = zSk B ln p + 1 := fun g => zDge_yes (by omega)
      have hskp := zSk_le (B := B) hp
      have hsk3 := zSk_le (B := B) hsk.2
      refine zN_ifnb rfl (fun c29 => ?_) (fun c30 => ?_)
      · skip
        -- leaf 13
        have hb1 : b2n (zIsn B ln (zDge B ln n 0 p) 61) = 1 := by rw [c29]; rfl
        have hdz := hdz (by omega)
        exact jn48 true v _ _ (by omega) (by omega) (hT.to (zSk_b (c := 61) hge.2)) hS (zRF.rf.i (Or.inr ⟨rfl, rfl⟩)) (by unfold zRp; rw [if_neg (by omega), if_pos c29, hv, Nat.add_sub_cancel, hb1])
      · skip
        have e0 : zIsn B ln (zDge B ln n 0 p) 61 = false := by assumption
        rw [show b2n (zIsn B ln (zDge B ln n 0 p) 61) = 0 from by rw [e0]; rfl, Nat.add_zero]
        refine zG_s rfl rfl ?_
        refine zG_s rfl rfl ?_
        refine zG_cV1 rfl rfl zRh_o rfl rfl (cr_takes hr hTk (by decide)) ?_
        rw [zRi_i]
        refine zN_ifnb rfl (fun c31 => ?_) (fun c32 => ?_)
        · skip
          -- leaf 14
          exact absurd (c24.symm.trans c30) (by decide)
        · skip
          refine zG_s rfl rfl ?_
          -- leaf 15
          exact absurd (c24.symm.trans c30) (by decide)
  · skip
    refine zG_s rfl rfl ?_
    -- leaf 16
    have hz : zRp B ln n p lo = (false, zDge B ln n 0 p, lo) := by unfold zRp; rw [if_pos c22]
    exact zG_ret rfl rfl ⟨by rw [hz]; rfl, _, rfl, zRF.rf.i (Or.inr ⟨rfl, rfl⟩), _, hT.to hge.2, by rw [hz], by rw [hz]; exact hS⟩
