section ZTR
variable {B : Nat → Nat} {ln n : Nat}
theorem zRy_ge {x : Nat} {eq : Bool} : ∀ {f p : Nat} {lo : Nat → Nat}, p ≤ ln → p ≤ (zRy B ln n x eq f p lo).2.1
  | 0, p, lo, hp => Nat.le_refl p
  | f + 1, p, lo, hp => by
    have h1 := zDge_le (B := B) (lim := n) (bb := x + 1) hp
    rw [zRy]
    split
    · exact h1.1
    · split
      · exact h1.1
      · split
        · next q =>
          have h2 := zSk_le (B := B) h1.2
          have h3 := zRy_ge (x := x) (eq := eq) (f := f) (lo := zNst lo x (zDgv B ln n (x + 1) p - 1)) (zIsn_lt q)
          omega
        · have h2 := zSk_le (B := B) h1.2
          show p ≤ zSk B ln (zDge B ln n (x + 1) p)
          omega
theorem zRp_ge {p : Nat} {lo : Nat → Nat} (hp : p ≤ ln) : p ≤ (zRp B ln n p lo).2.1 := by
  have h1 := zDge_le (B := B) (lim := n) (bb := 0) hp
  have h2 := zSk_le (B := B) h1.2
  have h3 := zSk_le (B := B) h2.2
  unfold zRp
  split
  · exact h1.1
  · split
    · next q =>
      have h4 := zRy_ge (B := B) (x := zDgv B ln n 0 p - 1) (eq := true) (n := n) (f := 100) (lo := lo) (zIsn_lt q)
      omega
    · split
      · next q =>
        have h4 := zRy_ge (B := B) (x := zDgv B ln n 0 p - 1) (eq := false) (n := n) (f := 100) (lo := lo) (zIsn_lt q)
        omega
      · show p ≤ zSk B ln (zSk B ln (zDge B ln n 0 p))
        omega
theorem zRy_le {x : Nat} {eq : Bool} : ∀ {f p : Nat} {lo : Nat → Nat}, p ≤ ln → (zRy B ln n x eq f p lo).2.1 ≤ ln
  | 0, p, lo, hp => hp
  | f + 1, p, lo, hp => by
    have h1 := zDge_le (B := B) (lim := n) (bb := x + 1) hp
    rw [zRy]
    split
    · exact h1.2
    · split
      · exact h1.2
      · split
        · next q => exact zRy_le (zIsn_lt q)
        · exact (zSk_le h1.2).2
theorem zRp_le {p : Nat} {lo : Nat → Nat} (hp : p ≤ ln) : (zRp B ln n p lo).2.1 ≤ ln := by
  have h1 := zDge_le (B := B) (lim := n) (bb := 0) hp
  have h2 := zSk_le (B := B) h1.2
  unfold zRp
  split
  · exact h1.2
  · split
    · next q => exact zRy_le (zIsn_lt q)
    · split
      · next q => exact zRy_le (zIsn_lt q)
      · exact (zSk_le h2.2).2
theorem zRy_sk {x : Nat} {eq : Bool} : ∀ {f p : Nat} {lo : Nat → Nat}, p ≤ ln → (zRy B ln n x eq f p lo).1 = false → zSk B ln (zRy B ln n x eq f p lo).2.1 = (zRy B ln n x eq f p lo).2.1
  | 0, p, lo, hp, h => by rw [zRy] at h; cases h
  | f + 1, p, lo, hp, h => by
    rw [zRy] at h ⊢
    split at h
    · next g => rw [if_pos g, zDge_no g]; exact zSk_2 hp
    · next g =>
      rw [if_neg g]
      split at h
      · cases h
      · next g2 =>
        rw [if_neg g2]
        split at h
        · next g3 => rw [if_pos g3]; exact zRy_sk (zIsn_lt g3) h
        · cases h
theorem zRp_sk {p : Nat} {lo : Nat → Nat} (hp : p ≤ ln) (h : (zRp B ln n p lo).1 = false) : zSk B ln (zRp B ln n p lo).2.1 = (zRp B ln n p lo).2.1 := by
  have h1 := zDge_le (B := B) (lim := n) (bb := 0) hp
  have h2 := zSk_le (B := B) h1.2
  unfold zRp at h ⊢
  split at h
  · next g => rw [if_pos g, zDge_no g]; exact zSk_2 hp
  · next g =>
    rw [if_neg g]
    split at h
    · next g2 => rw [if_pos g2]; exact zRy_sk (zIsn_lt g2) h
    · next g2 =>
      rw [if_neg g2]
      split at h
      · next g3 => rw [if_pos g3]; exact zRy_sk (zIsn_lt g3) h
      · next g3 => rw [if_neg g3]; exact zSk_2 h2.2
theorem zRd_sk : ∀ {f p : Nat} {lo : Nat → Nat}, p ≤ ln → (zRd B ln n f p lo).1 = false → zSk B ln (zRd B ln n f p lo).2.1 = (zRd B ln n f p lo).2.1
  | 0, p, lo, hp, h => by rw [zRd] at h; cases h
  | f + 1, p, lo, hp, h => by
    have h3 := zSk_le (B := B) hp
    rw [zRd] at h ⊢
    split at h
    · cases h
    · next g =>
      rw [if_neg g]
      split at h
      · next g2 =>
        rw [if_pos g2]
        split at h
        · next g3 =>
          rw [if_pos g3]
          exact zRd_sk (zRp_le (zIsn_lt g2)) h
        · next g3 => rw [if_neg g3]; exact zRp_sk (zIsn_lt g2) h
      · next g2 => rw [if_neg g2]; exact zSk_2 h3.2
end ZTR
theorem zRead_sk {B : Nat → Nat} {ln : Nat} (h : (zRead B ln).1 = false) : zSk B ln (zRead B ln).2.1 = (zRead B ln).2.1 := by
  unfold zRead at h ⊢
  split at h
  · next g => rw [if_pos g, zDge_no g]; exact zSk_2 (Nat.zero_le _)
  · next g => rw [if_neg g]; exact zRd_sk (zDge_le (Nat.zero_le _)).2 h
theorem zN_at8ge {d : Nat} {t : Nat → Option zI} {pc : Nat} {ls st : List Value} {h : zH} {r : zR → Prop} {nx a b c ln p : Nat} {v : Value} {z : Int} {B : Nat → Nat} (hai : t pc = some (.ifCond .ge z, nx, a, b, c, v)) (hB : ∀ i, i < ln → B i < 256) (K1 : zSk B ln p < ln → zGoP d t a ls st h r) (K2 : ¬ zSk B ln p < ln → zGoP d t nx ls st h r) : zGoP d t pc ls (.int (zAt8 B ln p) :: st) h r := by
  have e := zAt8_lt (p := p) hB
  refine zN_if hai (fun q => K1 ?_) (fun q => K2 ?_)
  · have q : ¬ zAt8 B ln p < 0 := Int32.not_lt.mpr (of_decide_eq_true q)
    have e : decide (zAt8 B ln p < 0) = !decide (zSk B ln p < ln) := e
    rw [decide_eq_false q] at e
    simpa using e
  · have q : zAt8 B ln p < 0 := Int32.not_le.mp (of_decide_eq_false q)
    have e : decide (zAt8 B ln p < 0) = !decide (zSk B ln p < ln) := e
    rw [decide_eq_true q] at e
    simpa using e
/-- how the reading of a text ends -/
def zRdS (B : Nat → Nat) (ln : Nat) (S1 : zRS) : Prop := ∃ q, zTpr S1 B ln q ∧ zSk B ln q = zSk B ln (zRead B ln).2.1 ∧ ((zRead B ln).1 = true → zRs S1 7 (zRead B ln).2.2.1 (zRead B ln).2.2.2)
theorem cr_readsSpace {d r ln : Nat} {h : zH} {S : zRS} {B : Nat → Nat} (hr : 2 ≤ r) (hT : zTpr S B ln 0) : zCallP (d + 5) 263 [.ref r] (zRh h r S) (zRV (.int (nI (b2n (zRead B ln).1))) (zRX h r S zRtk (zRdS B ln))) := by
  have hl := hT.2.2.2.2.1
  have hge := zDge_le (B := B) (ln := ln) (lim := 9) (bb := 0) (Nat.zero_le _)
  have hdv := zDgv_lt (B := B) (ln := ln) (lim := 9) (bb := 0) (p := 0)
  have hTd := hT.to hge.2
  refine zG_mP (t := tX10_readsSpace) (ls0 := [.ref r, .null]) rfl rfl (zdnR zdn0) rfl ?_
  refine zG_s rfl rfl ?_
  refine zG_s rfl rfl ?_
  refine zG_s rfl rfl ?_
  refine zG_cV1 rfl rfl zRh_o rfl rfl (cr_digit (lim := 9) (bb := 0) hr hT (by omega) (by omega)) ?_
  refine zN_st1 rfl (fun _ _ _ => rfl) rfl ?_
  refine zG_s rfl rfl ?_
  refine zN_gebv rfl (by omega) (fun c1 => ?_) (fun c2 => ?_)
  · skip
    obtain ⟨n, hn⟩ : ∃ n, zDgv B ln 9 0 0 = n + 1 := ⟨zDgv B ln 9 0 0 - 1, by omega⟩
    rw [show zbv (zDgv B ln 9 0 0) = nI n from by rw [hn]; rfl]
    have hdz := zDge_yes (B := B) (ln := ln) (lim := 9) (bb := 0) (p := 0) (by omega)
    have hrd : zRead B ln = ((zRd B ln n 100 (zDge B ln 9 0 0) zDisc).1, (zRd B ln n 100 (zDge B ln 9 0 0) zDisc).2.1, n, (zRd B ln n 100 (zDge B ln 9 0 0) zDisc).2.2) := by
      unfold zRead
      rw [if_neg (by omega), hn, Nat.add_sub_cancel]
    generalize hZ : zRd B ln n 100 (zDge B ln 9 0 0) zDisc = Z at *
    refine zG_s rfl rfl ?_
    refine zG_s rfl rfl ?_
    refine zG_s rfl rfl ?_
    refine zG_cQN rfl rfl zRh_o rfl rfl (cr_empties hr (by omega) (show n ≤ 8 by omega)) (fun h1 hB => ?_)
    obtain ⟨S1, rfl, hF1, hS1⟩ := hB
    have hT1 : zTpr S1 B ln (zDge B ln 9 0 0) := hTd.fr hF1 (by unfold zRsp; omega) (by unfold zRsp; omega) (fun j => by unfold zRsp; omega)
    have hFF : zRF zRtk S S1 := (zRF.rf.i (Or.inr ⟨rfl, rfl⟩)).tr (hF1.mono (fun k j g => Or.inl g))
    have main21 : ∀ j, j ≤ 100 → ∀ (pm q2 : Nat) (lo2 : Nat → Nat) (S2 : zRS), ln < pm + (100 - j) → 1 ≤ pm → pm ≤ ln → zSk B ln q2 = zSk B ln pm → zTpr S2 B ln q2 → zRs S2 7 n lo2 → zPre n lo2 → zRF zRtk S S2 → zRd B ln n (100 - j) pm lo2 = Z → zGoP (d + 4) tX10_readsSpace 21 [.ref r, .int (nI n)] [] (zRh h r S2) (zRV (.int (nI (b2n (zRead B ln).1))) (zRX h r S zRtk (zRdS B ln))) := by
      refine zdown (100) ?_ (fun j hp21 ih21 => ?_)
      · skip
        intro pm q2 lo2 S2 hml hp1 hpl hqs hT hS hP2 hF hm
        have hq2 := hT.2.2.2.2.2
        have hTt := hT.to (zSk_b (B := B) (c := 59) hq2)
        refine zG_s rfl rfl ?_
        refine zG_s rfl rfl ?_
        refine zG_cV1 rfl rfl zRh_o rfl rfl (cr_takes hr hT (by decide)) ?_
        first | refine zN_ifb rfl (fun c3 => ?_) (fun c4 => absurd c4 (by omega)) | refine zN_eq0 rfl (by omega) (fun c3 => ?_) (fun c4 => absurd c4 (by omega))
        refine zG_s rfl rfl ?_
        refine zG_cV1 rfl rfl zRh_o rfl rfl (cr_here hr hTt) ?_
        rw [zRi_i]
        refine zN_at8ge rfl hTt.2.2.2.1 (fun c5 => ?_) (fun c6 => ?_)
        · skip
          refine zG_s rfl rfl ?_
          -- leaf 1
          exact absurd hml (by omega)
        · skip
          refine zG_s rfl rfl ?_
          refine zG_s rfl rfl ?_
          -- leaf 2
          exact absurd hml (by omega)
      · skip
        intro pm q2 lo2 S2 hml hp1 hpl hqs hT hS hP2 hF hm
        have hq2 := hT.2.2.2.2.2
        have hsk2 := zSk_le (B := B) hpl
        have hs22 := zSk_2 (B := B) hpl
        rw [show 100 - j = (100 - (j + 1)) + 1 by omega, zRd] at hm
        have hei : zIsn B ln q2 59 = zIsn B ln (zSk B ln pm) 59 := zIsn_sk (by rw [hs22, hqs])
        have hTt := hT.to (zSk_b (B := B) (c := 59) hq2)
        have hFt := hF.i (w := nI (zSk B ln q2 + b2n (zIsn B ln q2 59))) (show zRtk 0 28 from Or.inr ⟨rfl, rfl⟩)
        have hSt : zRs (zRi S2 28 (nI (zSk B ln q2 + b2n (zIsn B ln q2 59)))) 7 n lo2 := hS
        refine zG_s rfl rfl ?_
        refine zG_s rfl rfl ?_
        refine zG_cV1 rfl rfl zRh_o rfl rfl (cr_takes hr hT (by decide)) ?_
        first | refine zN_ifb rfl (fun c7 => ?_) (fun c8 => ?_) | refine zN_eq0 rfl (by omega) (fun c7 => ?_) (fun c8 => ?_)
        · skip
          refine zG_s rfl rfl ?_
          refine zG_cV1 rfl rfl zRh_o rfl rfl (cr_here hr hTt) ?_
          rw [zRi_i]
          refine zN_at8ge rfl hTt.2.2.2.1 (fun c9 => ?_) (fun c10 => ?_)
          · skip
            refine zG_s rfl rfl ?_
            -- leaf 3
            have ha : zSk B ln q2 + b2n (zIsn B ln q2 59) = zSk B ln pm := by rw [c7, hqs]; rfl
            rw [ha, hs22] at c9
            have hz : Z = (false, zSk B ln (zSk B ln pm), lo2) := by rw [← hm, if_neg (by omega), if_neg (by rw [← hei, c7]; decide)]
            exact zG_ret rfl rfl ⟨by rw [hrd, hz]; rfl, _, rfl, hF.i (Or.inr ⟨rfl, rfl⟩), _, hT.to (zSk_le (zSk_b (c := 59) hq2)).2, by rw [hrd, hz, ha], fun g => by rw [hrd, hz] at g; cases g⟩
          · skip
            refine zG_s rfl rfl ?_
            refine zG_s rfl rfl ?_
            -- leaf 4
            have ha : zSk B ln q2 + b2n (zIsn B ln q2 59) = zSk B ln pm := by rw [c7, hqs]; rfl
            rw [ha, hs22] at c10
            have hz : Z = (true, zSk B ln pm, lo2) := by rw [← hm, if_pos (by omega)]
            exact zG_ret rfl rfl ⟨by rw [hrd, hz]; rfl, _, rfl, hF.i (Or.inr ⟨rfl, rfl⟩), _, hT.to (zSk_le (zSk_b (c := 59) hq2)).2, by rw [hrd, hz, ha]; exact zSk_2 hsk2.2, fun g => by rw [hrd, hz]; exact hS⟩
        · skip
          refine zG_s rfl rfl ?_
          refine zG_s rfl rfl ?_
          refine zG_cQV rfl rfl zRh_o rfl rfl (cr_readsItem hr hTt (by omega) hSt hP2) (fun h3 hB => ?_)
          obtain ⟨S3, rfl, hF3, q3, hT3, hs3, hS3⟩ := hB
          refine zN_ifnb rfl (fun c11 => ?_) (fun c12 => ?_)
          · skip
            -- leaf 5
            have hb1 : b2n (zIsn B ln q2 59) = 1 := by rw [c8]; rfl
            have ea : zSk B ln q2 + b2n (zIsn B ln q2 59) = zSk B ln (zSk B ln pm) + 1 := by rw [hb1, hs22, hqs]
            have hlt := zIsn_lt (hei.symm.trans c8)
            rw [ea] at c11 hs3 hS3
            rw [if_neg (by omega), if_pos (hei.symm.trans c8), if_pos c11] at hm
            have hge3 := zRp_ge (B := B) (n := n) (lo := lo2) hlt
            exact ih21 _ q3 _ S3 (by omega) (by omega) (zRp_le hlt) hs3 hT3 hS3 (zRp_ok hlt hP2).2 (hFt.tr hF3) hm
          · skip
            refine zG_s rfl rfl ?_
            -- leaf 6
            have hb1 : b2n (zIsn B ln q2 59) = 1 := by rw [c8]; rfl
            have ea : zSk B ln q2 + b2n (zIsn B ln q2 59) = zSk B ln (zSk B ln pm) + 1 := by rw [hb1, hs22, hqs]
            have hlt := zIsn_lt (hei.symm.trans c8)
            rw [ea] at c12 hs3
            rw [if_neg (by omega), if_pos (hei.symm.trans c8), if_neg (by rw [c12]; decide)] at hm
            exact zG_ret rfl rfl ⟨by rw [hrd, ← hm, c12]; rfl, S3, rfl, hFt.tr hF3, q3, hT3, by rw [hrd, ← hm]; exact hs3, fun g => by rw [hrd, ← hm, c12] at g; cases g⟩
    exact main21 0 (by omega) _ _ _ _ (by omega) (by omega) hge.2 rfl hT1 hS1 (zPre_disc (by omega)) hFF hZ
  · skip
    refine zG_s rfl rfl ?_
    -- leaf 7
    have hz : zRead B ln = (false, zDge B ln 9 0 0, 0, zDisc) := by unfold zRead; rw [if_pos c2]
    exact zG_ret rfl rfl ⟨by rw [hz]; rfl, _, rfl, zRF.rf.i (Or.inr ⟨rfl, rfl⟩), _, hTd, by rw [hz], fun g => by rw [hz] at g; cases g⟩
