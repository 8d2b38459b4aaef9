def zRtpP (k j : Nat) : Prop := k = 17 ∨ k = 0 ∧ j = 27
theorem zRI.u_tp {P : Nat → Nat → Prop} {S S1 : zRS} {s : zST} {ln : Nat} {B : Nat → Nat} (hX : zr_tp S1 (ln, B)) (hI : zRI S s) (hW : zWT s) (hF : zRF P S S1) (hP : ∀ k j, P k j → zScr k j ∨ zRtpP k j) : zRI S1 (zsTp s ln B) :=
  ⟨hI.sp.fr (fun i hi => (hW.1 i hi).1) hF (fun k j g h => by have := hP k j h; unfold zScr zRtpP at this; omega), hI.kp.fr hF (fun k j g h => by have := hP k j h; unfold zScr zRtpP at this; omega), hI.z.fr hF (fun j g1 g2 h => by have := hP 0 j h; unfold zScr zRtpP at this; omega), hX, hI.sh.fr hF (fun k j g1 g2 h => by have := hP k j h; unfold zScr zRtpP at this; omega), hI.hv.fr hF (fun k j g1 g2 h => by have := hP k j h; unfold zScr zRtpP at this; omega), hI.tr.fr hF (fun h => by have := hP 0 37 h; unfold zScr zRtpP at this; omega) (fun j h => by have := hP 25 j h; unfold zScr zRtpP at this; omega)⟩
theorem zl255 (w : Int64) : (w &&& 255).toInt32 = nI (w.toInt32.toBitVec.toNat % 256) := by
  apply Int32.toBitVec_inj.mp
  apply BitVec.eq_of_toNat_eq
  have e1 : (w &&& 255).toInt32.toBitVec.toNat = (w.toBitVec.toNat &&& 255) % 2 ^ 32 := by
    rw [Int64.toBitVec_toInt32, BitVec.signExtend_eq_setWidth_of_le _ (by decide), BitVec.toNat_setWidth, Int64.toBitVec_and, BitVec.toNat_and]; rfl
  have e2 : w.toInt32.toBitVec.toNat = w.toBitVec.toNat % 2 ^ 32 := by rw [Int64.toBitVec_toInt32, BitVec.signExtend_eq_setWidth_of_le _ (by decide), BitVec.toNat_setWidth]
  rw [e1, e2]
  show _ = (w.toBitVec.toNat % 2 ^ 32 % 256) % 2 ^ 32
  rw [show w.toBitVec.toNat &&& 255 = w.toBitVec.toNat % 256 from Nat.and_two_pow_sub_one_eq_mod _ 8]
  omega
theorem cr_feed {d r : Nat} {h : zH} {S : zRS} {s : zST} {e : Int64} {b : Int32} (hr : 2 ≤ r) (hI : zRI S s) (hW : zWT s) : zCallP (d + 2) 258 [.ref r, .long e, .int b] (zRh h r S) (zROut h r (zo_feed s e b)) := by
  refine zG_mP (t := tX10_feed) (ls0 := [.ref r, .long e, .null, .int b, .null]) rfl rfl (zdnR (zdnL (zdnI zdn0))) rfl ?_
  refine zG_s rfl rfl ?_
  refine zG_s rfl rfl ?_
  refine zG_s rfl rfl ?_
  refine zG_cS1 rfl rfl cr_in ?_
  refine zN_ifnb rfl (fun c1 => ?_) (fun c2 => ?_)
  · skip
    obtain ⟨n, hn, hn0, rfl⟩ := zbt1_of (by decide) c1
    obtain ⟨hln, hB⟩ := hW.2.2.1
    have htp := hI.tp
    have hrs : zo_feed s e (nI n) = if 100 < s.2.2.2.1.1 + n then (-2, s) else (nI (s.2.2.2.1.1 + n), zsTp s (s.2.2.2.1.1 + n) (fun j => if j < s.2.2.2.1.1 then s.2.2.2.1.2 j else zEb e (j - s.2.2.2.1.1))) := by rw [zo_feed, zb1_i hn hn0 (by decide)]
    refine zG_s rfl rfl ?_
    refine zN_get rfl zRh_o rfl ?_
    rw [htp.1]
    refine zG_s rfl rfl ?_
    refine zN_add rfl ?_
    refine zG_s rfl rfl ?_
    refine zN_ile rfl (by omega) (by omega) (fun c3 => ?_) (fun c4 => ?_)
    · skip
      refine zG_s rfl rfl ?_
      refine zN_st4 rfl (fun _ _ _ => rfl) rfl ?_
      have main29 : ∀ q, q ≤ n → ∀ S1 : zRS, zRF zRtpP S S1 → S1.1 27 = nI (s.2.2.2.1.1 + q) → (∀ j, j < s.2.2.2.1.1 + q → S1.2.1 17 j = nI (if j < s.2.2.2.1.1 then s.2.2.2.1.2 j else zEb e (j - s.2.2.2.1.1))) → zGoP (d + 1) tX10_feed 29 [.ref r, .long e, .null, .int (nI n), .int (nI q)] [] (zRh h r S1) (zROut h r (zo_feed s e (nI n))) := by
        refine zdown (n) ?_ (fun q hp29 ih29 => ?_)
        · skip
          intro S1 hF h27 hA
          refine zG_s rfl rfl ?_
          refine zG_s rfl rfl ?_
          refine zN_ige rfl (by omega) (by omega) (fun c5 => ?_) (fun c6 => absurd c6 (by omega))
          refine zG_s rfl rfl ?_
          refine zN_get rfl zRh_o rfl ?_
          rw [h27]
          -- leaf 1
          exact zG_ret rfl rfl (zRfin (by rw [hrs, if_neg (by omega)]) (zRI.u_tp (P := zRtpP) (B := fun j => if j < s.2.2.2.1.1 then s.2.2.2.1.2 j else zEb e (j - s.2.2.2.1.1)) ⟨h27, hA⟩ hI hW hF (fun k j g => Or.inr g)))
        · skip
          intro S1 hF h27 hA
          refine zG_s rfl rfl ?_
          refine zG_s rfl rfl ?_
          refine zN_ige rfl (by omega) (by omega) (fun c7 => absurd c7 (by omega)) (fun c8 => ?_)
          refine zG_s rfl rfl ?_
          refine zN_get rfl zRh_o rfl ?_
          refine zG_s rfl rfl ?_
          refine zN_get rfl zRh_o rfl ?_
          rw [h27]
          refine zG_s rfl rfl ?_
          refine zG_s rfl rfl ?_
          refine zG_s rfl rfl ?_
          refine zN_mul rfl ?_
          refine zG_s rfl rfl ?_
          refine zG_s rfl rfl ?_
          refine zG_s rfl rfl ?_
          refine zG_s (st' := [.int (nI (zEb e q)), .int (nI (s.2.2.2.1.1 + q)), .ref (r + 17)]) rfl (by rw [show (.int (nI (zEb e q)) : Value) = .int ((e >>> ((nI (8 * q)).toInt64 &&& 63) &&& 255).toInt32) from by rw [zl255]; rfl]; rfl) ?_
          refine zR_ast (k := 17) (n := 100) rfl rfl (by omega) hr ?_
          refine zG_s rfl rfl ?_
          refine zG_s rfl rfl ?_
          refine zN_get rfl zRh_o rfl ?_
          rw [show ∀ w, (zRa S1 17 (s.2.2.2.1.1 + q) w).1 27 = nI (s.2.2.2.1.1 + q) from fun w => h27]
          refine zG_s rfl rfl ?_
          refine zN_add rfl ?_
          refine zR_put rfl rfl rfl (fun _ => rfl) ?_
          refine zN_inc4 rfl rfl ?_
          refine zG_s rfl rfl ?_
          -- leaf 2
          refine ih29 _ ((hF.a (Or.inl rfl)).i (Or.inr ⟨rfl, rfl⟩)) zRi_at (fun j hj => ?_)
          show (zRa S1 17 (s.2.2.2.1.1 + q) _).2.1 17 j = _
          by_cases g : j = s.2.2.2.1.1 + q
          · rw [g, zRa_at, if_neg (by omega), show s.2.2.2.1.1 + q - s.2.2.2.1.1 = q by omega]
          · rw [zRa_ne (Or.inr g)]; exact hA j (by omega)
      exact main29 0 (by omega) _ zRF.rf htp.1 (fun j hj => by rw [if_pos (by omega)]; exact htp.2 j (by omega))
    · skip
      refine zG_s rfl rfl ?_
      -- leaf 3
      exact zG_ret rfl rfl (zRfin (by rw [hrs, if_pos (by omega)]) hI)
  · skip
    refine zG_s rfl rfl ?_
    -- leaf 4
    exact zG_ret rfl rfl (zRfin (by rw [zo_feed, zb1_no (zbt1_no (by decide) c2)]) hI)
theorem cr_space {d r : Nat} {h : zH} {S : zRS} {s : zST} {a : Int32} (hr : 2 ≤ r) (hI : zRI S s) (hW : zWT s) : zCallP (d + 6) 264 [.ref r, .int a] (zRh h r S) (zROut h r (zo_space s a)) := by
  refine zG_mP (t := tX10_space) (ls0 := [.ref r, .int a, .null, .null]) rfl rfl (zdnR (zdnI zdn0)) rfl ?_
  refine zG_s rfl rfl ?_
  refine zG_cS1 rfl rfl cr_isSpace ?_
  refine zN_ifnb rfl (fun c1 => ?_) (fun c2 => ?_)
  · skip
    obtain ⟨i, hi, rfl⟩ := zin_of c1 (by omega)
    obtain ⟨hln, hB⟩ := hW.2.2.1
    have htp := hI.tp
    have hrs : zo_space s (nI i) = if (zRead s.2.2.2.1.2 s.2.2.2.1.1).1 then (nI (zRead s.2.2.2.1.2 s.2.2.2.1.1).2.2.1, zsSp (zsTp s 0 s.2.2.2.1.2) i (zRead s.2.2.2.1.2 s.2.2.2.1.1).2.2.1 (zRead s.2.2.2.1.2 s.2.2.2.1.1).2.2.2) else (-100 - nI (zRead s.2.2.2.1.2 s.2.2.2.1.1).2.1, zsTp s 0 s.2.2.2.1.2) := by rw [zo_space, zb_i hi (by omega)]
    have hT0 : zTpr (zRi S 28 (nI 0)) s.2.2.2.1.2 s.2.2.2.1.1 0 := ⟨zRi_at, (zRi_ne (by decide)).trans htp.1, htp.2, hB, hln, Nat.zero_le _⟩
    have hF0 : zRF zRtk S (zRi S 28 (nI 0)) := zRF.rf.i (Or.inr ⟨rfl, rfl⟩)
    generalize hZ : zRead s.2.2.2.1.2 s.2.2.2.1.1 = Z at *
    refine zG_s rfl rfl ?_
    refine zG_s rfl rfl ?_
    refine zR_put rfl rfl rfl (fun _ => rfl) ?_
    refine zG_s rfl rfl ?_
    refine zG_cQV rfl rfl zRh_o rfl rfl (cr_readsSpace hr hT0) (fun h1 hB => ?_)
    obtain ⟨S1, rfl, hF1, q, hT1, hsq, hsp⟩ := hB
    rw [hZ] at hsq hsp ⊢
    have hq := hT1.2.2.2.2.2
    have hsk := zSk_le (B := s.2.2.2.1.2) hq
    have hTa := hT1.to hsk.2
    have hF2 := (hF0.tr hF1).i (w := nI (zSk s.2.2.2.1.2 s.2.2.2.1.1 q)) (show zRtk 0 28 from Or.inr ⟨rfl, rfl⟩)
    have hsp2 : Z.1 = true → zRs (zRi S1 28 (nI (zSk s.2.2.2.1.2 s.2.2.2.1.1 q))) 7 Z.2.2.1 Z.2.2.2 := hsp
    have hsk0 : Z.1 = false → Z.2.1 = zSk s.2.2.2.1.2 s.2.2.2.1.1 q := fun g => by rw [hsq, ← hZ]; exact (zRead_sk (by rw [hZ]; exact g)).symm
    have hpre : Z.1 = true → zPre Z.2.2.1 Z.2.2.2 := fun g => by rw [← hZ]; exact zRead_pre (by rw [hZ]; exact g)
    generalize hS9 : zRi S1 28 (nI (zSk s.2.2.2.1.2 s.2.2.2.1.1 q)) = S9 at *
    refine zN_st2 rfl (fun _ _ _ => rfl) rfl ?_
    refine zG_s rfl rfl ?_
    refine zG_cV1 rfl rfl zRh_o rfl rfl (cr_here hr hT1) ?_
    rw [hS9]
    have jn37 : ∀ w, w = zSk s.2.2.2.1.2 s.2.2.2.1.1 q → zGoP (d + 5) tX10_space 37 [.ref r, .int (nI i), .int (nI (b2n Z.1)), .null] [.int (nI w)] (zRh h r S9) (zROut h r (zo_space s (nI i))) := by
      intro w hw
      refine zN_st3 rfl (fun _ _ _ => rfl) rfl ?_
      refine zG_s rfl rfl ?_
      refine zG_s rfl rfl ?_
      refine zR_put rfl rfl rfl (fun _ => rfl) ?_
      have hI2 : zRI (zRi S9 27 (nI 0)) (zsTp s 0 s.2.2.2.1.2) := zRI.u_tp (P := fun k j => zRtk k j ∨ zRtpP k j) ⟨zRi_at, fun j hj => absurd hj (Nat.not_lt_zero j)⟩ hI hW ((hF2.mono (fun k j g => Or.inl g)).i (Or.inr (Or.inr ⟨rfl, rfl⟩))) (fun k j g => g.elim (fun g => Or.inl (by unfold zRtk zRsp at g; unfold zScr; omega)) Or.inr)
      have hW2 : zWT (zsTp s 0 s.2.2.2.1.2) := hW.tp (by omega) (fun j hj => absurd hj (Nat.not_lt_zero j))
      refine zG_s rfl rfl ?_
      refine zN_ifnb rfl (fun c3 => ?_) (fun c4 => ?_)
      · skip
        refine zG_s rfl rfl ?_
        refine zG_s rfl rfl ?_
        refine zG_s rfl rfl ?_
        refine zG_cQN rfl rfl zRh_o rfl rfl (cr_copies hr (show zRs (zRi S9 27 (nI 0)) 7 _ _ from hsp2 (by assumption)) (hpre (by assumption)).1 (show i < 10 by omega) (by omega)) (fun h3 hB => ?_)
        obtain ⟨S3, rfl, hF3, hS3⟩ := hB
        refine zG_s rfl rfl ?_
        refine zN_get rfl zRh_o rfl ?_
        refine zG_s rfl rfl ?_
        refine zR_ald (k := 3) (n := 10) rfl rfl (by omega) hS3.1 ?_
        -- leaf 1
        exact zG_ret rfl rfl (zRfin (by rw [hrs, if_pos c3]) (hI2.u_sp hi hS3 hW2 hF3 (fun k j g => Or.inr g)))
      · skip
        refine zG_s rfl rfl ?_
        refine zG_s rfl rfl ?_
        refine zG_s rfl rfl ?_
        -- leaf 2
        exact zG_ret rfl rfl (zRfin (by rw [hrs, if_neg (by rw [c4]; decide), hsk0 c4, hw]) hI2)
    refine zN_at8ge rfl hT1.2.2.2.1 (fun c5 => ?_) (fun c6 => ?_)
    · skip
      refine zG_s rfl rfl ?_
      refine zN_get rfl zRh_o rfl ?_
      rw [hTa.1]
      -- leaf 3
      exact jn37 _ rfl
    · skip
      refine zG_s rfl rfl ?_
      refine zN_get rfl zRh_o rfl ?_
      rw [hTa.2.1]
      refine zG_s rfl rfl ?_
      -- leaf 4
      exact jn37 _ (by omega)
  · skip
    refine zG_s rfl rfl ?_
    -- leaf 5
    exact zG_ret rfl rfl (zRfin (by rw [zo_space, zb_no c2]) hI)
