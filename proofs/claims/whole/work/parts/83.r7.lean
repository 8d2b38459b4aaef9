theorem cr_isOrder {d : Nat} {h : zH} {v : Int32} : zCall (d + 2) 209 [.int v] h (some (.int (nI (b2n (zin v 4)))), h) := by
  refine zG_m (t := tX10_isOrder) (ls0 := [.int v]) rfl rfl (zdnI zdn0) rfl ?_
  refine zG_s rfl rfl ?_
  refine zG_s rfl rfl ?_
  refine zG_s rfl rfl ?_
  refine zG_cS1 rfl rfl cr_inc ?_
  -- leaf 1
  exact zG_retb rfl (fun k => by cases k <;> rfl) rfl
theorem cr_isSheet {d : Nat} {h : zH} {v : Int32} : zCall (d + 2) 267 [.int v] h (some (.int (nI (b2n (zin v 4)))), h) := by
  refine zG_m (t := tX10_isSheet) (ls0 := [.int v]) rfl rfl (zdnI zdn0) rfl ?_
  refine zG_s rfl rfl ?_
  refine zG_s rfl rfl ?_
  refine zG_s rfl rfl ?_
  refine zG_cS1 rfl rfl cr_inc ?_
  -- leaf 1
  exact zG_retb rfl (fun k => by cases k <;> rfl) rfl
theorem cr_points {d r : Nat} {h : zH} {S : zRS} {s : zST} {a b : Int32} (hr : 2 ≤ r) (hI : zRI S s) (hW : zWT s) : zCallP (d + 3) 178 [.ref r, .int a, .int b] (zRh h r S) (zROut h r (zo_points s a b)) := by
  refine zG_mP (t := tX10_points) (ls0 := [.ref r, .int a, .int b, .null]) rfl rfl (zdnR (zdnI (zdnI zdn0))) rfl ?_
  refine zG_s rfl rfl ?_
  refine zG_cS1 rfl rfl cr_isSpace ?_
  refine zN_ifb rfl (fun c1 => ?_) (fun c2 => ?_)
  · skip
    refine zG_s rfl rfl ?_
    -- leaf 1
    exact zG_ret rfl rfl (zRfin (by rw [zo_points, zb_no c1]) hI)
  · skip
    obtain ⟨i, hi, rfl⟩ := zin_of c2 (by omega)
    have hS := hI.sp i hi
    refine zG_s rfl rfl ?_
    refine zG_s rfl rfl ?_
    refine zG_s rfl rfl ?_
    refine zG_cS1 rfl rfl cr_inc ?_
    refine zN_ifnb rfl (fun c3 => ?_) (fun c4 => ?_)
    · skip
      obtain ⟨m, hm, rfl⟩ := zin_of c3 (by omega)
      refine zG_s rfl rfl ?_
      refine zN_get rfl zRh_o rfl ?_
      refine zG_s rfl rfl ?_
      refine zR_ald (k := 3) (n := 10) rfl rfl (by omega) hS.1 ?_
      refine zN_st3 rfl (fun _ _ _ => rfl) rfl ?_
      refine zG_s rfl rfl ?_
      refine zG_s rfl rfl ?_
      refine zG_s rfl rfl ?_
      refine zG_cQN rfl rfl zRh_o rfl rfl (cr_empties hr (by omega) (by omega)) (fun h1 hB => ?_)
      obtain ⟨S1, rfl, hF1, hS1⟩ := hB
      have hI := hI.u_sp hi hS1 hW hF1 (fun k j g => Or.inr g)
      refine zG_s rfl rfl ?_
      -- leaf 2
      exact zG_ret rfl rfl (zRfin (by rw [zo_points, zb_i hi (by omega), zb_i hm (by omega)]; first | done | rfl) hI)
    · skip
      refine zG_s rfl rfl ?_
      -- leaf 3
      exact zG_ret rfl rfl (zRfin (by rw [zo_points, zb_i hi (by omega), zb_no c4]) hI)
theorem cr_nest {d r : Nat} {h : zH} {S : zRS} {s : zST} {a b c : Int32} (hr : 2 ≤ r) (hI : zRI S s) (hW : zWT s) : zCallP (d + 4) 180 [.ref r, .int a, .int b, .int c] (zRh h r S) (zROut h r (zo_nest s a b c)) := by
  refine zG_mP (t := tX10_nest) (ls0 := [.ref r, .int a, .int b, .int c]) rfl rfl (zdnR (zdnI (zdnI (zdnI zdn0)))) rfl ?_
  refine zG_s rfl rfl ?_
  refine zG_cS1 rfl rfl cr_isSpace ?_
  refine zN_ifb rfl (fun c1 => ?_) (fun c2 => ?_)
  · skip
    refine zG_s rfl rfl ?_
    -- leaf 1
    exact zG_ret rfl rfl (zRfin (by rw [zo_nest, zb_no c1]) hI)
  · skip
    obtain ⟨i, hi, rfl⟩ := zin_of c2 (by omega)
    have hS := hI.sp i hi
    have hP := hW.1 i hi
    have hn8 := hP.1
    refine zG_s rfl rfl ?_
    refine zG_s rfl rfl ?_
    refine zG_s rfl rfl ?_
    refine zG_cV1 rfl rfl zRh_o rfl rfl (cr_isPoint hS (by omega)) ?_
    refine zN_ifb rfl (fun c3 => ?_) (fun c4 => ?_)
    · skip
      refine zG_s rfl rfl ?_
      -- leaf 2
      exact zG_ret rfl rfl (zRfin (by rw [zo_nest, zb_i hi (by omega), zb_no c3]) hI)
    · skip
      obtain ⟨x, hx, rfl⟩ := zin_of c4 (by omega)
      refine zG_s rfl rfl ?_
      refine zG_s rfl rfl ?_
      refine zG_s rfl rfl ?_
      refine zG_cV1 rfl rfl zRh_o rfl rfl (cr_isPoint hS (by omega)) ?_
      refine zN_ifb rfl (fun c5 => ?_) (fun c6 => ?_)
      · skip
        refine zG_s rfl rfl ?_
        -- leaf 3
        exact zG_ret rfl rfl (zRfin (by rw [zo_nest, zb_i hi (by omega), zb_i hx (by omega), zb_no c5]) hI)
      · skip
        obtain ⟨y, hy, rfl⟩ := zin_of c6 (by omega)
        refine zG_s rfl rfl ?_
        refine zG_s rfl rfl ?_
        refine zG_s rfl rfl ?_
        refine zG_s rfl rfl ?_
        refine zG_cQV rfl rfl zRh_o rfl rfl (cr_nests hr hS hP hx hy) (fun h1 hB => ?_)
        obtain ⟨S1, rfl, hF1, hS1⟩ := hB
        have hI := hI.u_sp hi hS1 hW hF1 (fun k j g => Or.inr g)
        refine zG_s rfl rfl ?_
        -- leaf 4
        exact zG_ret rfl rfl (zRfin (by rw [zo_nest, zb_i hi (by omega), zb_i hx (by omega), zb_i hy (by omega)]; first | done | rfl) hI)
theorem cr_of {d r : Nat} {h : zH} {S : zRS} {s : zST} {a b c : Int32} (hr : 2 ≤ r) (hI : zRI S s) (hW : zWT s) : zCallP (d + 12) 195 [.ref r, .int a, .int b, .int c] (zRh h r S) (zROut h r (zo_of s a b c)) := by
  refine zG_mP (t := tX10_of) (ls0 := [.ref r, .int a, .int b, .int c, .null]) rfl rfl (zdnR (zdnI (zdnI (zdnI zdn0)))) rfl ?_
  refine zG_s rfl rfl ?_
  refine zG_cS1 rfl rfl cr_isSpace ?_
  refine zN_ifb rfl (fun c1 => ?_) (fun c2 => ?_)
  · skip
    refine zG_s rfl rfl ?_
    -- leaf 1
    exact zG_ret rfl rfl (zRfin (by rw [zo_of, zb_no c1]) hI)
  · skip
    obtain ⟨i, hi, rfl⟩ := zin_of c2 (by omega)
    have hS := hI.sp i hi
    have hP := hW.1 i hi
    have hn8 := hP.1
    have hpw := zpow_le hn8
    have hi10 : i < 10 := by omega
    refine zG_s rfl rfl ?_
    refine zG_s rfl rfl ?_
    refine zG_s rfl rfl ?_
    refine zG_cV1 rfl rfl zRh_o rfl rfl (cr_isPoint hS (by omega)) ?_
    refine zN_ifnb rfl (fun c3 => ?_) (fun c4 => ?_)
    · skip
      obtain ⟨x, hx, rfl⟩ := zin_of c3 (by omega)
      have hab : (1 <<< (s.1 i).1 - 1).testBit x = true := by rw [zall_bit]; exact decide_eq_true hx
      refine zG_s rfl rfl ?_
      refine zG_s rfl rfl ?_
      refine zG_cV1 rfl rfl zRh_o rfl rfl (cr_all hS (by omega)) ?_
      refine zN_st4 rfl (fun _ _ _ => rfl) rfl ?_
      refine zG_s rfl rfl ?_
      rcases zcs6 c with c5 | c6 | c7 | c8 | c9 | c10 | c11
      · skip
        subst c5
        refine zG_s rfl rfl ?_
        refine zG_s rfl rfl ?_
        refine zN_get rfl zRh_o rfl ?_
        refine zG_s rfl rfl ?_
        refine zG_s rfl rfl ?_
        refine zN_mul rfl ?_
        refine zG_s rfl rfl ?_
        refine zN_add rfl ?_
        refine zR_ald (k := 1) (n := 80) rfl rfl (by omega) (hS.2.2 _ (by omega)).1 ?_
        -- leaf 2
        exact zG_ret rfl rfl (zRfin (by rw [zo_of, zb_i hi (by omega), zb_i hx (by omega), zb_i (show 0 < 6 by decide) (by omega)]; first | done | rfl) hI)
      · skip
        subst c6
        refine zG_s rfl rfl ?_
        refine zG_s rfl rfl ?_
        refine zN_get rfl zRh_o rfl ?_
        refine zG_s rfl rfl ?_
        refine zG_s rfl rfl ?_
        refine zN_mul rfl ?_
        refine zG_s rfl rfl ?_
        refine zN_add rfl ?_
        refine zR_ald (k := 2) (n := 80) rfl rfl (by omega) (hS.2.2 _ (by omega)).2 ?_
        -- leaf 3
        exact zG_ret rfl rfl (zRfin (by rw [zo_of, zb_i hi (by omega), zb_i hx (by omega), zb_i (show 1 < 6 by decide) (by omega)]; first | done | rfl) hI)
      · skip
        subst c7
        refine zG_s rfl rfl ?_
        refine zG_s rfl rfl ?_
        refine zG_s rfl rfl ?_
        refine zG_s rfl rfl ?_
        refine zG_cV1 rfl rfl zRh_o rfl rfl (cr_heightOf hS hP (by omega)) ?_
        -- leaf 4
        exact zG_ret rfl rfl (zRfin (by rw [zo_of, zb_i hi (by omega), zb_i hx (by omega), zb_i (show 2 < 6 by decide) (by omega)]; first | done | rfl) hI)
      · skip
        subst c8
        refine zG_s rfl rfl ?_
        refine zG_s rfl rfl ?_
        refine zG_s rfl rfl ?_
        refine zG_s rfl rfl ?_
        refine zG_s rfl rfl ?_
        refine zG_cV1 rfl rfl zRh_o rfl rfl (cr_alikeTo hS hP.1 hx) ?_
        rw [zAk_all hP hx]
        -- leaf 5
        exact zG_ret rfl rfl (zRfin (by rw [zo_of, zb_i hi (by omega), zb_i hx (by omega), zb_i (show 3 < 6 by decide) (by omega)]; first | done | rfl) hI)
      · skip
        subst c9
        refine zG_s rfl rfl ?_
        refine zG_s rfl rfl ?_
        refine zG_s rfl rfl ?_
        refine zG_s rfl rfl ?_
        refine zG_cV1 rfl rfl zRh_o rfl rfl (cr_partOf hS hP (by omega)) ?_
        -- leaf 6
        exact zG_ret rfl rfl (zRfin (by rw [zo_of, zb_i hi (by omega), zb_i hx (by omega), zb_i (show 4 < 6 by decide) (by omega)]; first | done | rfl) hI)
      · skip
        subst c10
        refine zG_s rfl rfl ?_
        refine zG_s rfl rfl ?_
        refine zG_s rfl rfl ?_
        refine zG_s rfl rfl ?_
        refine zG_s rfl rfl ?_
        refine zG_cV1 rfl rfl zRh_o rfl rfl (cr_isDown hS hP (by omega) (by assumption) (by omega)) ?_
        first | refine zN_ifb rfl (fun c12 => ?_) (fun c13 => ?_) | refine zN_eq0 rfl (by omega) (fun c12 => ?_) (fun c13 => ?_)
        · skip
          refine zG_s rfl rfl ?_
          refine zG_s rfl rfl ?_
          refine zG_s rfl rfl ?_
          refine zG_s rfl rfl ?_
          refine zG_s rfl rfl ?_
          refine zG_cV1 rfl rfl zRh_o rfl rfl (cr_isUp hS hP (by omega) (by assumption) (by omega)) ?_
          first | refine zN_ifb rfl (fun c14 => ?_) (fun c15 => ?_) | refine zN_eq0 rfl (by omega) (fun c14 => ?_) (fun c15 => ?_)
          · skip
            refine zG_s rfl rfl ?_
            refine zN_add rfl ?_
            refine zG_s rfl rfl ?_
            refine zG_s rfl rfl ?_
            refine zG_s rfl rfl ?_
            refine zG_s rfl rfl ?_
            refine zG_s rfl rfl ?_
            refine zG_cV1 rfl rfl zRh_o rfl rfl (cr_mayGo hS hP (by omega) (by omega) (by assumption) (by omega)) ?_
            first | refine zN_ifb rfl (fun c16 => ?_) (fun c17 => ?_) | refine zN_eq0 rfl (by omega) (fun c16 => ?_) (fun c17 => ?_)
            · skip
              refine zG_s rfl rfl ?_
              refine zN_add rfl ?_
              -- leaf 7
              exact zG_ret rfl rfl (zRfin (by rw [zo_of, zb_i hi (by omega), zb_i hx (by omega), zb_i (show 5 < 6 by decide) (by omega)]; show (nI (zBeats (s.1 i).1 (s.1 i).2 (zTr (s.1 i).1 (s.1 i).2) x), s) = _; rw [zBeats, c12, c14, c16]; rfl) hI)
            · skip
              refine zG_s rfl rfl ?_
              refine zG_s rfl rfl ?_
              refine zN_add rfl ?_
              -- leaf 8
              exact zG_ret rfl rfl (zRfin (by rw [zo_of, zb_i hi (by omega), zb_i hx (by omega), zb_i (show 5 < 6 by decide) (by omega)]; show (nI (zBeats (s.1 i).1 (s.1 i).2 (zTr (s.1 i).1 (s.1 i).2) x), s) = _; rw [zBeats, c12, c14, c17]; rfl) hI)
          · skip
            refine zG_s rfl rfl ?_
            refine zG_s rfl rfl ?_
            refine zN_add rfl ?_
            refine zG_s rfl rfl ?_
            refine zG_s rfl rfl ?_
            refine zG_s rfl rfl ?_
            refine zG_s rfl rfl ?_
            refine zG_s rfl rfl ?_
            refine zG_cV1 rfl rfl zRh_o rfl rfl (cr_mayGo hS hP (by omega) (by omega) (by assumption) (by omega)) ?_
            first | refine zN_ifb rfl (fun c18 => ?_) (fun c19 => ?_) | refine zN_eq0 rfl (by omega) (fun c18 => ?_) (fun c19 => ?_)
            · skip
              refine zG_s rfl rfl ?_
              refine zN_add rfl ?_
              -- leaf 9
              exact zG_ret rfl rfl (zRfin (by rw [zo_of, zb_i hi (by omega), zb_i hx (by omega), zb_i (show 5 < 6 by decide) (by omega)]; show (nI (zBeats (s.1 i).1 (s.1 i).2 (zTr (s.1 i).1 (s.1 i).2) x), s) = _; rw [zBeats, c12, c15, c18]; rfl) hI)
            · skip
              refine zG_s rfl rfl ?_
              refine zG_s rfl rfl ?_
              refine zN_add rfl ?_
              -- leaf 10
              exact zG_ret rfl rfl (zRfin (by rw [zo_of, zb_i hi (by omega), zb_i hx (by omega), zb_i (show 5 < 6 by decide) (by omega)]; show (nI (zBeats (s.1 i).1 (s.1 i).2 (zTr (s.1 i).1 (s.1 i).2) x), s) = _; rw [zBeats, c12, c15, c19]; rfl) hI)
        · skip
          refine zG_s rfl rfl ?_
          refine zG_s rfl rfl ?_
          refine zG_s rfl rfl ?_
          refine zG_s rfl rfl ?_
          refine zG_s rfl rfl ?_
          refine zG_s rfl rfl ?_
          refine zG_cV1 rfl rfl zRh_o rfl rfl (cr_isUp hS hP (by omega) (by assumption) (by omega)) ?_
          first | refine zN_ifb rfl (fun c20 => ?_) (fun c21 => ?_) | refine zN_eq0 rfl (by omega) (fun c20 => ?_) (fun c21 => ?_)
          · skip
            refine zG_s rfl rfl ?_
            refine zN_add rfl ?_
            refine zG_s rfl rfl ?_
            refine zG_s rfl rfl ?_
            refine zG_s rfl rfl ?_
            refine zG_s rfl rfl ?_
            refine zG_s rfl rfl ?_
            refine zG_cV1 rfl rfl zRh_o rfl rfl (cr_mayGo hS hP (by omega) (by omega) (by assumption) (by omega)) ?_
            first | refine zN_ifb rfl (fun c22 => ?_) (fun c23 => ?_) | refine zN_eq0 rfl (by omega) (fun c22 => ?_) (fun c23 => ?_)
            · skip
              refine zG_s rfl rfl ?_
              refine zN_add rfl ?_
              -- leaf 11
              exact zG_ret rfl rfl (zRfin (by rw [zo_of, zb_i hi (by omega), zb_i hx (by omega), zb_i (show 5 < 6 by decide) (by omega)]; show (nI (zBeats (s.1 i).1 (s.1 i).2 (zTr (s.1 i).1 (s.1 i).2) x), s) = _; rw [zBeats, c13, c20, c22]; rfl) hI)
            · skip
              refine zG_s rfl rfl ?_
              refine zG_s rfl rfl ?_
              refine zN_add rfl ?_
              -- leaf 12
              exact zG_ret rfl rfl (zRfin (by rw [zo_of, zb_i hi (by omega), zb_i hx (by omega), zb_i (show 5 < 6 by decide) (by omega)]; show (nI (zBeats (s.1 i).1 (s.1 i).2 (zTr (s.1 i).1 (s.1 i).2) x), s) = _; rw [zBeats, c13, c20, c23]; rfl) hI)
          · skip
            refine zG_s rfl rfl ?_
            refine zG_s rfl rfl ?_
            refine zN_add rfl ?_
            refine zG_s rfl rfl ?_
            refine zG_s rfl rfl ?_
            refine zG_s rfl rfl ?_
            refine zG_s rfl rfl ?_
            refine zG_s rfl rfl ?_
            refine zG_cV1 rfl rfl zRh_o rfl rfl (cr_mayGo hS hP (by omega) (by omega) (by assumption) (by omega)) ?_
            first | refine zN_ifb rfl (fun c24 => ?_) (fun c25 => ?_) | refine zN_eq0 rfl (by omega) (fun c24 => ?_) (fun c25 => ?_)
            · skip
              refine zG_s rfl rfl ?_
              refine zN_add rfl ?_
              -- leaf 13
              exact zG_ret rfl rfl (zRfin (by rw [zo_of, zb_i hi (by omega), zb_i hx (by omega), zb_i (show 5 < 6 by decide) (by omega)]; show (nI (zBeats (s.1 i).1 (s.1 i).2 (zTr (s.1 i).1 (s.1 i).2) x), s) = _; rw [zBeats, c13, c21, c24]; rfl) hI)
            · skip
              refine zG_s rfl rfl ?_
              refine zG_s rfl rfl ?_
              refine zN_add rfl ?_
              -- leaf 14
              exact zG_ret rfl rfl (zRfin (by rw [zo_of, zb_i hi (by omega), zb_i hx (by omega), zb_i (show 5 < 6 by decide) (by omega)]; show (nI (zBeats (s.1 i).1 (s.1 i).2 (zTr (s.1 i).1 (s.1 i).2) x), s) = _; rw [zBeats, c13, c21, c25]; rfl) hI)
      · skip
        refine zN_tsd (p2 := 163) rfl (zin_out (by decide) c11) rfl ?_
        refine zG_s rfl rfl ?_
        -- leaf 15
        exact zG_ret rfl rfl (zRfin (by rw [zo_of, zb_i hi (by omega), zb_i hx (by omega), zb_no c11]) hI)
    · skip
      refine zG_s rfl rfl ?_
      -- leaf 16
      exact zG_ret rfl rfl (zRfin (by rw [zo_of, zb_i hi (by omega), zb_no c4]) hI)
theorem cr_about {d r : Nat} {h : zH} {S : zRS} {s : zST} {a b c : Int32} (hr : 2 ≤ r) (hI : zRI S s) (hW : zWT s) : zCallP (d + 3) 198 [.ref r, .int a, .int b, .int c] (zRh h r S) (zROut h r (zo_about s a b c)) := by
  refine zG_mP (t := tX10_about) (ls0 := [.ref r, .int a, .int b, .int c, .null, .null]) rfl rfl (zdnR (zdnI (zdnI (zdnI zdn0)))) rfl ?_
  refine zG_s rfl rfl ?_
  refine zG_cS1 rfl rfl cr_isSpace ?_
  refine zN_ifb rfl (fun c1 => ?_) (fun c2 => ?_)
  · skip
    refine zG_s rfl rfl ?_
    -- leaf 1
    exact zG_ret rfl rfl (zRfin (by rw [zo_about, zb_no c1]) hI)
  · skip
    obtain ⟨i, hi, rfl⟩ := zin_of c2 (by omega)
    have hS := hI.sp i hi
    have hP := hW.1 i hi
    have hn8 := hP.1
    have hpw := zpow_le hn8
    refine zG_s rfl rfl ?_
    refine zG_s rfl rfl ?_
    refine zG_s rfl rfl ?_
    refine zG_cV1 rfl rfl zRh_o rfl rfl (cr_isSet hS (by omega)) ?_
    refine zN_ifnb rfl (fun c3 => ?_) (fun c4 => ?_)
    · skip
      obtain ⟨p, hp, rfl⟩ := zin_of c3 (by omega)
      have hil : zIns (s.1 i).1 (s.1 i).2 p < 256 := zbits_lt8 _ hn8
      have hcl : zClo9 (s.1 i).1 (s.1 i).2 p < 256 := zbits_lt8 _ hn8
      have hcq := zclosed_eq hP hp
      refine zG_s rfl rfl ?_
      refine zG_s rfl rfl ?_
      refine zG_s rfl rfl ?_
      refine zG_cV1 rfl rfl zRh_o rfl rfl (cr_insideOf hS hP (by omega)) ?_
      refine zN_st4 rfl (fun _ _ _ => rfl) rfl ?_
      refine zG_s rfl rfl ?_
      refine zG_s rfl rfl ?_
      refine zG_s rfl rfl ?_
      refine zG_cV1 rfl rfl zRh_o rfl rfl (cr_closureOf hS hP (by omega)) ?_
      refine zN_st5 rfl (fun _ _ _ => rfl) rfl ?_
      refine zG_s rfl rfl ?_
      rcases zcs4 c with c5 | c6 | c7 | c8 | c9
      · skip
        subst c5
        refine zG_s rfl rfl ?_
        refine zG_s rfl rfl ?_
        -- leaf 2
        exact zG_ret rfl rfl (zRfin (by rw [zo_about, zb_i hi (by omega), zb_i hp (by omega), zb_i (show 0 < 4 by decide) (by omega)]; first | done | rfl) hI)
      · skip
        subst c6
        refine zG_s rfl rfl ?_
        refine zG_s rfl rfl ?_
        -- leaf 3
        exact zG_ret rfl rfl (zRfin (by rw [zo_about, zb_i hi (by omega), zb_i hp (by omega), zb_i (show 1 < 4 by decide) (by omega)]; first | done | rfl) hI)
      · skip
        subst c7
        refine zG_s rfl rfl ?_
        refine zG_s rfl rfl ?_
        refine zG_s rfl rfl ?_
        refine zG_s rfl rfl ?_
        refine zN_not rfl ?_
        refine zN_andn rfl ?_
        -- leaf 4
        exact zG_ret rfl rfl (zRfin (by rw [zo_about, zb_i hi (by omega), zb_i hp (by omega), zb_i (show 2 < 4 by decide) (by omega)]; first | done | rfl) hI)
      · skip
        subst c8
        refine zG_s rfl rfl ?_
        refine zG_s rfl rfl ?_
        refine zG_s rfl rfl ?_
        refine zN_ine rfl (by omega) (by omega) (fun c10 => ?_) (fun c11 => ?_)
        · skip
          refine zG_s rfl rfl ?_
          refine zG_s rfl rfl ?_
          refine zG_s rfl rfl ?_
          refine zN_ine rfl (by omega) (by omega) (fun c12 => ?_) (fun c13 => ?_)
          · skip
            refine zG_s rfl rfl ?_
            refine zN_add rfl ?_
            -- leaf 5
            exact zG_ret rfl rfl (zRfin (by rw [zo_about, zb_i hi (by omega), zb_i hp (by omega), zb_i (show 3 < 4 by decide) (by omega)]; show (nI ((if zIns (s.1 i).1 (s.1 i).2 p = p then 1 else 0) + (if zIns (s.1 i).1 (s.1 i).2 (zan (1 <<< (s.1 i).1 - 1) p) = zan (1 <<< (s.1 i).1 - 1) p then 2 else 0)), s) = _; rw [if_neg c10, if_neg (fun g => c12 (hcq.mp g))]) hI)
          · skip
            refine zG_s rfl rfl ?_
            refine zG_s rfl rfl ?_
            refine zN_add rfl ?_
            -- leaf 6
            exact zG_ret rfl rfl (zRfin (by rw [zo_about, zb_i hi (by omega), zb_i hp (by omega), zb_i (show 3 < 4 by decide) (by omega)]; show (nI ((if zIns (s.1 i).1 (s.1 i).2 p = p then 1 else 0) + (if zIns (s.1 i).1 (s.1 i).2 (zan (1 <<< (s.1 i).1 - 1) p) = zan (1 <<< (s.1 i).1 - 1) p then 2 else 0)), s) = _; rw [if_neg c10, if_pos (hcq.mpr c13)]) hI)
        · skip
          refine zG_s rfl rfl ?_
          refine zG_s rfl rfl ?_
          refine zG_s rfl rfl ?_
          refine zG_s rfl rfl ?_
          refine zN_ine rfl (by omega) (by omega) (fun c14 => ?_) (fun c15 => ?_)
          · skip
            refine zG_s rfl rfl ?_
            refine zN_add rfl ?_
            -- leaf 7
            exact zG_ret rfl rfl (zRfin (by rw [zo_about, zb_i hi (by omega), zb_i hp (by omega), zb_i (show 3 < 4 by decide) (by omega)]; show (nI ((if zIns (s.1 i).1 (s.1 i).2 p = p then 1 else 0) + (if zIns (s.1 i).1 (s.1 i).2 (zan (1 <<< (s.1 i).1 - 1) p) = zan (1 <<< (s.1 i).1 - 1) p then 2 else 0)), s) = _; rw [if_pos c11, if_neg (fun g => c14 (hcq.mp g))]) hI)
          · skip
            refine zG_s rfl rfl ?_
            refine zG_s rfl rfl ?_
            refine zN_add rfl ?_
            -- leaf 8
            exact zG_ret rfl rfl (zRfin (by rw [zo_about, zb_i hi (by omega), zb_i hp (by omega), zb_i (show 3 < 4 by decide) (by omega)]; show (nI ((if zIns (s.1 i).1 (s.1 i).2 p = p then 1 else 0) + (if zIns (s.1 i).1 (s.1 i).2 (zan (1 <<< (s.1 i).1 - 1) p) = zan (1 <<< (s.1 i).1 - 1) p then 2 else 0)), s) = _; rw [if_pos c11, if_pos (hcq.mpr c15)]) hI)
      · skip
        refine zN_tsd (p2 := 102) rfl (zin_out (by decide) c9) rfl ?_
        refine zG_s rfl rfl ?_
        -- leaf 9
        exact zG_ret rfl rfl (zRfin (by rw [zo_about, zb_i hi (by omega), zb_i hp (by omega), zb_no c9]) hI)
    · skip
      refine zG_s rfl rfl ?_
      -- leaf 10
      exact zG_ret rfl rfl (zRfin (by rw [zo_about, zb_i hi (by omega), zb_no c4]) hI)
theorem cr_told {d r : Nat} {h : zH} {S : zRS} {s : zST} {a b : Int32} (hr : 2 ≤ r) (hI : zRI S s) (hW : zWT s) : zCallP (d + 11) 205 [.ref r, .int a, .int b] (zRh h r S) (zROut h r (zo_told s a b)) := by
  refine zG_mP (t := tX10_told) (ls0 := [.ref r, .int a, .int b]) rfl rfl (zdnR (zdnI (zdnI zdn0))) rfl ?_
  refine zG_s rfl rfl ?_
  refine zG_cS1 rfl rfl cr_isSpace ?_
  refine zN_ifnb rfl (fun c1 => ?_) (fun c2 => ?_)
  · skip
    obtain ⟨i, hi, rfl⟩ := zin_of c1 (by omega)
    have hS := hI.sp i hi
    have hP := hW.1 i hi
    have hn8 := hP.1
    have hi10 : i < 10 := by omega
    refine zG_s rfl rfl ?_
    rcases zcs7 b with c3 | c4 | c5 | c6 | c7 | c8 | c9 | c10
    · skip
      subst c3
      refine zG_s rfl rfl ?_
      refine zG_s rfl rfl ?_
      refine zN_get rfl zRh_o rfl ?_
      refine zG_s rfl rfl ?_
      refine zR_ald (k := 3) (n := 10) rfl rfl (by omega) hS.1 ?_
      -- leaf 1
      exact zG_ret rfl rfl (zRfin (by rw [zo_told, zb_i hi (by omega), zb_i (show 0 < 7 by decide) (by omega)]; first | done | rfl) hI)
    · skip
      subst c4
      refine zG_s rfl rfl ?_
      refine zG_s rfl rfl ?_
      refine zG_s rfl rfl ?_
      refine zG_cV1 rfl rfl zRh_o rfl rfl (cr_pairs hS hP) ?_
      -- leaf 2
      exact zG_ret rfl rfl (zRfin (by rw [zo_told, zb_i hi (by omega), zb_i (show 1 < 7 by decide) (by omega)]; first | done | rfl) hI)
    · skip
      subst c5
      refine zG_s rfl rfl ?_
      refine zG_s rfl rfl ?_
      refine zG_s rfl rfl ?_
      refine zG_cV1 rfl rfl zRh_o rfl rfl (cr_covers hS hP) ?_
      -- leaf 3
      exact zG_ret rfl rfl (zRfin (by rw [zo_told, zb_i hi (by omega), zb_i (show 2 < 7 by decide) (by omega)]; first | done | rfl) hI)
    · skip
      subst c6
      refine zG_s rfl rfl ?_
      refine zG_s rfl rfl ?_
      refine zG_s rfl rfl ?_
      refine zG_cV1 rfl rfl zRh_o rfl rfl (cr_parts hS hP) ?_
      -- leaf 4
      exact zG_ret rfl rfl (zRfin (by rw [zo_told, zb_i hi (by omega), zb_i (show 3 < 7 by decide) (by omega)]; first | done | rfl) hI)
    · skip
      subst c7
      refine zG_s rfl rfl ?_
      refine zG_s rfl rfl ?_
      refine zG_s rfl rfl ?_
      refine zG_cV1 rfl rfl zRh_o rfl rfl (cr_greatest hS hP) ?_
      -- leaf 5
      exact zG_ret rfl rfl (zRfin (by rw [zo_told, zb_i hi (by omega), zb_i (show 4 < 7 by decide) (by omega)]; first | done | rfl) hI)
    · skip
      subst c8
      refine zG_s rfl rfl ?_
      refine zG_s rfl rfl ?_
      refine zG_s rfl rfl ?_
      refine zG_cV1 rfl rfl zRh_o rfl rfl (cr_openSets hS hP) ?_
      -- leaf 6
      exact zG_ret rfl rfl (zRfin (by rw [zo_told, zb_i hi (by omega), zb_i (show 5 < 7 by decide) (by omega)]; first | done | rfl) hI)
    · skip
      subst c9
      refine zG_s rfl rfl ?_
      refine zG_s rfl rfl ?_
      refine zG_s rfl rfl ?_
      refine zG_cV1 rfl rfl zRh_o rfl rfl (cr_isPlain hS hP) ?_
      first | refine zN_ifb rfl (fun c11 => ?_) (fun c12 => ?_) | refine zN_eq0 rfl (by omega) (fun c11 => ?_) (fun c12 => ?_)
      · skip
        refine zG_s rfl rfl ?_
        -- leaf 7
        exact zG_ret rfl rfl (zRfin (by rw [zo_told, zb_i hi (by omega), zb_i (show 6 < 7 by decide) (by omega)]; show (nI (b2n (decide (zFst (s.1 i).1 (s.1 i).2 (zTr (s.1 i).1 (s.1 i).2) = 1 <<< (s.1 i).1 - 1))), s) = _; rw [c11]; rfl) hI)
      · skip
        refine zG_s rfl rfl ?_
        refine zG_s rfl rfl ?_
        -- leaf 8
        exact zG_ret rfl rfl (zRfin (by rw [zo_told, zb_i hi (by omega), zb_i (show 6 < 7 by decide) (by omega)]; show (nI (b2n (decide (zFst (s.1 i).1 (s.1 i).2 (zTr (s.1 i).1 (s.1 i).2) = 1 <<< (s.1 i).1 - 1))), s) = _; rw [c12]; rfl) hI)
    · skip
      refine zN_tsd (p2 := 103) rfl (zin_out (by decide) c10) rfl ?_
      refine zG_s rfl rfl ?_
      -- leaf 9
      exact zG_ret rfl rfl (zRfin (by rw [zo_told, zb_i hi (by omega), zb_no c10]) hI)
  · skip
    refine zG_s rfl rfl ?_
    -- leaf 10
    exact zG_ret rfl rfl (zRfin (by rw [zo_told, zb_no c2]) hI)
def zWf (n : Nat) (lo : Nat → Nat) (T x : Nat) : Nat := if T.testBit x then lo x ||| zTr n lo x else 0
theorem cr_path {d r : Nat} {h : zH} {S : zRS} {s : zST} {a b c : Int32} (hr : 2 ≤ r) (hI : zRI S s) (hW : zWT s) : zCallP (d + 3) 206 [.ref r, .int a, .int b, .int c] (zRh h r S) (zROut h r (zo_path s a b c)) := by
  refine zG_mP (t := tX10_path) (ls0 := [.ref r, .int a, .int b, .int c, .null, .null, .null, .null]) rfl rfl (zdnR (zdnI (zdnI (zdnI zdn0)))) rfl ?_
  refine zG_s rfl rfl ?_
  refine zG_cS1 rfl rfl cr_isSpace ?_
  refine zN_ifb rfl (fun c1 => ?_) (fun c2 => ?_)
  · skip
    refine zG_s rfl rfl ?_
    -- leaf 1
    exact zG_ret rfl rfl (zRfin (by rw [zo_path, zb_no c1]) hI)
  · skip
    obtain ⟨i, hi, rfl⟩ := zin_of c2 (by omega)
    have hS := hI.sp i hi
    have hP := hW.1 i hi
    have hn8 := hP.1
    have hi10 : i < 10 := by omega
    refine zG_s rfl rfl ?_
    refine zG_s rfl rfl ?_
    refine zG_s rfl rfl ?_
    refine zG_cV1 rfl rfl zRh_o rfl rfl (cr_isPoint hS (by omega)) ?_
    refine zN_ifb rfl (fun c3 => ?_) (fun c4 => ?_)
    · skip
      refine zG_s rfl rfl ?_
      -- leaf 2
      exact zG_ret rfl rfl (zRfin (by rw [zo_path, zb_i hi (by omega), zb_no c3]) hI)
    · skip
      obtain ⟨x, hx, rfl⟩ := zin_of c4 (by omega)
      refine zG_s rfl rfl ?_
      refine zG_s rfl rfl ?_
      refine zG_s rfl rfl ?_
      refine zG_cV1 rfl rfl zRh_o rfl rfl (cr_isPoint hS (by omega)) ?_
      refine zN_ifnb rfl (fun c5 => ?_) (fun c6 => ?_)
      · skip
        obtain ⟨y, hy, rfl⟩ := zin_of c5 (by omega)
        have hrs : zo_path s (nI i) (nI x) (nI y) = (zPath (s.1 i).1 (s.1 i).2 (zTr (s.1 i).1 (s.1 i).2) x y, s) := by rw [zo_path, zb_i hi (by omega), zb_i hx (by omega), zb_i hy (by omega)]
        generalize hnn : (s.1 i).1 = n at *
        generalize hll : (s.1 i).2 = lo at *
        rw [hrs]
        refine zG_s rfl rfl ?_
        refine zG_s rfl rfl ?_
        refine zN_shl rfl (by omega) ?_
        refine zN_st4 rfl (fun _ _ _ => rfl) rfl ?_
        refine zG_s rfl rfl ?_
        refine zN_st5 rfl (fun _ _ _ => rfl) rfl ?_
        have main35 : ∀ k, k ≤ 8 → ∀ x6 x7 : Value, (∀ j, j < k → (zit (zWid n lo (zTr n lo)) j (1 <<< x)).testBit y = false) → zGoP (d + 2) tX10_path 35 [.ref r, .int (nI i), .int (nI x), .int (nI y), .int (nI (zit (zWid n lo (zTr n lo)) k (1 <<< x))), .int (nI k), x6, x7] [] (zRh h r S) (zROut h r (zPath n lo (zTr n lo) x y, s)) := by
          refine zdown (8) ?_ (fun k hp35 ih35 => ?_)
          · skip
            intro x6 x7 hA
            refine zG_s rfl rfl ?_
            refine zG_s rfl rfl ?_
            refine zN_ige rfl (by omega) (by omega) (fun c7 => ?_) (fun c8 => absurd c8 (by omega))
            refine zG_s rfl rfl ?_
            -- leaf 3
            exact zG_ret rfl rfl (zRfin (by rw [zPath, zfs_none hA, if_neg (by decide)]) hI)
          · skip
            intro x6 x7 hA
            have hT := zit_lt hP.ok (s := 1 <<< x) (zsh1_lt (by omega)) k
            have hes : zit (zWid n lo (zTr n lo)) (k + 1) (1 <<< x) = zWid n lo (zTr n lo) (zit (zWid n lo (zTr n lo)) k (1 <<< x)) := rfl
            rw [hes] at ih35
            clear hes
            generalize hTT : zit (zWid n lo (zTr n lo)) k (1 <<< x) = T at *
            refine zG_s rfl rfl ?_
            refine zG_s rfl rfl ?_
            refine zN_ige rfl (by omega) (by omega) (fun c9 => absurd c9 (by omega)) (fun c10 => ?_)
            refine zG_s rfl rfl ?_
            refine zG_s rfl rfl ?_
            refine zG_cS1 rfl rfl (cr_has _ (by omega) (by omega)) ?_
            first | refine zN_ifb rfl (fun c11 => ?_) (fun c12 => ?_) | refine zN_eq0 rfl (by omega) (fun c11 => ?_) (fun c12 => ?_)
            · skip
              refine zG_s rfl rfl ?_
              refine zN_st6 rfl (fun _ _ _ => rfl) rfl ?_
              refine zG_s rfl rfl ?_
              refine zN_st7 rfl (fun _ _ _ => rfl) rfl ?_
              have main61 : ∀ p, p ≤ n → zGoP (d + 2) tX10_path 61 [.ref r, .int (nI i), .int (nI x), .int (nI y), .int (nI T), .int (nI k), .int (nI (T ||| zor (zWf n lo T) p)), .int (nI p)] [] (zRh h r S) (zROut h r (zPath n lo (zTr n lo) x y, s)) := by
                refine zdown (n) ?_ (fun p hp61 ih61 => ?_)
                · skip
                  refine zG_s rfl rfl ?_
                  refine zG_s rfl rfl ?_
                  refine zN_get rfl zRh_o rfl ?_
                  refine zG_s rfl rfl ?_
                  refine zR_ald (k := 3) (n := 10) rfl rfl (by omega) hS.1 ?_
                  refine zN_ige rfl (by omega) (by omega) (fun c13 => ?_) (fun c14 => absurd c14 (by omega))
                  refine zG_s rfl rfl ?_
                  refine zN_st4 rfl (fun _ _ _ => rfl) rfl ?_
                  refine zN_inc5 rfl rfl ?_
                  refine zG_s rfl rfl ?_
                  -- leaf 4
                  exact ih35 _ _ (zal_s hA (by show (zit _ k _).testBit y = false; rw [hTT]; exact c11))
                · skip
                  refine zG_s rfl rfl ?_
                  refine zG_s rfl rfl ?_
                  refine zN_get rfl zRh_o rfl ?_
                  refine zG_s rfl rfl ?_
                  refine zR_ald (k := 3) (n := 10) rfl rfl (by omega) hS.1 ?_
                  refine zN_ige rfl (by omega) (by omega) (fun c15 => absurd c15 (by omega)) (fun c16 => ?_)
                  refine zG_s rfl rfl ?_
                  refine zG_s rfl rfl ?_
                  refine zG_s rfl rfl ?_
                  refine zG_cS1 rfl rfl (cr_has _ (by omega) (by omega)) ?_
                  first | refine zN_ifb rfl (fun c17 => ?_) (fun c18 => ?_) | refine zN_eq0 rfl (by omega) (fun c17 => ?_) (fun c18 => ?_)
                  · skip
                    refine zG_s rfl rfl ?_
                    refine zN_or rfl ?_
                    refine zN_st6 rfl (fun _ _ _ => rfl) rfl ?_
                    refine zN_inc7 rfl rfl ?_
                    refine zG_s rfl rfl ?_
                    -- leaf 5
                    rw [show T ||| zor (zWf n lo T) (p + 1) = T ||| zor (zWf n lo T) p ||| 0 from by rw [zor, zWf, if_neg (by rw [c17]; decide), Nat.or_assoc]] at ih61
                    exact ih61
                  · skip
                    refine zG_s rfl rfl ?_
                    refine zN_get rfl zRh_o rfl ?_
                    refine zG_s rfl rfl ?_
                    refine zG_s rfl rfl ?_
                    refine zN_mul rfl ?_
                    refine zG_s rfl rfl ?_
                    refine zN_add rfl ?_
                    refine zR_ald (k := 1) (n := 80) rfl rfl (by omega) (hS.2.2 _ (by omega)).1 ?_
                    refine zG_s rfl rfl ?_
                    refine zN_get rfl zRh_o rfl ?_
                    refine zG_s rfl rfl ?_
                    refine zG_s rfl rfl ?_
                    refine zN_mul rfl ?_
                    refine zG_s rfl rfl ?_
                    refine zN_add rfl ?_
                    refine zR_ald (k := 2) (n := 80) rfl rfl (by omega) (hS.2.2 _ (by omega)).2 ?_
                    refine zN_or rfl ?_
                    refine zG_s rfl rfl ?_
                    refine zN_or rfl ?_
                    refine zN_st6 rfl (fun _ _ _ => rfl) rfl ?_
                    refine zN_inc7 rfl rfl ?_
                    refine zG_s rfl rfl ?_
                    -- leaf 6
                    rw [show T ||| zor (zWf n lo T) (p + 1) = T ||| zor (zWf n lo T) p ||| (lo p ||| zTr n lo p) from by rw [zor, zWf, if_pos c18, Nat.or_assoc]] at ih61
                    exact ih61
              have e0 := main61 0 (by omega)
              rw [show T ||| zor (zWf n lo T) 0 = T from Nat.or_zero T] at e0
              exact e0
            · skip
              refine zG_s rfl rfl ?_
              -- leaf 7
              exact zG_ret rfl rfl (zRfin (by rw [zPath, zfs_at c10 (by show (zit _ k _).testBit y = true; rw [hTT]; exact c12) hA, if_pos c10]) hI)
        exact main35 0 (by omega) _ _ (fun j hj => absurd hj (by omega))
      · skip
        refine zG_s rfl rfl ?_
        -- leaf 8
        exact zG_ret rfl rfl (zRfin (by rw [zo_path, zb_i hi (by omega), zb_i hx (by omega), zb_no c6]) hI)
theorem cr_may {d r : Nat} {h : zH} {S : zRS} {s : zST} {a b c : Int32} (hr : 2 ≤ r) (hI : zRI S s) (hW : zWT s) : zCallP (d + 10) 207 [.ref r, .int a, .int b, .int c] (zRh h r S) (zROut h r (zo_may s a b c)) := by
  refine zG_mP (t := tX10_may) (ls0 := [.ref r, .int a, .int b, .int c, .null, .null]) rfl rfl (zdnR (zdnI (zdnI (zdnI zdn0)))) rfl ?_
  refine zG_s rfl rfl ?_
  refine zG_cS1 rfl rfl cr_isSpace ?_
  refine zN_ifb rfl (fun c1 => ?_) (fun c2 => ?_)
  · skip
    refine zG_s rfl rfl ?_
    -- leaf 1
    exact zG_ret rfl rfl (zRfin (by rw [zo_may, zb_no c1]) hI)
  · skip
    obtain ⟨i, hi, rfl⟩ := zin_of c2 (by omega)
    have hS := hI.sp i hi
    have hP := hW.1 i hi
    have hn8 := hP.1
    have hi10 : i < 10 := by omega
    have hpw := zpow_le hn8
    refine zG_s rfl rfl ?_
    refine zG_cS1 rfl rfl cr_isKind ?_
    refine zN_ifb rfl (fun c3 => ?_) (fun c4 => ?_)
    · skip
      refine zG_s rfl rfl ?_
      -- leaf 2
      exact zG_ret rfl rfl (zRfin (by rw [zo_may, zb_i hi (by omega), zb_no c3]) hI)
    · skip
      obtain ⟨k, hk, rfl⟩ := zin_of c4 (by omega)
      refine zG_s rfl rfl ?_
      refine zG_s rfl rfl ?_
      refine zG_s rfl rfl ?_
      refine zG_cV1 rfl rfl zRh_o rfl rfl (cr_isSet hS (by omega)) ?_
      refine zN_ifnb rfl (fun c5 => ?_) (fun c6 => ?_)
      · skip
        obtain ⟨p, hp, rfl⟩ := zin_of c5 (by omega)
        have hrs : zo_may s (nI i) (nI k) (nI p) = (nI (zGoers (s.1 i).1 (s.1 i).2 (zTr (s.1 i).1 (s.1 i).2) k p), s) := by rw [zo_may, zb_i hi (by omega), zb_i hk (by omega), zb_i hp (by omega)]
        generalize hnn : (s.1 i).1 = n at *
        generalize hll : (s.1 i).2 = lo at *
        rw [hrs]
        unfold zGoers
        generalize hC : (fun x => p.testBit x && zMay n lo (zTr n lo) k x p) = C
        have hCx : ∀ x, C x = (p.testBit x && zMay n lo (zTr n lo) k x p) := fun x => by rw [← hC]
        refine zG_s rfl rfl ?_
        refine zN_st4 rfl (fun _ _ _ => rfl) rfl ?_
        refine zG_s rfl rfl ?_
        refine zN_st5 rfl (fun _ _ _ => rfl) rfl ?_
        have main31 : ∀ x, x ≤ n → zGoP (d + 9) tX10_may 31 [.ref r, .int (nI i), .int (nI k), .int (nI p), .int (nI (zbits C x)), .int (nI x)] [] (zRh h r S) (zROut h r (nI (zbits C n), s)) := by
          refine zdown (n) ?_ (fun x hp31 ih31 => ?_)
          · skip
            refine zG_s rfl rfl ?_
            refine zG_s rfl rfl ?_
            refine zN_get rfl zRh_o rfl ?_
            refine zG_s rfl rfl ?_
            refine zR_ald (k := 3) (n := 10) rfl rfl (by omega) hS.1 ?_
            refine zN_ige rfl (by omega) (by omega) (fun c7 => ?_) (fun c8 => absurd c8 (by omega))
            refine zG_s rfl rfl ?_
            -- leaf 3
            exact zG_ret rfl rfl (zRfin rfl hI)
          · skip
            have hcx := hCx x
            refine zG_s rfl rfl ?_
            refine zG_s rfl rfl ?_
            refine zN_get rfl zRh_o rfl ?_
            refine zG_s rfl rfl ?_
            refine zR_ald (k := 3) (n := 10) rfl rfl (by omega) hS.1 ?_
            refine zN_ige rfl (by omega) (by omega) (fun c9 => absurd c9 (by omega)) (fun c10 => ?_)
            refine zG_s rfl rfl ?_
            refine zG_s rfl rfl ?_
            refine zG_s rfl rfl ?_
            refine zG_cS1 rfl rfl (cr_has _ (by omega) (by omega)) ?_
            first | refine zN_ifb rfl (fun c11 => ?_) (fun c12 => ?_) | refine zN_eq0 rfl (by omega) (fun c11 => ?_) (fun c12 => ?_)
            · skip
              refine zG_s rfl rfl ?_
              refine zN_or rfl ?_
              refine zN_st4 rfl (fun _ _ _ => rfl) rfl ?_
              refine zN_inc5 rfl rfl ?_
              refine zG_s rfl rfl ?_
              -- leaf 4
              rw [zbits_no (by rw [hcx, c11]; rfl), ← Nat.or_zero (zbits C x)] at ih31
              exact ih31
            · skip
              refine zG_s rfl rfl ?_
              refine zG_s rfl rfl ?_
              refine zG_s rfl rfl ?_
              refine zG_s rfl rfl ?_
              refine zG_s rfl rfl ?_
              refine zG_cV1 rfl rfl zRh_o rfl rfl (cr_mayGo hS hP (by omega) (by omega) (by assumption) (by omega)) ?_
              first | refine zN_ifb rfl (fun c13 => ?_) (fun c14 => ?_) | refine zN_eq0 rfl (by omega) (fun c13 => ?_) (fun c14 => ?_)
              · skip
                refine zG_s rfl rfl ?_
                refine zN_or rfl ?_
                refine zN_st4 rfl (fun _ _ _ => rfl) rfl ?_
                refine zN_inc5 rfl rfl ?_
                refine zG_s rfl rfl ?_
                -- leaf 5
                rw [zbits_no (by rw [hcx, c13, Bool.and_false]), ← Nat.or_zero (zbits C x)] at ih31
                exact ih31
              · skip
                refine zG_s rfl rfl ?_
                refine zG_s rfl rfl ?_
                refine zN_shl rfl (by omega) ?_
                refine zG_s rfl rfl ?_
                refine zN_or rfl ?_
                refine zN_st4 rfl (fun _ _ _ => rfl) rfl ?_
                refine zN_inc5 rfl rfl ?_
                refine zG_s rfl rfl ?_
                -- leaf 6
                rw [zbits_yes (by rw [hcx, c12, c14]; rfl)] at ih31
                exact ih31
        exact main31 0 (by omega)
      · skip
        refine zG_s rfl rfl ?_
        -- leaf 7
        exact zG_ret rfl rfl (zRfin (by rw [zo_may, zb_i hi (by omega), zb_i hk (by omega), zb_no c6]) hI)
theorem cr_price {d r : Nat} {h : zH} {S : zRS} {s : zST} {a b c : Int32} (hr : 2 ≤ r) (hI : zRI S s) (hW : zWT s) : zCallP (d + 3) 208 [.ref r, .int a, .int b, .int c] (zRh h r S) (zROut h r (zo_price s a b c)) := by
  refine zG_mP (t := tX10_price) (ls0 := [.ref r, .int a, .int b, .int c]) rfl rfl (zdnR (zdnI (zdnI (zdnI zdn0)))) rfl ?_
  refine zG_s rfl rfl ?_
  refine zG_cS1 rfl rfl cr_isSpace ?_
  refine zN_ifb rfl (fun c1 => ?_) (fun c2 => ?_)
  · skip
    refine zG_s rfl rfl ?_
    -- leaf 1
    exact zG_ret rfl rfl (zRfin (by rw [zo_price, zb_no c1]) hI)
  · skip
    obtain ⟨i, hi, rfl⟩ := zin_of c2 (by omega)
    have hS := hI.sp i hi
    have hP := hW.1 i hi
    have hn8 := hP.1
    have hpw := zpow_le hn8
    refine zG_s rfl rfl ?_
    refine zG_cS1 rfl rfl cr_isKind ?_
    refine zN_ifb rfl (fun c3 => ?_) (fun c4 => ?_)
    · skip
      refine zG_s rfl rfl ?_
      -- leaf 2
      exact zG_ret rfl rfl (zRfin (by rw [zo_price, zb_i hi (by omega), zb_no c3]) hI)
    · skip
      obtain ⟨k, hk, rfl⟩ := zin_of c4 (by omega)
      refine zG_s rfl rfl ?_
      refine zG_s rfl rfl ?_
      refine zG_s rfl rfl ?_
      refine zG_cV1 rfl rfl zRh_o rfl rfl (cr_isPoint hS (by omega)) ?_
      refine zN_ifb rfl (fun c5 => ?_) (fun c6 => ?_)
      · skip
        refine zG_s rfl rfl ?_
        -- leaf 3
        exact zG_ret rfl rfl (zRfin (by rw [zo_price, zb_i hi (by omega), zb_i hk (by omega), zb_no c5]) hI)
      · skip
        obtain ⟨x, hx, rfl⟩ := zin_of c6 (by omega)
        refine zG_s rfl rfl ?_
        refine zG_s rfl rfl ?_
        refine zG_s rfl rfl ?_
        refine zG_s rfl rfl ?_
        refine zG_s rfl rfl ?_
        refine zG_s rfl rfl ?_
        refine zG_cV1 rfl rfl zRh_o rfl rfl (cr_all hS (by omega)) ?_
        refine zG_cV1 rfl rfl zRh_o rfl rfl (cr_priceOf hS hP (by omega) (by omega) (by omega)) ?_
        refine zG_s rfl rfl ?_
        -- leaf 4
        exact zG_ret rfl rfl (zRfin (by rw [zo_price, zb_i hi (by omega), zb_i hk (by omega), zb_i hx (by omega)]; first | done | rfl) hI)
theorem cr_left {d r : Nat} {h : zH} {S : zRS} {s : zST} {a b c : Int32} (hr : 2 ≤ r) (hI : zRI S s) (hW : zWT s) : zCallP (d + 12) 210 [.ref r, .int a, .int b, .int c] (zRh h r S) (zROut h r (zo_left s a b c)) := by
  refine zG_mP (t := tX10_left) (ls0 := [.ref r, .int a, .int b, .int c]) rfl rfl (zdnR (zdnI (zdnI (zdnI zdn0)))) rfl ?_
  refine zG_s rfl rfl ?_
  refine zG_cS1 rfl rfl cr_isSpace ?_
  refine zN_ifb rfl (fun c1 => ?_) (fun c2 => ?_)
  · skip
    refine zG_s rfl rfl ?_
    -- leaf 1
    exact zG_ret rfl rfl (zRfin (by rw [zo_left, zb_no c1]) hI)
  · skip
    obtain ⟨i, hi, rfl⟩ := zin_of c2 (by omega)
    have hS := hI.sp i hi
    have hP := hW.1 i hi
    have hn8 := hP.1
    have hpw := zpow_le hn8
    refine zG_s rfl rfl ?_
    refine zG_cS1 rfl rfl cr_isKind ?_
    refine zN_ifb rfl (fun c3 => ?_) (fun c4 => ?_)
    · skip
      refine zG_s rfl rfl ?_
      -- leaf 2
      exact zG_ret rfl rfl (zRfin (by rw [zo_left, zb_i hi (by omega), zb_no c3]) hI)
    · skip
      obtain ⟨k, hk, rfl⟩ := zin_of c4 (by omega)
      refine zG_s rfl rfl ?_
      refine zG_cS1 rfl rfl cr_isOrder ?_
      refine zN_ifb rfl (fun c5 => ?_) (fun c6 => ?_)
      · skip
        refine zG_s rfl rfl ?_
        -- leaf 3
        exact zG_ret rfl rfl (zRfin (by rw [zo_left, zb_i hi (by omega), zb_i hk (by omega), zb_no c5]) hI)
      · skip
        obtain ⟨o, ho, rfl⟩ := zin_of c6 (by omega)
        refine zG_s rfl rfl ?_
        refine zG_s rfl rfl ?_
        refine zG_s rfl rfl ?_
        refine zG_s rfl rfl ?_
        refine zG_s rfl rfl ?_
        refine zG_s rfl rfl ?_
        refine zG_cV1 rfl rfl zRh_o rfl rfl (cr_all hS (by omega)) ?_
        refine zG_cV1 rfl rfl zRh_o rfl rfl (cr_leftAll hS hP (by omega) (by omega)) ?_
        refine zG_s rfl rfl ?_
        -- leaf 4
        exact zG_ret rfl rfl (zRfin (by rw [zo_left, zb_i hi (by omega), zb_i hk (by omega), zb_i ho (by omega)]; first | done | rfl) hI)
