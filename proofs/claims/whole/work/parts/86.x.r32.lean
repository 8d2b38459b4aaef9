section ZRO
variable {d : Nat} {t : Nat → Option zI} {pc : Nat} {ls st : List Value} {h : zH} {r : zR → Prop} {nx a b c : Nat} {v : Value} {z : Int} {sr ln n : Nat} {i : Int32}
theorem zRfs_0 {w : Int32} (h : zRfs sr ln i n = some w) : w ≠ nI 0 := fun e => by
  have h1 := zRfs_neg h
  rw [e] at h1
  exact absurd h1 (by decide)
theorem zN_rfsne (hai : t pc = some (.ifCond .ne z, nx, a, b, c, v)) (K1 : zRfs sr ln i n ≠ none → zGoP d t a ls st h r) (K2 : zRfs sr ln i n = none → zGoP d t nx ls st h r) : zGoP d t pc ls (.int ((zRfs sr ln i n).getD (nI 0)) :: st) h r := by
  cases q : zRfs sr ln i n with
  | none => exact zN_ne0 (x := 0) hai (by decide) (fun g => absurd g (by decide)) (fun _ => K2 q)
  | some w => exact zN_if hai (fun _ => K1 (by rw [q]; simp)) (fun g => absurd (Decidable.not_not.mp (of_decide_eq_false g)) (zRfs_0 q))
theorem zN_rfseq (hai : t pc = some (.ifCond .eq z, nx, a, b, c, v)) (K1 : zRfs sr ln i n = none → zGoP d t a ls st h r) (K2 : zRfs sr ln i n ≠ none → zGoP d t nx ls st h r) : zGoP d t pc ls (.int ((zRfs sr ln i n).getD (nI 0)) :: st) h r := by
  cases q : zRfs sr ln i n with
  | none => exact zN_eq0 (x := 0) hai (by decide) (fun _ => K1 q) (fun g => absurd g (by decide))
  | some w => exact zN_if hai (fun g => absurd (of_decide_eq_true g) (zRfs_0 q)) (fun _ => K2 (by rw [q]; simp))
end ZRO
theorem zo_lay_no {s : zST} {i k : Nat} {c : Int32} (hi : i < 6) (hk : k < 4) (h : zRfs (s.2.2.2.2.1 k).1 (s.2.2.2.2.1 k).2.1 c (s.1 i).1 ≠ none) : zo_lay s (nI i) (nI k) c = ((zRfs (s.2.2.2.2.1 k).1 (s.2.2.2.2.1 k).2.1 c (s.1 i).1).getD (nI 0), s) := by
  rw [zo_lay, zb_i hi (by omega), zb_i hk (by omega)]
  cases q : zRfs (s.2.2.2.2.1 k).1 (s.2.2.2.2.1 k).2.1 c (s.1 i).1 with
  | none => exact absurd q h
  | some w => rfl
theorem zo_lay_yes {s : zST} {i k : Nat} {c : Int32} (hi : i < 6) (hk : k < 4) (h : zRfs (s.2.2.2.2.1 k).1 (s.2.2.2.2.1 k).2.1 c (s.1 i).1 = none) : zo_lay s (nI i) (nI k) c = (nI (s.1 i).1, zsSh s k (s.2.2.2.2.1 k).1 (s.2.2.2.2.1 k).2.1 (zLay (s.2.2.2.2.1 k).1 (s.1 i).1 (s.1 i).2 c.toNatClampNeg (s.2.2.2.2.1 k).2.2 (s.1 i).1)) := by
  rw [zo_lay, zb_i hi (by omega), zb_i hk (by omega), h]
theorem cr_lay {d r : Nat} {h : zH} {S : zRS} {s : zST} {a b c : Int32} (hr : 2 ≤ r) (hI : zRI S s) (hW : zWT s) : zCallP (d + 3) 275 [.ref r, .int a, .int b, .int c] (zRh h r S) (zROut h r (zo_lay s a b c)) := by
  refine zG_mP (t := tX10_lay) (ls0 := [.ref r, .int a, .int b, .int c, .null, .null]) rfl rfl (zdnR (zdnI (zdnI (zdnI zdn0)))) rfl ?_
  refine zG_s rfl rfl ?_
  refine zG_cS1 rfl rfl cr_isSpace ?_
  refine zN_ifb rfl (fun c1 => ?_) (fun c2 => ?_)
  · skip
    refine zG_s rfl rfl ?_
    -- leaf 1
    exact zG_ret rfl rfl (zRfin (by rw [zo_lay, zb_no c1]) hI)
  · skip
    obtain ⟨i, hi, rfl⟩ := zin_of c2 (by omega)
    refine zG_s rfl rfl ?_
    refine zG_cS1 rfl rfl cr_isSheet ?_
    refine zN_ifnb rfl (fun c3 => ?_) (fun c4 => ?_)
    · skip
      obtain ⟨k, hk, rfl⟩ := zin_of c3 (by omega)
      have hS := hI.sp i hi
      have hP := hW.1 i hi
      have hn8 := hP.1
      have h2 := hI.sh k hk
      obtain ⟨hst, hln⟩ := hW.2.2.2.1 k hk
      refine zG_s rfl rfl ?_
      refine zG_s rfl rfl ?_
      refine zG_s rfl rfl ?_
      refine zG_s rfl rfl ?_
      refine zN_get rfl zRh_o rfl ?_
      refine zG_s rfl rfl ?_
      refine zR_ald (k := 3) (n := 10) rfl rfl (by omega) hS.1 ?_
      refine zG_cV1 rfl rfl zRh_o rfl rfl (cr_lacks hk hst hln h2.1 (fun h0 => (h2.2 h0).1)) ?_
      refine zN_st4 rfl (fun _ _ _ => rfl) rfl ?_
      refine zG_s rfl rfl ?_
      refine zN_st5 rfl (fun _ _ _ => rfl) rfl ?_
      have main33 : ∀ x, x ≤ (s.1 i).1 → ∀ S1 : zRS, zRF (fun k2 j => k2 = 20 ∧ 40 * k ≤ j ∧ j < 40 * k + 40) S S1 → (zRfs (s.2.2.2.2.1 k).1 (s.2.2.2.2.1 k).2.1 c (s.1 i).1 ≠ none → S1 = S) → (0 < (s.2.2.2.2.1 k).1 → ∀ j, j < (s.2.2.2.2.1 k).2.1 → S1.2.2 20 (40 * k + j) = (zLay (s.2.2.2.2.1 k).1 (s.1 i).1 (s.1 i).2 c.toNatClampNeg (s.2.2.2.2.1 k).2.2 x j).toInt64) → zGoP (d + 2) tX10_lay 33 [.ref r, .int (nI i), .int (nI k), .int c, .int ((zRfs (s.2.2.2.2.1 k).1 (s.2.2.2.2.1 k).2.1 c (s.1 i).1).getD (nI 0)), .int (nI x)] [] (zRh h r S1) (zROut h r (zo_lay s (nI i) (nI k) c)) := by
        refine zdown ((s.1 i).1) ?_ (fun x hp33 ih33 => ?_)
        · skip
          intro S1 hF hx0 hA
          have hS := hS.fr hn8 hF (fun k2 j g1 g2 => by unfold zRsp at g1; omega)
          have hI1 : zRI S1 (zsSh s k (s.2.2.2.2.1 k).1 (s.2.2.2.2.1 k).2.1 (zLay (s.2.2.2.2.1 k).1 (s.1 i).1 (s.1 i).2 c.toNatClampNeg (s.2.2.2.2.1 k).2.2 (s.1 i).1)) := zRI.u_sh (P := zRshP k) ⟨(hF.2.1 18 k (by omega)).trans h2.1, fun g => ⟨(hF.2.1 19 k (by omega)).trans (h2.2 g).1, hA g⟩⟩ hI hW (hF.mono (fun k2 j g => Or.inr g)) (fun k2 j g => Or.inr g)
          refine zG_s rfl rfl ?_
          refine zG_s rfl rfl ?_
          refine zN_get rfl zRh_o rfl ?_
          refine zG_s rfl rfl ?_
          refine zR_ald (k := 3) (n := 10) rfl rfl (by omega) hS.1 ?_
          refine zN_ige rfl (by omega) (by omega) (fun c5 => ?_) (fun c6 => absurd c6 (by omega))
          refine zG_s rfl rfl ?_
          refine zN_rfsne rfl (fun c7 => ?_) (fun c8 => ?_)
          · skip
            refine zG_s rfl rfl ?_
            -- leaf 2
            rw [hx0 c7]
            exact zG_ret rfl rfl (zRfin (zo_lay_no hi hk c7) hI)
          · skip
            refine zG_s rfl rfl ?_
            refine zN_get rfl zRh_o rfl ?_
            refine zG_s rfl rfl ?_
            refine zR_ald (k := 3) (n := 10) rfl rfl (by omega) hS.1 ?_
            refine zG_s rfl rfl ?_
            -- leaf 3
            exact zG_ret rfl rfl (zRfin (zo_lay_yes hi hk c8) hI1)
        · skip
          intro S1 hF hx0 hA
          have hS := hS.fr hn8 hF (fun k2 j g1 g2 => by unfold zRsp at g1; omega)
          have h28 := (hF.2.1 18 k (by omega)).trans h2.1
          refine zG_s rfl rfl ?_
          refine zG_s rfl rfl ?_
          refine zN_get rfl zRh_o rfl ?_
          refine zG_s rfl rfl ?_
          refine zR_ald (k := 3) (n := 10) rfl rfl (by omega) hS.1 ?_
          refine zN_ige rfl (by omega) (by omega) (fun c9 => absurd c9 (by omega)) (fun c10 => ?_)
          refine zG_s rfl rfl ?_
          refine zN_rfsne rfl (fun c11 => ?_) (fun c12 => ?_)
          · skip
            refine zG_s rfl rfl ?_
            refine zN_rfsne rfl (fun c13 => ?_) (fun c14 => ?_)
            · skip
              refine zG_s rfl rfl ?_
              -- leaf 4
              rw [hx0 c11]
              exact zG_ret rfl rfl (zRfin (zo_lay_no hi hk c11) hI)
            · skip
              refine zG_s rfl rfl ?_
              refine zN_get rfl zRh_o rfl ?_
              refine zG_s rfl rfl ?_
              refine zR_ald (k := 3) (n := 10) rfl rfl (by omega) hS.1 ?_
              refine zG_s rfl rfl ?_
              -- leaf 5
              exact absurd c14 c11
          · skip
            obtain ⟨hn0, hn3, hno⟩ := zRfs_no c12
            obtain ⟨p, hp, ep⟩ := zInr_p hln hno (by omega)
            subst ep
            have hcp : (nI p).toNatClampNeg = p := nI_cl (by omega)
            refine zG_s rfl rfl ?_
            refine zN_get rfl zRh_o rfl ?_
            refine zG_s rfl rfl ?_
            refine zG_s rfl rfl ?_
            refine zN_mul rfl ?_
            refine zG_s rfl rfl ?_
            refine zN_add rfl ?_
            refine zG_s rfl rfl ?_
            refine zN_add rfl ?_
            refine zG_s rfl rfl ?_
            refine zN_get rfl zRh_o rfl ?_
            refine zG_s rfl rfl ?_
            refine zR_ald (k := 18) (n := 4) rfl rfl (by omega) h28 ?_
            refine zG_s rfl rfl ?_
            refine zN_get rfl zRh_o rfl ?_
            refine zG_s rfl rfl ?_
            refine zG_s rfl rfl ?_
            refine zN_mul rfl ?_
            refine zG_s rfl rfl ?_
            refine zN_add rfl ?_
            refine zR_ald (k := 1) (n := 80) rfl rfl (by omega) (hS.2.2 _ (by omega)).1 ?_
            refine zG_s rfl rfl ?_
            refine zG_cS1 rfl rfl (cr_cut (by omega) (by omega)) ?_
            refine zR_lst (k := 20) (n := 160) rfl rfl (by omega) hr ?_
            refine zN_inc5 rfl rfl ?_
            refine zG_s rfl rfl ?_
            -- leaf 6
            refine ih33 _ (hF.l ⟨rfl, by omega, by omega⟩) (fun g => absurd c12 g) (fun g j hj => ?_)
            have hA2 := hA g j hj
            rw [hcp] at hA2 ⊢
            rw [zLay]
            by_cases e : j = p + x
            · rw [show 40 * k + j = 40 * k + p + x by omega, zRl_at, e, upd_at]
            · rw [zRl_ne (Or.inr (by omega)), upd_ne _ _ e]; exact hA2
      exact main33 0 (by omega) _ zRF.rf (fun _ => rfl) (fun g j hj => (h2.2 g).2 j hj)
    · skip
      refine zG_s rfl rfl ?_
      -- leaf 7
      exact zG_ret rfl rfl (zRfin (by rw [zo_lay, zb_i hi (by omega), zb_no c4]) hI)
