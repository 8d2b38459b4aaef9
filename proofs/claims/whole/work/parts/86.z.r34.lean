def zRhvP (i k j : Nat) : Prop := 22 ≤ k ∧ k ≤ 24 ∧ j = i
def zhvOk (c l : Nat) (x y z : Int32) : Prop := (c = 0 → x = nI 0) ∧ (1 ≤ c → c ≤ 6 → x = nI 1 ∧ y = nI (c - 1)) ∧ (11 ≤ c → x = nI 2 ∧ y = nI (c - 11) ∧ z = nI l)
theorem zRI.u_hv {P : Nat → Nat → Prop} {S S1 : zRS} {s : zST} {i c l : Nat} (hX : zhvOk c l (S1.2.1 22 i) (S1.2.1 23 i) (S1.2.1 24 i)) (hI : zRI S s) (hW : zWT s) (hF : zRF P S S1) (hP : ∀ k j, P k j → zScr k j ∨ zRhvP i k j) : zRI S1 (zsHv s i c l) :=
  ⟨hI.sp.fr (fun i hi => (hW.1 i hi).1) hF (fun k j g h => by have := hP k j h; unfold zScr zRhvP at this; omega), hI.kp.fr hF (fun k j g h => by have := hP k j h; unfold zScr zRhvP at this; omega), hI.z.fr hF (fun j g1 g2 h => by have := hP 0 j h; unfold zScr zRhvP at this; omega), hI.tp.fr hF (fun h => by have := hP 0 27 h; unfold zScr zRhvP at this; omega) (fun j h => by have := hP 17 j h; unfold zScr zRhvP at this; omega), hI.sh.fr hF (fun k j g1 g2 h => by have := hP k j h; unfold zScr zRhvP at this; omega), fun j hj => by
    show ((if j = i then (c, l) else s.2.2.2.2.2.1 j).1 = 0 → S1.2.1 22 j = nI 0) ∧ (1 ≤ (if j = i then (c, l) else s.2.2.2.2.2.1 j).1 → (if j = i then (c, l) else s.2.2.2.2.2.1 j).1 ≤ 6 → S1.2.1 22 j = nI 1 ∧ S1.2.1 23 j = nI ((if j = i then (c, l) else s.2.2.2.2.2.1 j).1 - 1)) ∧ (11 ≤ (if j = i then (c, l) else s.2.2.2.2.2.1 j).1 → S1.2.1 22 j = nI 2 ∧ S1.2.1 23 j = nI ((if j = i then (c, l) else s.2.2.2.2.2.1 j).1 - 11) ∧ S1.2.1 24 j = nI (if j = i then (c, l) else s.2.2.2.2.2.1 j).2)
    by_cases e : j = i
    · subst e; rw [if_pos rfl]; exact hX
    · rw [if_neg e]
      have h1 := hI.hv j hj
      have e1 := hF.2.1 22 j (fun h => by have := hP 22 j h; unfold zScr zRhvP at this; omega)
      have e2 := hF.2.1 23 j (fun h => by have := hP 23 j h; unfold zScr zRhvP at this; omega)
      have e3 := hF.2.1 24 j (fun h => by have := hP 24 j h; unfold zScr zRhvP at this; omega)
      rw [e1, e2, e3]
      exact h1, hI.tr.fr hF (fun h => by have := hP 0 37 h; unfold zScr zRhvP at this; omega) (fun j h => by have := hP 25 j h; unfold zScr zRhvP at this; omega)⟩
theorem zRI.u_hv3 {S : zRS} {s : zST} {i c l : Nat} {x y z : Int32} (hX : zhvOk c l x y z) (hI : zRI S s) (hW : zWT s) : zRI (zRa (zRa (zRa S 22 i x) 23 i y) 24 i z) (zsHv s i c l) := by
  have e1 : (zRa (zRa (zRa S 22 i x) 23 i y) 24 i z).2.1 22 i = x := by rw [zRa_ne (Or.inl (by decide)), zRa_ne (Or.inl (by decide)), zRa_at]
  have e2 : (zRa (zRa (zRa S 22 i x) 23 i y) 24 i z).2.1 23 i = y := by rw [zRa_ne (Or.inl (by decide)), zRa_at]
  have e3 : (zRa (zRa (zRa S 22 i x) 23 i y) 24 i z).2.1 24 i = z := zRa_at
  exact zRI.u_hv (P := zRhvP i) (by rw [e1, e2, e3]; exact hX) hI hW (((zRF.rf.a ⟨by omega, by omega, rfl⟩).a ⟨by omega, by omega, rfl⟩).a ⟨by omega, by omega, rfl⟩) (fun k j g => Or.inr g)
theorem cr_shelf0 {d r : Nat} {h : zH} {S : zRS} {s : zST} {a c : Int32} (hr : 2 ≤ r) (hI : zRI S s) (hW : zWT s) : zCallP (d + 3) 277 [.ref r, .int a, .int (nI 0), .int c] (zRh h r S) (zROut h r (zo_shelf s a (nI 0) c)) := by
  refine zG_mP (t := tX10_shelf) (ls0 := [.ref r, .int a, .int (nI 0), .int c, .null]) rfl rfl (zdnR (zdnI (zdnI (zdnI zdn0)))) rfl ?_
  refine zG_s rfl rfl ?_
  refine zG_cS1 rfl rfl cr_isSheet ?_
  refine zN_ifb rfl (fun c1 => ?_) (fun c2 => ?_)
  · skip
    refine zG_s rfl rfl ?_
    -- leaf 1
    exact zG_ret rfl rfl (zRfin (by rw [zo_shelf, zb_no c1]; first | done | rfl) hI)
  · skip
    obtain ⟨i, hi, rfl⟩ := zin_of c2 (by omega)
    refine zG_s rfl rfl ?_
    refine zG_s rfl rfl ?_
    refine zG_s rfl rfl ?_
    refine zG_cS1 rfl rfl cr_inc ?_
    refine zN_ifb rfl (fun q => by rw [zin_n (by decide) (by decide)] at q; cases q) (fun c4 => ?_)
    refine zG_s rfl rfl ?_
    refine zN_ne0 (x := 0) rfl (by omega) (fun q => absurd q (by decide)) (fun c6 => ?_)
    refine zG_s rfl rfl ?_
    refine zG_cS1 rfl rfl cr_isKind ?_
    refine zN_ifb rfl (fun c7 => ?_) (fun c8 => ?_)
    · skip
      refine zG_s rfl rfl ?_
      -- leaf 2
      exact zG_ret rfl rfl (zRfin (by rw [zo_shelf, zb_i hi (by omega), zb_i (show 0 < 3 by decide) (by decide), if_pos rfl, zb_no c7]; first | done | rfl) hI)
    · skip
      obtain ⟨k, hk, rfl⟩ := zin_of c8 (by omega)
      refine zG_s rfl rfl ?_
      refine zG_s rfl rfl ?_
      refine zN_ine (x := 0) (y := 1) rfl (by omega) (by omega) (fun c9 => ?_) (fun q => absurd q (by decide))
      refine zG_s rfl rfl ?_
      refine zG_s rfl rfl ?_
      refine zN_ine (x := 0) (y := 1) rfl (by omega) (by omega) (fun c11 => ?_) (fun q => absurd q (by decide))
      refine zG_s rfl rfl ?_
      refine zN_st4 rfl (fun _ _ _ => rfl) rfl ?_
      refine zG_s rfl rfl ?_
      refine zN_get rfl zRh_o rfl ?_
      refine zG_s rfl rfl ?_
      refine zG_s rfl rfl ?_
      refine zN_ne0 (x := 0) rfl (by omega) (fun q => absurd q (by decide)) (fun c14 => ?_)
      refine zG_s rfl rfl ?_
      refine zG_s rfl rfl ?_
      refine zR_ast (k := 22) (n := 4) rfl rfl (by omega) hr ?_
      refine zG_s rfl rfl ?_
      refine zN_get rfl zRh_o rfl ?_
      refine zG_s rfl rfl ?_
      refine zG_s rfl rfl ?_
      refine zN_ne0 (x := 0) rfl (by omega) (fun q => absurd q (by decide)) (fun c16 => ?_)
      refine zG_s rfl rfl ?_
      refine zG_s rfl rfl ?_
      refine zR_ast (k := 23) (n := 4) rfl rfl (by omega) hr ?_
      refine zG_s rfl rfl ?_
      refine zN_get rfl zRh_o rfl ?_
      refine zG_s rfl rfl ?_
      refine zG_s rfl rfl ?_
      refine zN_eq0 (x := 0) rfl (by omega) (fun c17 => ?_) (fun q => absurd q (by decide))
      refine zG_s rfl rfl ?_
      refine zR_ast (k := 24) (n := 4) rfl rfl (by omega) hr ?_
      refine zG_s rfl rfl ?_
      -- leaf 3
      exact zG_ret rfl rfl (zRfin (by rw [zo_shelf, zb_i hi (by omega), zb_i (show 0 < 3 by decide) (by decide), if_pos rfl, zb_i hk (by omega)]; first | done | rfl) (zRI.u_hv3 (c := k + 1) (l := (s.2.2.2.2.2.1 i).2) ⟨fun g => absurd g (by omega), fun _ _ => ⟨rfl, rfl⟩, fun g => absurd g (by omega)⟩ hI hW))
theorem cr_shelf2 {d r : Nat} {h : zH} {S : zRS} {s : zST} {a c : Int32} (hr : 2 ≤ r) (hI : zRI S s) (hW : zWT s) : zCallP (d + 3) 277 [.ref r, .int a, .int (nI 2), .int c] (zRh h r S) (zROut h r (zo_shelf s a (nI 2) c)) := by
  refine zG_mP (t := tX10_shelf) (ls0 := [.ref r, .int a, .int (nI 2), .int c, .null]) rfl rfl (zdnR (zdnI (zdnI (zdnI zdn0)))) rfl ?_
  refine zG_s rfl rfl ?_
  refine zG_cS1 rfl rfl cr_isSheet ?_
  refine zN_ifb rfl (fun c1 => ?_) (fun c2 => ?_)
  · skip
    refine zG_s rfl rfl ?_
    -- leaf 1
    exact zG_ret rfl rfl (zRfin (by rw [zo_shelf, zb_no c1]; first | done | rfl) hI)
  · skip
    obtain ⟨i, hi, rfl⟩ := zin_of c2 (by omega)
    refine zG_s rfl rfl ?_
    refine zG_s rfl rfl ?_
    refine zG_s rfl rfl ?_
    refine zG_cS1 rfl rfl cr_inc ?_
    refine zN_ifb rfl (fun q => by rw [zin_n (by decide) (by decide)] at q; cases q) (fun c4 => ?_)
    refine zG_s rfl rfl ?_
    refine zN_ne0 (x := 2) rfl (by omega) (fun c5 => ?_) (fun q => absurd q (by decide))
    refine zG_s rfl rfl ?_
    refine zG_s rfl rfl ?_
    refine zN_ine (x := 2) (y := 1) rfl (by omega) (by omega) (fun c7 => ?_) (fun q => absurd q (by decide))
    refine zG_s rfl rfl ?_
    refine zG_s rfl rfl ?_
    refine zN_ine (x := 2) (y := 1) rfl (by omega) (by omega) (fun c9 => ?_) (fun q => absurd q (by decide))
    refine zG_s rfl rfl ?_
    refine zN_st4 rfl (fun _ _ _ => rfl) rfl ?_
    refine zG_s rfl rfl ?_
    refine zN_get rfl zRh_o rfl ?_
    refine zG_s rfl rfl ?_
    refine zG_s rfl rfl ?_
    refine zN_ne0 (x := 2) rfl (by omega) (fun c11 => ?_) (fun q => absurd q (by decide))
    refine zG_s rfl rfl ?_
    refine zN_eq0 (x := 0) rfl (by omega) (fun c13 => ?_) (fun q => absurd q (by decide))
    refine zG_s rfl rfl ?_
    refine zR_ast (k := 22) (n := 4) rfl rfl (by omega) hr ?_
    refine zG_s rfl rfl ?_
    refine zN_get rfl zRh_o rfl ?_
    refine zG_s rfl rfl ?_
    refine zG_s rfl rfl ?_
    refine zN_ne0 (x := 2) rfl (by omega) (fun c15 => ?_) (fun q => absurd q (by decide))
    refine zG_s rfl rfl ?_
    refine zN_eq0 (x := 0) rfl (by omega) (fun c17 => ?_) (fun q => absurd q (by decide))
    refine zG_s rfl rfl ?_
    refine zR_ast (k := 23) (n := 4) rfl rfl (by omega) hr ?_
    refine zG_s rfl rfl ?_
    refine zN_get rfl zRh_o rfl ?_
    refine zG_s rfl rfl ?_
    refine zG_s rfl rfl ?_
    refine zN_eq0 (x := 0) rfl (by omega) (fun c19 => ?_) (fun q => absurd q (by decide))
    refine zG_s rfl rfl ?_
    refine zR_ast (k := 24) (n := 4) rfl rfl (by omega) hr ?_
    refine zG_s rfl rfl ?_
    -- leaf 2
    exact zG_ret rfl rfl (zRfin (by rw [zo_shelf, zb_i hi (by omega), zb_i (show 2 < 3 by decide) (by decide), if_neg (by decide), if_neg (by decide)]; first | done | rfl) (zRI.u_hv3 (c := 0) (l := (s.2.2.2.2.2.1 i).2) ⟨fun _ => rfl, fun g => absurd g (by omega), fun g => absurd g (by omega)⟩ hI hW))
theorem cr_shelf1n {d r : Nat} {h : zH} {S : zRS} {s : zST} {a c : Int32} (hr : 2 ≤ r) (hI : zRI S s) (hW : zWT s) (hc : zin c 4 = false) : zCallP (d + 3) 277 [.ref r, .int a, .int (nI 1), .int c] (zRh h r S) (zROut h r (zo_shelf s a (nI 1) c)) := by
  refine zG_mP (t := tX10_shelf) (ls0 := [.ref r, .int a, .int (nI 1), .int c, .null]) rfl rfl (zdnR (zdnI (zdnI (zdnI zdn0)))) rfl ?_
  refine zG_s rfl rfl ?_
  refine zG_cS1 rfl rfl cr_isSheet ?_
  refine zN_ifb rfl (fun c1 => ?_) (fun c2 => ?_)
  · skip
    refine zG_s rfl rfl ?_
    -- leaf 1
    exact zG_ret rfl rfl (zRfin (by rw [zo_shelf, zb_no c1]; first | done | rfl) hI)
  · skip
    obtain ⟨i, hi, rfl⟩ := zin_of c2 (by omega)
    refine zG_s rfl rfl ?_
    refine zG_s rfl rfl ?_
    refine zG_s rfl rfl ?_
    refine zG_cS1 rfl rfl cr_inc ?_
    refine zN_ifb rfl (fun q => by rw [zin_n (by decide) (by decide)] at q; cases q) (fun c4 => ?_)
    refine zG_s rfl rfl ?_
    refine zN_ne0 (x := 1) rfl (by omega) (fun c5 => ?_) (fun q => absurd q (by decide))
    refine zG_s rfl rfl ?_
    refine zG_s rfl rfl ?_
    refine zN_ine (x := 1) (y := 1) rfl (by omega) (by omega) (fun q => absurd rfl q) (fun c8 => ?_)
    refine zG_s rfl rfl ?_
    refine zG_cS1 rfl rfl cr_isSheet ?_
    refine zN_ifnb rfl (fun q => by rw [hc] at q; cases q) (fun c10 => ?_)
    refine zG_s rfl rfl ?_
    -- leaf 2
    exact zG_ret rfl rfl (zRfin (by rw [zo_shelf, zb_i hi (by omega), zb_i (show 1 < 3 by decide) (by decide), if_neg (by decide), if_pos rfl, zb_no hc]; first | done | rfl) hI)
theorem cr_shelf1e {d r : Nat} {h : zH} {S : zRS} {s : zST} {a : Int32} {k : Nat} (hr : 2 ≤ r) (hI : zRI S s) (hW : zWT s) (hk : k < 4) (h0 : (s.2.2.2.2.1 k).1 = 0) : zCallP (d + 3) 277 [.ref r, .int a, .int (nI 1), .int (nI k)] (zRh h r S) (zROut h r (zo_shelf s a (nI 1) (nI k))) := by
  refine zG_mP (t := tX10_shelf) (ls0 := [.ref r, .int a, .int (nI 1), .int (nI k), .null]) rfl rfl (zdnR (zdnI (zdnI (zdnI zdn0)))) rfl ?_
  refine zG_s rfl rfl ?_
  refine zG_cS1 rfl rfl cr_isSheet ?_
  refine zN_ifb rfl (fun c1 => ?_) (fun c2 => ?_)
  · skip
    refine zG_s rfl rfl ?_
    -- leaf 1
    exact zG_ret rfl rfl (zRfin (by rw [zo_shelf, zb_no c1]; first | done | rfl) hI)
  · skip
    obtain ⟨i, hi, rfl⟩ := zin_of c2 (by omega)
    refine zG_s rfl rfl ?_
    refine zG_s rfl rfl ?_
    refine zG_s rfl rfl ?_
    refine zG_cS1 rfl rfl cr_inc ?_
    refine zN_ifb rfl (fun q => by rw [zin_n (by decide) (by decide)] at q; cases q) (fun c4 => ?_)
    refine zG_s rfl rfl ?_
    refine zN_ne0 (x := 1) rfl (by omega) (fun c5 => ?_) (fun q => absurd q (by decide))
    refine zG_s rfl rfl ?_
    refine zG_s rfl rfl ?_
    refine zN_ine (x := 1) (y := 1) rfl (by omega) (by omega) (fun q => absurd rfl q) (fun c8 => ?_)
    refine zG_s rfl rfl ?_
    refine zG_cS1 rfl rfl cr_isSheet ?_
    refine zN_ifnb rfl (fun c9 => ?_) (fun q => by rw [zin_n hk (by decide)] at q; cases q)
    have h2 := hI.sh k hk
    obtain ⟨hst, hln⟩ := hW.2.2.2.1 k hk
    refine zG_s rfl rfl ?_
    refine zG_s rfl rfl ?_
    refine zN_ine (x := 1) (y := 1) rfl (by omega) (by omega) (fun q => absurd rfl q) (fun c12 => ?_)
    refine zG_s rfl rfl ?_
    refine zN_get rfl zRh_o rfl ?_
    refine zG_s rfl rfl ?_
    refine zR_ald (k := 18) (n := 4) rfl rfl (by omega) h2.1 ?_
    refine zN_ifbv rfl (by omega) (fun c13 => ?_) (fun q => absurd h0 q)
    refine zG_s rfl rfl ?_
    refine zN_st4 rfl (fun _ _ _ => rfl) rfl ?_
    refine zG_s rfl rfl ?_
    refine zN_get rfl zRh_o rfl ?_
    refine zG_s rfl rfl ?_
    refine zG_s rfl rfl ?_
    refine zN_ne0 (x := 1) rfl (by omega) (fun c15 => ?_) (fun q => absurd q (by decide))
    refine zG_s rfl rfl ?_
    refine zN_eq0 (x := 0) rfl (by omega) (fun c17 => ?_) (fun q => absurd q (by decide))
    refine zG_s rfl rfl ?_
    refine zR_ast (k := 22) (n := 4) rfl rfl (by omega) hr ?_
    refine zG_s rfl rfl ?_
    refine zN_get rfl zRh_o rfl ?_
    refine zG_s rfl rfl ?_
    refine zG_s rfl rfl ?_
    refine zN_ne0 (x := 1) rfl (by omega) (fun c19 => ?_) (fun q => absurd q (by decide))
    refine zG_s rfl rfl ?_
    refine zN_eq0 (x := 0) rfl (by omega) (fun c21 => ?_) (fun q => absurd q (by decide))
    refine zG_s rfl rfl ?_
    refine zR_ast (k := 23) (n := 4) rfl rfl (by omega) hr ?_
    refine zG_s rfl rfl ?_
    refine zN_get rfl zRh_o rfl ?_
    refine zG_s rfl rfl ?_
    refine zG_s rfl rfl ?_
    refine zN_eq0 (x := 0) rfl (by omega) (fun c23 => ?_) (fun q => absurd q (by decide))
    refine zG_s rfl rfl ?_
    refine zR_ast (k := 24) (n := 4) rfl rfl (by omega) hr ?_
    refine zG_s rfl rfl ?_
    -- leaf 2
    exact zG_ret rfl rfl (zRfin (by rw [zo_shelf, zb_i hi (by omega), zb_i (show 1 < 3 by decide) (by decide), if_neg (by decide), if_pos rfl, zb_i hk (by omega), if_pos h0]; first | done | rfl) (zRI.u_hv3 (c := 0) (l := (s.2.2.2.2.2.1 i).2) ⟨fun _ => rfl, fun g => absurd g (by omega), fun g => absurd g (by omega)⟩ hI hW))
theorem cr_shelf1 {d r : Nat} {h : zH} {S : zRS} {s : zST} {a : Int32} {k : Nat} (hr : 2 ≤ r) (hI : zRI S s) (hW : zWT s) (hk : k < 4) (h0 : (s.2.2.2.2.1 k).1 ≠ 0) : zCallP (d + 3) 277 [.ref r, .int a, .int (nI 1), .int (nI k)] (zRh h r S) (zROut h r (zo_shelf s a (nI 1) (nI k))) := by
  refine zG_mP (t := tX10_shelf) (ls0 := [.ref r, .int a, .int (nI 1), .int (nI k), .null]) rfl rfl (zdnR (zdnI (zdnI (zdnI zdn0)))) rfl ?_
  refine zG_s rfl rfl ?_
  refine zG_cS1 rfl rfl cr_isSheet ?_
  refine zN_ifb rfl (fun c1 => ?_) (fun c2 => ?_)
  · skip
    refine zG_s rfl rfl ?_
    -- leaf 1
    exact zG_ret rfl rfl (zRfin (by rw [zo_shelf, zb_no c1]; first | done | rfl) hI)
  · skip
    obtain ⟨i, hi, rfl⟩ := zin_of c2 (by omega)
    refine zG_s rfl rfl ?_
    refine zG_s rfl rfl ?_
    refine zG_s rfl rfl ?_
    refine zG_cS1 rfl rfl cr_inc ?_
    refine zN_ifb rfl (fun q => by rw [zin_n (by decide) (by decide)] at q; cases q) (fun c4 => ?_)
    refine zG_s rfl rfl ?_
    refine zN_ne0 (x := 1) rfl (by omega) (fun c5 => ?_) (fun q => absurd q (by decide))
    refine zG_s rfl rfl ?_
    refine zG_s rfl rfl ?_
    refine zN_ine (x := 1) (y := 1) rfl (by omega) (by omega) (fun q => absurd rfl q) (fun c8 => ?_)
    refine zG_s rfl rfl ?_
    refine zG_cS1 rfl rfl cr_isSheet ?_
    refine zN_ifnb rfl (fun c9 => ?_) (fun q => by rw [zin_n hk (by decide)] at q; cases q)
    have h2 := hI.sh k hk
    obtain ⟨hst, hln⟩ := hW.2.2.2.1 k hk
    refine zG_s rfl rfl ?_
    refine zG_s rfl rfl ?_
    refine zN_ine (x := 1) (y := 1) rfl (by omega) (by omega) (fun q => absurd rfl q) (fun c12 => ?_)
    refine zG_s rfl rfl ?_
    refine zN_get rfl zRh_o rfl ?_
    refine zG_s rfl rfl ?_
    refine zR_ald (k := 18) (n := 4) rfl rfl (by omega) h2.1 ?_
    refine zN_ifbv rfl (by omega) (fun q => absurd q h0) (fun c14 => ?_)
    refine zG_s rfl rfl ?_
    refine zG_s rfl rfl ?_
    refine zN_st4 rfl (fun _ _ _ => rfl) rfl ?_
    refine zG_s rfl rfl ?_
    refine zN_get rfl zRh_o rfl ?_
    refine zG_s rfl rfl ?_
    refine zG_s rfl rfl ?_
    refine zN_ne0 (x := 1) rfl (by omega) (fun c15 => ?_) (fun q => absurd q (by decide))
    refine zG_s rfl rfl ?_
    refine zN_eq0 (x := 1) rfl (by omega) (fun q => absurd q (by decide)) (fun c18 => ?_)
    refine zG_s rfl rfl ?_
    refine zG_s rfl rfl ?_
    refine zR_ast (k := 22) (n := 4) rfl rfl (by omega) hr ?_
    refine zG_s rfl rfl ?_
    refine zN_get rfl zRh_o rfl ?_
    refine zG_s rfl rfl ?_
    refine zG_s rfl rfl ?_
    refine zN_ne0 (x := 1) rfl (by omega) (fun c19 => ?_) (fun q => absurd q (by decide))
    refine zG_s rfl rfl ?_
    refine zN_eq0 (x := 1) rfl (by omega) (fun q => absurd q (by decide)) (fun c22 => ?_)
    refine zG_s rfl rfl ?_
    refine zN_get rfl zRh_o rfl ?_
    refine zG_s rfl rfl ?_
    refine zR_ald (k := 18) (n := 4) rfl rfl (by omega) ((zRa_ne (Or.inl (by decide))).trans h2.1) ?_
    obtain ⟨t9, ht9⟩ : ∃ t, (s.2.2.2.2.1 k).1 = t + 1 := ⟨(s.2.2.2.2.1 k).1 - 1, by omega⟩
    rw [show zbv (s.2.2.2.2.1 k).1 = nI t9 from by rw [ht9]; rfl]
    refine zG_s rfl rfl ?_
    refine zR_ast (k := 23) (n := 4) rfl rfl (by omega) hr ?_
    refine zG_s rfl rfl ?_
    refine zN_get rfl zRh_o rfl ?_
    refine zG_s rfl rfl ?_
    refine zG_s rfl rfl ?_
    refine zN_eq0 (x := 1) rfl (by omega) (fun q => absurd q (by decide)) (fun c24 => ?_)
    refine zG_s rfl rfl ?_
    refine zN_get rfl zRh_o rfl ?_
    refine zG_s rfl rfl ?_
    refine zR_ald (k := 19) (n := 4) rfl rfl (by omega) ((zRa_ne (Or.inl (by decide))).trans ((zRa_ne (Or.inl (by decide))).trans (h2.2 (by omega)).1)) ?_
    refine zG_s rfl rfl ?_
    refine zR_ast (k := 24) (n := 4) rfl rfl (by omega) hr ?_
    refine zG_s rfl rfl ?_
    -- leaf 2
    exact zG_ret rfl rfl (zRfin (by rw [zo_shelf, zb_i hi (by omega), zb_i (show 1 < 3 by decide) (by decide), if_neg (by decide), if_pos rfl, zb_i hk (by omega), if_neg h0]; first | done | rfl) (zRI.u_hv3 (c := 10 + (s.2.2.2.2.1 k).1) (l := (s.2.2.2.2.1 k).2.1) ⟨fun g => absurd g (by omega), fun _ g => absurd g (by omega), fun _ => ⟨rfl, by rw [show 10 + (s.2.2.2.2.1 k).1 - 11 = t9 by omega], rfl⟩⟩ hI hW))
theorem cr_shelfX {d r : Nat} {h : zH} {S : zRS} {s : zST} {a b c : Int32} (hr : 2 ≤ r) (hI : zRI S s) (hW : zWT s) (hb : zin b 3 = false) : zCallP (d + 3) 277 [.ref r, .int a, .int b, .int c] (zRh h r S) (zROut h r (zo_shelf s a b c)) := by
  refine zG_mP (t := tX10_shelf) (ls0 := [.ref r, .int a, .int b, .int c, .null]) rfl rfl (zdnR (zdnI (zdnI (zdnI zdn0)))) rfl ?_
  refine zG_s rfl rfl ?_
  refine zG_cS1 rfl rfl cr_isSheet ?_
  refine zN_ifb rfl (fun c1 => ?_) (fun c2 => ?_)
  · skip
    refine zG_s rfl rfl ?_
    -- leaf 1
    exact zG_ret rfl rfl (zRfin (by rw [zo_shelf, zb_no c1]) hI)
  · skip
    obtain ⟨i, hi, rfl⟩ := zin_of c2 (by omega)
    refine zG_s rfl rfl ?_
    refine zG_s rfl rfl ?_
    refine zG_s rfl rfl ?_
    refine zG_cS1 rfl rfl cr_inc ?_
    refine zN_ifb rfl (fun c3 => ?_) (fun q => by rw [hb] at q; cases q)
    refine zG_s rfl rfl ?_
    -- leaf 2
    exact zG_ret rfl rfl (zRfin (by rw [zo_shelf, zb_i hi (by omega), zb_no hb]) hI)
theorem cr_shelf {d r : Nat} {h : zH} {S : zRS} {s : zST} {a b c : Int32} (hr : 2 ≤ r) (hI : zRI S s) (hW : zWT s) : zCallP (d + 3) 277 [.ref r, .int a, .int b, .int c] (zRh h r S) (zROut h r (zo_shelf s a b c)) := by
  rcases zcs3 b with rfl | rfl | rfl | e
  · exact cr_shelf0 hr hI hW
  · cases q : zin c 4 with
    | false => exact cr_shelf1n hr hI hW q
    | true =>
      obtain ⟨k, hk, rfl⟩ := zin_of q (by decide)
      by_cases h0 : (s.2.2.2.2.1 k).1 = 0
      · exact cr_shelf1e hr hI hW hk h0
      · exact cr_shelf1 hr hI hW hk h0
  · exact cr_shelf2 hr hI hW
  · exact cr_shelfX hr hI hW e
