section ZSAME
variable {n n2 : Nat} {lo lo2 : Nat → Nat}
theorem zPos_alln (hn : n ≤ 8) {x : Nat} (hx : x ≤ n) : zPos (1 <<< n - 1) x = x := zPos_all x hx
theorem zNth_all (hn : n ≤ 8) {x : Nat} (hx : x < n) : zNth (1 <<< n - 1) x = x := by
  have h := zNth_pos (s := 1 <<< n - 1) (x := x) (by omega) (by rw [zall_bit]; exact decide_eq_true hx)
  rwa [zPos_alln hn (by omega)] at h
theorem zall_lt (hn : n ≤ 8) : 1 <<< n - 1 < 1 <<< n := by have := zpow_le hn; omega
theorem zPl_alln {g : Nat → Nat} (hn : n ≤ 8) (hg : ∀ x, x < n → g x < 1 <<< n) {x : Nat} (hx : x < n) : zPl g (1 <<< n - 1) x = g x := by
  rw [zPl_row, zPos_8 hn (zall_lt hn), zPos_alln hn (Nat.le_refl n), zNth_all hn hx]
  refine zext (fun i => ?_)
  rw [zbits_bit]
  by_cases hi : i < n
  · rw [decide_eq_true hi, zNth_all hn hi]; rfl
  · rw [decide_eq_false hi]
    cases q : (g x).testBit i with
    | false => rfl
    | true => exact absurd (zlt_bit (hg x hx) q) hi
theorem zCho_cong9 {nB k u : Nat} {fl fh tl th fl' fh' tl' th' I : Nat → Nat} (h1 : fl k = fl' k) (h2 : fh k = fh' k) (ht : ∀ y, y < nB → tl y = tl' y ∧ th y = th' y) : ∀ j, (∀ i, i < j → I i < nB) → zCho true nB fl fh tl th I k u j = zCho true nB fl' fh' tl' th' I k u j
  | 0, _ => rfl
  | j + 1, h => by
    have hj := ht (I j) (h j (by omega))
    rw [zCho, zCho, zCho_cong9 h1 h2 ht j (fun i hi => h i (by omega)), h1, h2, hj.1, hj.2]
theorem zFc_cong9 {nB m : Nat} {fl fh tl th fl' fh' tl' th' : Nat → Nat} (hB : nB ≤ 8) (hf : ∀ k, k < m → fl k = fl' k ∧ fh k = fh' k) (ht : ∀ y, y < nB → tl y = tl' y ∧ th y = th' y) : ∀ q k u I, k + q = m → (∀ j, j < k → I j < nB) → zFc true nB fl fh tl th q k u I = zFc true nB fl' fh' tl' th' q k u I
  | 0, _, _, _, _, _ => rfl
  | q + 1, k, u, I, hk, hI => by
    rw [zFc_s hB, zFc_s hB, zCho_cong9 (hf k (by omega)).1 (hf k (by omega)).2 ht k hI]
    refine zsm_cg (fun y hy => ?_)
    rw [zFc_cong9 hB hf ht q (k + 1) (u ||| 1 <<< y) (zupd I k y) (by omega) (fun j hj => by
      by_cases e : j = k
      · rw [e, zupd_at]; exact hy
      · rw [zupd_ne _ _ e]; exact hI j (by omega))]
theorem zRenum_all (hP : zPre n lo) (hP2 : zPre n2 lo2) : zRenum (zPos (1 <<< n - 1) n) (zPl lo (1 <<< n - 1)) (zPl (zTr n lo) (1 <<< n - 1)) (zPos (1 <<< n2 - 1) n2) (zPl lo2 (1 <<< n2 - 1)) (zPl (zTr n2 lo2) (1 <<< n2 - 1)) = zRenum n lo (zTr n lo) n2 lo2 (zTr n2 lo2) := by
  rw [zPos_alln hP.1 (Nat.le_refl n), zPos_alln hP2.1 (Nat.le_refl n2)]
  unfold zRenum
  split
  · exact zFc_cong9 hP2.1 (m := n) (fun k hk => ⟨zPl_alln hP.1 (fun x hx => (hP.2 x hx).1) hk, zPl_alln hP.1 (fun x _ => zTr_lt) hk⟩) (fun y hy => ⟨zPl_alln hP2.1 (fun x hx => (hP2.2 x hx).1) hy, zPl_alln hP2.1 (fun x _ => zTr_lt) hy⟩) n 0 0 _ (by omega) (fun j hj => absurd hj (Nat.not_lt_zero j))
  · rfl
end ZSAME
theorem zRc_0 {lo lo2 : Nat → Nat} {p p2 : Nat} : zRcn lo lo2 p p2 = 0 ↔ zRcf lo lo2 p p2 = none := by
  unfold zRcn zRcf
  split
  · exact zGcf ..
  · exact ⟨fun _ => rfl, fun _ => rfl⟩
theorem zFal_some {m p2 : Nat} {a b : Option (Nat → Nat)} (h : zFal m p2 a b) (ha : a ≠ none) : ∃ J K, a = some J ∧ b = some K ∧ ∀ j, j < m → J j = zNth p2 (K j) ∧ K j < zPos p2 8 := by
  cases a with
  | none => exact absurd rfl ha
  | some J =>
    cases b with
    | none => exact h.elim
    | some K => exact ⟨J, K, rfl, rfl, h⟩
theorem zFal_none {m p2 : Nat} {a b : Option (Nat → Nat)} (h : zFal m p2 a b) (ha : a = none) : b = none := by
  rw [ha] at h
  cases b with
  | none => rfl
  | some K => exact h.elim
theorem cr_sameA {d r : Nat} {h : zH} {S : zRS} {s : zST} {a b : Int32} (hr : 2 ≤ r) (hI : zRI S s) (hW : zWT s) : zCallP (d + 13) 223 [.ref r, .int a, .int b, .int (-1)] (zRh h r S) (zROut h r (zo_same s a b (-1))) := by
  refine zG_mP (t := tX10_same) (ls0 := [.ref r, .int a, .int b, .int (-1), .null]) rfl rfl (zdnR (zdnI (zdnI (zdnI zdn0)))) rfl ?_
  refine zG_s rfl rfl ?_
  refine zG_cS1 rfl rfl cr_isSpace ?_
  refine zN_ifb rfl (fun c1 => ?_) (fun c2 => ?_)
  · skip
    refine zG_s rfl rfl ?_
    -- leaf 1
    exact zG_ret rfl rfl (zRfin (by rw [zo_same, zb_no c1]) hI)
  · skip
    obtain ⟨i, hi, rfl⟩ := zin_of c2 (by omega)
    have hS := hI.sp i hi
    have hP := hW.1 i hi
    have hn8 := hP.1
    have hpw := zpow_le hn8
    refine zG_s rfl rfl ?_
    refine zG_cS1 rfl rfl cr_isSpace ?_
    refine zN_ifb rfl (fun c3 => ?_) (fun c4 => ?_)
    · skip
      refine zG_s rfl rfl ?_
      -- leaf 2
      exact zG_ret rfl rfl (zRfin (by rw [zo_same, zb_i hi (by omega), zb_no c3]) hI)
    · skip
      obtain ⟨j, hj, rfl⟩ := zin_of c4 (by omega)
      have hSj := hI.sp j hj
      have hPj := hW.1 j hj
      have hl1 := zall_lt hn8
      have hl2 := zall_lt hPj.1
      have hrc := zRc_eq hP hPj hl1 hl2
      rw [zRenum_all hP hPj] at hrc
      refine zG_s rfl rfl ?_
      refine zG_s rfl rfl ?_
      refine zN_if2 rfl (fun _ => ?_) (fun q => absurd q (by decide))
      refine zG_s rfl rfl ?_
      refine zG_s rfl rfl ?_
      refine zG_s rfl rfl ?_
      refine zG_s rfl rfl ?_
      refine zG_cV1 rfl rfl zRh_o rfl rfl (cr_all hS (by omega)) ?_
      refine zG_s rfl rfl ?_
      refine zG_s rfl rfl ?_
      refine zG_s rfl rfl ?_
      refine zG_cV1 rfl rfl zRh_o rfl rfl (cr_all hSj hPj.1) ?_
      refine zG_cQV rfl rfl zRh_o rfl rfl (cr_renumberings hr hS hP hSj hPj hl1 hl2) (fun h1 hB => ?_)
      obtain ⟨S1, rfl, hF1, hfi⟩ := hB
      have hI := hI.fr hW hF1 zRnR.scr
      refine zN_st4 rfl (fun _ _ _ => rfl) rfl ?_
      refine zG_s rfl rfl ?_
      refine zN_if rfl (fun q => absurd q (by decide)) (fun _ => ?_)
      refine zG_s rfl rfl ?_
      refine zG_s rfl rfl ?_
      -- leaf 3
      exact zG_ret rfl rfl (zRfin (by rw [zo_same, zb_i hi (by omega), zb_i hj (by omega), if_pos rfl, hrc.1]) hI)
theorem cr_sameB {d r : Nat} {h : zH} {S : zRS} {s : zST} {a b c : Int32} (hr : 2 ≤ r) (hI : zRI S s) (hW : zWT s) (hc : c ≠ -1) : zCallP (d + 13) 223 [.ref r, .int a, .int b, .int c] (zRh h r S) (zROut h r (zo_same s a b c)) := by
  refine zG_mP (t := tX10_same) (ls0 := [.ref r, .int a, .int b, .int c, .null]) rfl rfl (zdnR (zdnI (zdnI (zdnI zdn0)))) rfl ?_
  refine zG_s rfl rfl ?_
  refine zG_cS1 rfl rfl cr_isSpace ?_
  refine zN_ifb rfl (fun c1 => ?_) (fun c2 => ?_)
  · skip
    refine zG_s rfl rfl ?_
    -- leaf 1
    exact zG_ret rfl rfl (zRfin (by rw [zo_same, zb_no c1]) hI)
  · skip
    obtain ⟨i, hi, rfl⟩ := zin_of c2 (by omega)
    have hS := hI.sp i hi
    have hP := hW.1 i hi
    have hn8 := hP.1
    have hpw := zpow_le hn8
    refine zG_s rfl rfl ?_
    refine zG_cS1 rfl rfl cr_isSpace ?_
    refine zN_ifb rfl (fun c3 => ?_) (fun c4 => ?_)
    · skip
      refine zG_s rfl rfl ?_
      -- leaf 2
      exact zG_ret rfl rfl (zRfin (by rw [zo_same, zb_i hi (by omega), zb_no c3]) hI)
    · skip
      obtain ⟨j, hj, rfl⟩ := zin_of c4 (by omega)
      have hSj := hI.sp j hj
      have hPj := hW.1 j hj
      have hl1 := zall_lt hn8
      have hl2 := zall_lt hPj.1
      have hrc := (zRc_eq hP hPj hl1 hl2).2
      have hrl := zRcn_lt (lo := (s.1 i).2) (lo2 := (s.1 j).2) (1 <<< (s.1 i).1 - 1) (1 <<< (s.1 j).1 - 1)
      have hp8 : zPos (1 <<< (s.1 i).1 - 1) 8 = (s.1 i).1 := (zPos_8 hn8 hl1).trans (zPos_alln hn8 (Nat.le_refl _))
      have hp9 : zPos (1 <<< (s.1 j).1 - 1) 8 = (s.1 j).1 := (zPos_8 hPj.1 hl2).trans (zPos_alln hPj.1 (Nat.le_refl _))
      refine zG_s rfl rfl ?_
      refine zG_s rfl rfl ?_
      refine zN_if2 rfl (fun q => absurd (of_decide_eq_true q) hc) (fun _ => ?_)
      refine zG_s rfl rfl ?_
      refine zG_s rfl rfl ?_
      refine zG_s rfl rfl ?_
      refine zG_cV1 rfl rfl zRh_o rfl rfl (cr_isPoint hS (by omega)) ?_
      refine zN_ifnb rfl (fun c7 => ?_) (fun c8 => ?_)
      · skip
        obtain ⟨x, hx, rfl⟩ := zin_of c7 (by omega)
        refine zG_s rfl rfl ?_
        refine zG_s rfl rfl ?_
        refine zG_s rfl rfl ?_
        refine zG_s rfl rfl ?_
        refine zG_cV1 rfl rfl zRh_o rfl rfl (cr_all hS (by omega)) ?_
        refine zG_s rfl rfl ?_
        refine zG_s rfl rfl ?_
        refine zG_s rfl rfl ?_
        refine zG_cV1 rfl rfl zRh_o rfl rfl (cr_all hSj hPj.1) ?_
        refine zG_cQV rfl rfl zRh_o rfl rfl (cr_renumberings hr hS hP hSj hPj hl1 hl2) (fun h1 hB => ?_)
        obtain ⟨S1, rfl, hF1, hfi⟩ := hB
        have hI := hI.fr hW hF1 zRnR.scr
        refine zN_st4 rfl (fun _ _ _ => rfl) rfl ?_
        refine zG_s rfl rfl ?_
        refine zN_ge0 rfl (by omega) ?_
        refine zG_s rfl rfl ?_
        refine zN_ne0 rfl (by omega) (fun c11 => ?_) (fun c12 => ?_)
        · skip
          obtain ⟨J, K, hJ, hK, hJK⟩ := zFal_some hrc (fun g => by have := zRc_0.mpr g; omega)
          rw [hJ] at hfi
          have hfx : S1.2.1 12 x = nI (J x) := hfi x (by omega)
          have hjx := hJK x (by omega)
          rw [hjx.1, zNth_all hPj.1 (by omega)] at hfx
          refine zG_s rfl rfl ?_
          refine zN_get rfl zRh_o rfl ?_
          refine zG_s rfl rfl ?_
          refine zR_ald (k := 12) (n := 8) rfl rfl (by omega) hfx ?_
          -- leaf 3
          exact zG_ret rfl rfl (zRfin (by rw [zo_same, zb_i hi (by omega), zb_i hj (by omega), if_neg hc, zb_i hx (by omega), zSameI, show zSameO (s.1 i).1 (s.1 i).2 (s.1 j).1 (s.1 j).2 = some K from hK]) hI)
        · skip
          refine zG_s rfl rfl ?_
          refine zG_s rfl rfl ?_
          -- leaf 4
          exact zG_ret rfl rfl (zRfin (by rw [zo_same, zb_i hi (by omega), zb_i hj (by omega), if_neg hc, zb_i hx (by omega), zSameI, show zSameO (s.1 i).1 (s.1 i).2 (s.1 j).1 (s.1 j).2 = none from zFal_none hrc (zRc_0.mp c12)]) hI)
      · skip
        refine zG_s rfl rfl ?_
        -- leaf 5
        exact zG_ret rfl rfl (zRfin (by rw [zo_same, zb_i hi (by omega), zb_i hj (by omega), if_neg hc, zb_no c8]) hI)
theorem cr_same {d r : Nat} {h : zH} {S : zRS} {s : zST} {a b c : Int32} (hr : 2 ≤ r) (hI : zRI S s) (hW : zWT s) : zCallP (d + 13) 223 [.ref r, .int a, .int b, .int c] (zRh h r S) (zROut h r (zo_same s a b c)) := by
  by_cases hc : c = -1
  · rw [hc]; exact cr_sameA hr hI hW
  · exact cr_sameB hr hI hW hc
