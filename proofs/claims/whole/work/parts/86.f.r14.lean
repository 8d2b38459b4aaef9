theorem zW_has {n k : Nat} {lo hi : Nat → Nat} (hn : n ≤ 8) : ∀ j, j ≤ 1 <<< n → 0 < (zW n lo hi k j).2.2.1 ∨ ∃ t, t + j < 1 <<< n ∧ 0 < (zW n lo hi k j).1 t
  | 0, _ => Or.inr ⟨1 <<< n - 1, by have := zpow_le hn; omega, by show 0 < (if 1 <<< n - 1 = 1 <<< n - 1 then 1 else 0); rw [if_pos rfl]; omega⟩
  | j + 1, hj => by
    have hW : zW n lo hi k (j + 1) = if zWx (zWg n lo hi k (zW n lo hi k j).1 (1 <<< n - 1 - j)) (1 <<< n - 1 - j) (zW n lo hi k j).1 n (1 <<< n - 1 - j) ≠ 0 ∧ zWg n lo hi k (zW n lo hi k j).1 (1 <<< n - 1 - j) = 0 then (zWx (zWg n lo hi k (zW n lo hi k j).1 (1 <<< n - 1 - j)) (1 <<< n - 1 - j) (zW n lo hi k j).1 n, zupd (zW n lo hi k j).2.1 (zW n lo hi k j).2.2.1 (1 <<< n - 1 - j), (zW n lo hi k j).2.2.1 + 1, (zW n lo hi k j).2.2.2 + zWx (zWg n lo hi k (zW n lo hi k j).1 (1 <<< n - 1 - j)) (1 <<< n - 1 - j) (zW n lo hi k j).1 n (1 <<< n - 1 - j)) else (zWx (zWg n lo hi k (zW n lo hi k j).1 (1 <<< n - 1 - j)) (1 <<< n - 1 - j) (zW n lo hi k j).1 n, (zW n lo hi k j).2) := rfl
    have ih := zW_has (k := k) (lo := lo) (hi := hi) hn j (by omega)
    rw [hW]
    generalize zW n lo hi k j = q at *
    obtain ⟨f, E, m, T⟩ := q
    simp only at *
    have hge : ∀ G s x t, f t ≤ zWx G s f x t := fun G s x => by
      induction x with
      | zero => exact fun t => Nat.le_refl _
      | succ x ih =>
        intro t
        rw [zWx]
        split
        · by_cases e : t = zan s (1 <<< x)
          · rw [e, zupd_at]; have := ih (zan s (1 <<< x)); omega
          · rw [zupd_ne _ _ e]; exact ih t
        · exact ih t
    rcases ih with ih | ⟨t, ht, hp⟩
    · left
      split
      · show 0 < m + 1; omega
      · exact ih
    · by_cases e : t + (j + 1) < 1 <<< n
      · right
        refine ⟨t, e, ?_⟩
        have := hge (zWg n lo hi k f (1 <<< n - 1 - j)) (1 <<< n - 1 - j) n t
        split <;> (show 0 < zWx _ _ _ _ _; omega)
      · have et : t = 1 <<< n - 1 - j := by omega
        rw [← et]
        by_cases eG : zWg n lo hi k f t = 0
        · left
          have := hge (zWg n lo hi k f t) t n t
          rw [if_pos ⟨by omega, eG⟩]
          show 0 < m + 1
          omega
        · right
          rw [if_neg (fun g => eG g.2)]
          obtain ⟨x, hx⟩ := zbit_of eG
          have hxt := zWg_in x hx
          have hg : zWg n lo hi k f t = zGoers n lo hi k t := if_neg (by omega)
          have hxn := (zGoers_in x (by rw [← hg]; exact hx)).1
          have hlt := zan_cut_lt hxt
          refine ⟨zan t (1 <<< x), by omega, ?_⟩
          show 0 < zWx (zWg n lo hi k f t) t f n (zan t (1 <<< x))
          have hstep : ∀ b, x + 1 ≤ b → 0 < zWx (zWg n lo hi k f t) t f b (zan t (1 <<< x)) := fun b hb => by
            induction b with
            | zero => omega
            | succ b ihb =>
              rw [zWx]
              by_cases ex : x = b
              · rw [← ex, if_pos hx, zupd_at]
                have := hge (zWg n lo hi k f t) t x t
                omega
              · have := ihb (by omega)
                split
                · by_cases e2 : zan t (1 <<< x) = zan t (1 <<< b)
                  · rw [e2, zupd_at]; rw [e2] at this; omega
                  · rw [zupd_ne _ _ e2]; exact this
                · exact this
          exact hstep n (by omega)
theorem zW_one {n k : Nat} {lo hi : Nat → Nat} (hn : n ≤ 8) : 0 < (zW n lo hi k (1 <<< n)).2.2.1 := by
  rcases zW_has (k := k) (lo := lo) (hi := hi) hn (1 <<< n) (Nat.le_refl _) with h | ⟨t, h, _⟩
  · exact h
  · omega
theorem zRcn_lt {lo lo2 : Nat → Nat} (p p2 : Nat) : zRcn lo lo2 p p2 < 2 ^ 31 := by
  have h1 : 8 ^ zPos p 8 ≤ 8 ^ 8 := Nat.pow_le_pow_right (by decide) (zct_le _ _)
  have h2 : 8 ^ 8 < 2 ^ 31 := by decide
  unfold zRcn
  split
  · have := zGc_le lo lo2 (zNth p) (zPos p 8) 0 p2 (fun _ => 0)
    omega
  · decide
theorem cr_homotopic {d r : Nat} {h : zH} {S : zRS} {s : zST} {a b : Int32} (hr : 2 ≤ r) (hI : zRI S s) (hW : zWT s) : zCallP (d + 13) 222 [.ref r, .int a, .int b] (zRh h r S) (zROut h r (zo_homotopic s a b)) := by
  refine zG_mP (t := tX10_homotopic) (ls0 := [.ref r, .int a, .int b]) rfl rfl (zdnR (zdnI (zdnI zdn0))) rfl ?_
  refine zG_s rfl rfl ?_
  refine zG_cS1 rfl rfl cr_isSpace ?_
  refine zN_ifb rfl (fun c1 => ?_) (fun c2 => ?_)
  · skip
    refine zG_s rfl rfl ?_
    -- leaf 1
    exact zG_ret rfl rfl (zRfin (by rw [zo_homotopic, zb_no c1]) hI)
  · skip
    obtain ⟨i, hi, rfl⟩ := zin_of c2 (by omega)
    have hS := hI.sp i hi
    have hP := hW.1 i hi
    have hn8 := hP.1
    have hpw := zpow_le hn8
    refine zG_s rfl rfl ?_
    refine zG_cS1 rfl rfl cr_isSpace ?_
    refine zN_ifnb rfl (fun c3 => ?_) (fun c4 => ?_)
    · skip
      obtain ⟨j, hj, rfl⟩ := zin_of c3 (by omega)
      have hSj := hI.sp j hj
      have hPj := hW.1 j hj
      have hl1 := zLeft_lt (k := 3) (o := 0) (lo := (s.1 i).2) (hi := zTr (s.1 i).1 (s.1 i).2) hn8
      have hl2 := zLeft_lt (k := 3) (o := 0) (lo := (s.1 j).2) (hi := zTr (s.1 j).1 (s.1 j).2) hPj.1
      have hso := zRc_some hP hPj hl1 hl2
      refine zG_s rfl rfl ?_
      refine zG_s rfl rfl ?_
      refine zG_s rfl rfl ?_
      refine zG_s rfl rfl ?_
      refine zG_s rfl rfl ?_
      refine zG_s rfl rfl ?_
      refine zG_s rfl rfl ?_
      refine zG_s rfl rfl ?_
      refine zG_cV1 rfl rfl zRh_o rfl rfl (cr_all hS (by omega)) ?_
      refine zG_cV1 rfl rfl zRh_o rfl rfl (cr_leftAll hS hP (by omega) (by omega)) ?_
      refine zG_s rfl rfl ?_
      refine zG_s rfl rfl ?_
      refine zG_s rfl rfl ?_
      refine zG_s rfl rfl ?_
      refine zG_s rfl rfl ?_
      refine zG_s rfl rfl ?_
      refine zG_s rfl rfl ?_
      refine zG_cV1 rfl rfl zRh_o rfl rfl (cr_all hSj hPj.1) ?_
      refine zG_cV1 rfl rfl zRh_o rfl rfl (cr_leftAll hSj hPj (by omega) (by omega)) ?_
      refine zG_cQV rfl rfl zRh_o rfl rfl (cr_renumberings hr hS hP hSj hPj hl1 hl2) (fun h1 hB => ?_)
      obtain ⟨S1, rfl, hF1, hfi⟩ := hB
      have hI := hI.fr hW hF1 zRnR.scr
      have hrl := zRcn_lt (lo := (s.1 i).2) (lo2 := (s.1 j).2) (zLeft (s.1 i).1 (s.1 i).2 (zTr (s.1 i).1 (s.1 i).2) 3 0) (zLeft (s.1 j).1 (s.1 j).2 (zTr (s.1 j).1 (s.1 j).2) 3 0)
      refine zN_le0 rfl (by omega) (fun c5 => ?_) (fun c6 => ?_)
      · skip
        refine zG_s rfl rfl ?_
        -- leaf 2
        exact zG_ret rfl rfl (zRfin (by rw [zo_homotopic, zb_i hi (by omega), zb_i hj (by omega)]; unfold zLf; rw [← hso, decide_eq_false (by omega)]; rfl) hI)
      · skip
        refine zG_s rfl rfl ?_
        refine zG_s rfl rfl ?_
        -- leaf 3
        exact zG_ret rfl rfl (zRfin (by rw [zo_homotopic, zb_i hi (by omega), zb_i hj (by omega)]; unfold zLf; rw [← hso, decide_eq_true (by omega)]; rfl) hI)
    · skip
      refine zG_s rfl rfl ?_
      -- leaf 4
      exact zG_ret rfl rfl (zRfin (by rw [zo_homotopic, zb_i hi (by omega), zb_no c4]) hI)
