section ZLOOP
variable {xs : Nat → Int32} {L m i : Nat} {h : zH} {s : zST}
theorem law_sw {r : zR → Prop} {k : Nat} (hJ : zJ xs L m h s) (hi : i + 6 ≤ L) (hL : L ≤ 3072) (hk : k < 64) (K : ∀ h2 s2, zJ xs L m h2 s2 → zGoP 20 tL_law 2010 [.ref 0, .ref 2, .ref 112, .int (nI i)] [] h2 r) : zGoP 20 tL_law 33 [.ref 0, .ref 2, .ref 112, .int (nI i)] [.int (nI k)] h r := by
  by_cases h46 : k < 46
  · rcases (by omega : k = 0 ∨ k = 1 ∨ k = 2 ∨ k = 3 ∨ k = 4 ∨ k = 5 ∨ k = 6 ∨ k = 7 ∨ k = 8 ∨ k = 9 ∨ k = 10 ∨ k = 11 ∨ k = 12 ∨ k = 13 ∨ k = 14 ∨ k = 15 ∨ k = 16 ∨ k = 17 ∨ k = 18 ∨ k = 19 ∨ k = 20 ∨ k = 21 ∨ k = 22 ∨ k = 23 ∨ k = 24 ∨ k = 25 ∨ k = 26 ∨ k = 27 ∨ k = 28 ∨ k = 29 ∨ k = 30 ∨ k = 31 ∨ k = 32 ∨ k = 33 ∨ k = 34 ∨ k = 35 ∨ k = 36 ∨ k = 37 ∨ k = 38 ∨ k = 39 ∨ k = 40 ∨ k = 41 ∨ k = 42 ∨ k = 43 ∨ k = 44 ∨ k = 45) with rfl | rfl | rfl | rfl | rfl | rfl | rfl | rfl | rfl | rfl | rfl | rfl | rfl | rfl | rfl | rfl | rfl | rfl | rfl | rfl | rfl | rfl | rfl | rfl | rfl | rfl | rfl | rfl | rfl | rfl | rfl | rfl | rfl | rfl | rfl | rfl | rfl | rfl | rfl | rfl | rfl | rfl | rfl | rfl | rfl | rfl
    · exact zG_s (pc' := 232) rfl rfl (lk_points hJ hi hL K)
    · exact zG_s (pc' := 265) rfl rfl (lk_nest hJ hi hL K)
    · exact zG_s (pc' := 308) rfl rfl (lk_of hJ hi hL K)
    · exact zG_s (pc' := 351) rfl rfl (lk_about hJ hi hL K)
    · exact zG_s (pc' := 394) rfl rfl (lk_told hJ hi hL K)
    · exact zG_s (pc' := 427) rfl rfl (lk_path hJ hi hL K)
    · exact zG_s (pc' := 470) rfl rfl (lk_may hJ hi hL K)
    · exact zG_s (pc' := 513) rfl rfl (lk_price hJ hi hL K)
    · exact zG_s (pc' := 556) rfl rfl (lk_left hJ hi hL K)
    · exact zG_s (pc' := 599) rfl rfl (lk_reduce hJ hi hL K)
    · exact zG_s (pc' := 652) rfl rfl (lk_ways hJ hi hL K)
    · exact zG_s (pc' := 695) rfl rfl (lk_retract hJ hi hL K)
    · exact zG_s (pc' := 718) rfl rfl (lk_homotopic hJ hi hL K)
    · exact zG_s (pc' := 751) rfl rfl (lk_same hJ hi hL K)
    · exact zG_s (pc' := 794) rfl rfl (lk_form hJ hi hL K)
    · exact zG_s (pc' := 817) rfl rfl (lk_byCode hJ hi hL K)
    · exact zG_s (pc' := 860) rfl rfl (lk_list hJ hi hL K)
    · exact zG_s (pc' := 893) rfl rfl (lk_listed hJ hi hL K)
    · exact zG_s (pc' := 946) rfl rfl (lk_tears hJ hi hL K)
    · exact zG_s (pc' := 989) rfl rfl (lk_maps hJ hi hL K)
    · exact zG_s (pc' := 1022) rfl rfl (lk_fence hJ hi hL K)
    · exact zG_s (pc' := 1075) rfl rfl (lk_fixed hJ hi hL K)
    · exact zG_s (pc' := 1108) rfl rfl (lk_chains hJ hi hL K)
    · exact zG_s (pc' := 1141) rfl rfl (lk_euler hJ hi hL K)
    · exact zG_s (pc' := 1164) rfl rfl (lk_holes hJ hi hL K)
    · exact zG_s (pc' := 1197) rfl rfl (lk_divide hJ hi hL K)
    · exact zG_s (pc' := 1230) rfl rfl (lk_faces hJ hi hL K)
    · exact zG_s (pc' := 1283) rfl rfl (lk_made hJ hi hL K)
    · exact zG_s (pc' := 1336) rfl rfl (lk_part hJ hi hL K)
    · exact zG_s (pc' := 1379) rfl rfl (lk_feed hJ hi hL K)
    · exact zG_s (pc' := 1442) rfl rfl (lk_space hJ hi hL K)
    · exact zG_s (pc' := 1465) rfl rfl (lk_seed hJ hi hL K)
    · exact zG_s (pc' := 1488) rfl rfl (lk_draw hJ hi hL K)
    · exact zG_s (pc' := 1531) rfl rfl (lk_sheet hJ hi hL K)
    · exact zG_s (pc' := 1574) rfl rfl (lk_put hJ hi hL K)
    · exact zG_s (pc' := 1617) rfl rfl (lk_item hJ hi hL K)
    · exact zG_s (pc' := 1660) rfl rfl (lk_copy hJ hi hL K)
    · exact zG_s (pc' := 1723) rfl rfl (lk_lay hJ hi hL K)
    · exact zG_s (pc' := 1766) rfl rfl (lk_take hJ hi hL K)
    · exact zG_s (pc' := 1819) rfl rfl (lk_shelf hJ hi hL K)
    · exact zG_s (pc' := 1862) rfl rfl (lk_taken hJ hi hL K)
    · exact zG_s (pc' := 1895) rfl rfl (lk_act hJ hi hL K)
    · exact zG_s (pc' := 1938) rfl rfl (lk_trace hJ hi hL K)
    · exact zG_s (pc' := 1961) rfl rfl (lk_many hJ hi hL K)
    · exact zG_s (pc' := 1984) rfl rfl (lk_keep hJ hi hL K)
    · exact zG_s (pc' := 1997) rfl rfl (lk_again hJ hi hL K)
  · have e : zin (nI k) 46 = false := by
      cases q : zin (nI k) 46 with
      | false => rfl
      | true =>
        obtain ⟨j, hj, ej⟩ := zin_of q (by decide)
        have := (nI_inj (by omega) (by omega)).mp ej
        omega
    exact zN_tsd (p2 := 2010) rfl (zin_out (by decide) e) rfl (K _ _ hJ)
theorem zN_len0 {d : Nat} {t : Nat → Option zI} {pc nx a b c : Nat} {v : Value} {ls st : List Value} {r : zR → Prop} (hai : t pc = some (.arraylength, nx, a, b, c, v)) (h0 : h.2.2 0 = .inl (0, L, .inl xs)) (K : zGoP d t nx ls (.int (nI L) :: st) h r) : zGoP d t pc ls (.ref 0 :: st) h r := by
  refine zG_s hai ?_ K
  show zlen nx ls (.ref 0 :: st) h = _
  unfold zlen
  simp only [h0]
  rfl
theorem law_gt (hi : i ≤ 4000) (hL : L ≤ 3072) : zc2 .gt (nI i) (nI L - nI 6) = decide (L < i + 6) := by
  show decide (nI L - nI 6 < nI i) = _
  refine decide_eq_decide.mpr ?_
  by_cases e : 6 ≤ L
  · rw [pk_sub e, nI_ltI (by omega) (by omega)]
    omega
  · have hn : ∀ k, k < 6 → (nI k - nI 6).toInt < 0 := by decide
    have h1 := hn L (by omega)
    have h2 := nI_pos (show i < 2 ^ 31 by omega)
    have e0 : (0 : Int32).toInt = 0 := by decide
    have h3 : ¬ (nI i).toInt < 0 := fun g => h2 (Int32.lt_iff_toInt_lt.mpr (by omega))
    exact ⟨fun _ => by omega, fun _ => Int32.lt_iff_toInt_lt.mpr (by omega)⟩
theorem law_63 (x : Int32) : ∃ k, k < 64 ∧ x &&& nI 63 = nI k := by
  obtain ⟨w, hw, rfl⟩ := zw32 x
  refine ⟨w &&& 63, Nat.lt_of_le_of_lt Nat.and_le_right (by decide), ?_⟩
  exact nI_and w 63
def zLend (m : Nat) : zR → Prop := fun q => q.1 = some (.int (nI 1)) ∧ q.2.1 = 138 ∧ q.2.2.1 = m
theorem law_loop (hL : L ≤ 3072) : ∀ q i (h : zH) (s : zST), zJ xs L m h s → i ≤ 3078 → L < q + i → zGoP 20 tL_law 18 [.ref 0, .ref 2, .ref 112, .int (nI i)] [] h (zLend m)
  | q, i, h, s, hJ, hi, hq => by
    have h0 := hJ.1
    refine zG_s rfl rfl ?_
    refine zG_s rfl rfl ?_
    refine zN_len0 rfl h0 ?_
    refine zG_s rfl rfl ?_
    refine zG_s (st' := .int (nI L - nI 6) :: _) rfl rfl ?_
    refine zN_if2 rfl (fun g => ?_) (fun g => ?_)
    · refine zG_s rfl rfl ?_
      exact zG_ret rfl rfl ⟨rfl, hJ.2.2.2.2.1, hJ.2.2.2.2.2⟩
    · rw [law_gt (by omega) hL] at g
      have g := of_decide_eq_false g
      obtain ⟨q, rfl⟩ : ∃ p, q = p + 1 := ⟨q - 1, by omega⟩
      refine zG_s rfl rfl ?_
      refine zG_s rfl rfl ?_
      refine zN_ald rfl h0 (by omega) (by omega) rfl ?_
      refine zG_s rfl rfl ?_
      obtain ⟨k, hk, ek⟩ := law_63 (xs i)
      refine zG_s (st' := [.int (nI k)]) rfl (by rw [← ek]; rfl) ?_
      refine law_sw hJ (by omega) hL hk (fun h2 s2 hJ2 => ?_)
      refine zG_s (ls' := [.ref 0, .ref 2, .ref 112, .int (nI (i + 6))]) rfl (by rw [← nI_add]; rfl) ?_
      refine zG_s rfl rfl ?_
      exact law_loop hL q (i + 6) h2 s2 hJ2 (by omega) (by omega)
end ZLOOP
