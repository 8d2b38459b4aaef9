def zRacP (k j : Nat) : Prop := k = 25 ∨ k = 0 ∧ j = 37
def zRac (S0 : zRS) (w : Nat) (L : List Nat) (S : zRS) : Prop := zRF zRacP S0 S ∧ S.1 38 = nI w ∧ S.1 37 = nI L.length ∧ ∀ i, i < L.length → S.2.1 25 i = nI (L.getD i 0)
theorem zRi_at {S : zRS} {i : Nat} {w : Int32} : (zRi S i w).1 i = w := upd_at _ _ _
theorem zRi_ne {S : zRS} {i j : Nat} {w : Int32} (h : j ≠ i) : (zRi S i w).1 j = S.1 j := upd_ne _ _ h
abbrev zRA (h : zH) (r : Nat) (S0 : zRS) (w : Nat) (L : List Nat) : zH → Prop := fun h1 => ∃ S1, h1 = zRh h r S1 ∧ zRac S0 w L S1
theorem cr_runs {d r w b : Nat} {h : zH} {S0 S : zRS} {L : List Nat} (hr : 2 ≤ r) (hA : zRac S0 w L S) (hL : L.length < 30) : zCallP (d + 1) 280 [.ref r, .int (nI b)] (zRh h r S) (zRN (zRA h r S0 w (L ++ [b]))) := by
  obtain ⟨hF, h38, h37, h25⟩ := hA
  refine zG_mP (t := tX10_runs) (ls0 := [.ref r, .int (nI b)]) rfl rfl (zdnR (zdnI zdn0)) rfl ?_
  refine zG_s rfl rfl ?_
  refine zN_get rfl zRh_o rfl ?_
  rw [h37]
  refine zG_s rfl rfl ?_
  refine zN_ige (y := 30) rfl (by omega) (by omega) (fun c => absurd c (by omega)) (fun c2 => ?_)
  refine zG_s rfl rfl ?_
  refine zN_get rfl zRh_o rfl ?_
  refine zG_s rfl rfl ?_
  refine zN_get rfl zRh_o rfl ?_
  rw [h37]
  refine zG_s rfl rfl ?_
  refine zR_ast (k := 25) (n := 30) rfl rfl (by omega) hr ?_
  refine zG_s rfl rfl ?_
  refine zG_s rfl rfl ?_
  refine zN_get rfl zRh_o rfl ?_
  rw [show (zRa S 25 L.length (nI b)).1 37 = nI L.length from h37]
  refine zG_s rfl rfl ?_
  refine zN_add (y := 1) rfl ?_
  refine zR_put rfl rfl rfl (fun _ => rfl) ?_
  -- leaf 1
  refine zG_ret rfl rfl ⟨rfl, _, rfl, (hF.a (Or.inl rfl)).i (Or.inr ⟨rfl, rfl⟩), ?_, ?_, ?_⟩
  · exact (zRi_ne (by decide)).trans h38
  · rw [List.length_append]; exact zRi_at
  · intro i hi
    rw [List.length_append] at hi
    have hi : i < L.length + 1 := hi
    show (zRa S 25 L.length (nI b)).2.1 25 i = _
    by_cases e : i = L.length
    · subst e; rw [zRa_at, zapp_last]
    · rw [zRa_ne (Or.inr e), zapp_get (by omega)]
      exact h25 i (by omega)
theorem cr_agoes0 {d r w : Nat} {h : zH} {S0 S : zRS} {L : List Nat} {x : Int32} (hr : 2 ≤ r) (hA : zRac S0 w L S) (hL : L.length + 1 ≤ 30) : zCallP (d + 2) 281 [.ref r, .int (nI 0), .int x] (zRh h r S) (zRV (.int (zGoK 0 (nI w) x).1) (zRA h r S0 w (L ++ (zGoK 0 (nI w) x).2))) := by
  refine zG_mP (t := tX10_goesAs) (ls0 := [.ref r, .int (nI 0), .int x]) rfl rfl (zdnR (zdnI (zdnI zdn0))) rfl ?_
  refine zG_s rfl rfl ?_
  refine zG_s rfl rfl ?_
  refine zG_s rfl rfl ?_
  refine zG_s rfl rfl ?_
  refine zG_cQN rfl rfl zRh_o rfl rfl (cr_runs (b := 10) hr hA (by omega)) (fun h1 hB => ?_)
  obtain ⟨S1, rfl, hA1⟩ := hB
  refine zG_s rfl rfl ?_
  refine zG_s rfl rfl ?_
  refine zG_s rfl rfl ?_
  refine zG_s rfl rfl ?_
  refine zN_get rfl zRh_o rfl ?_
  rw [hA1.2.1]
  refine zG_s rfl rfl ?_
  -- leaf 1
  exact zG_ret rfl rfl ⟨rfl, S1, rfl, hA1⟩
theorem cr_agoes1 {d r w : Nat} {h : zH} {S0 S : zRS} {L : List Nat} {x : Int32} (hr : 2 ≤ r) (hA : zRac S0 w L S) (hL : L.length + 2 ≤ 30) : zCallP (d + 3) 281 [.ref r, .int (nI 1), .int x] (zRh h r S) (zRV (.int (zGoK 1 (nI w) x).1) (zRA h r S0 w (L ++ (zGoK 1 (nI w) x).2))) := by
  refine zG_mP (t := tX10_goesAs) (ls0 := [.ref r, .int (nI 1), .int x]) rfl rfl (zdnR (zdnI (zdnI zdn0))) rfl ?_
  refine zG_s rfl rfl ?_
  refine zG_s rfl rfl ?_
  refine zG_s rfl rfl ?_
  refine zG_s rfl rfl ?_
  refine zG_cQN rfl rfl zRh_o rfl rfl (cr_runs (b := 20) hr hA (by omega)) (fun h1 hB => ?_)
  obtain ⟨S1, rfl, hA1⟩ := hB
  refine zG_s rfl rfl ?_
  refine zG_s rfl rfl ?_
  refine zG_s rfl rfl ?_
  refine zG_cQV rfl rfl zRh_o rfl rfl (cr_agoes0 hr hA1 (by rw [List.length_append]; show L.length + 1 + 1 ≤ 30; omega)) (fun h2 hB => ?_)
  obtain ⟨S2, rfl, hA2⟩ := hB
  refine zG_s rfl rfl ?_
  refine zG_s rfl rfl ?_
  -- leaf 1
  rw [List.append_assoc] at hA2
  exact zG_ret rfl rfl ⟨rfl, S2, rfl, hA2⟩
theorem cr_agoes2 {d r w : Nat} {h : zH} {S0 S : zRS} {L : List Nat} {x : Int32} (hr : 2 ≤ r) (hA : zRac S0 w L S) (hL : L.length + 1 ≤ 30) : zCallP (d + 3) 281 [.ref r, .int (nI 2), .int x] (zRh h r S) (zRV (.int (zGoK 2 (nI w) x).1) (zRA h r S0 w (L ++ (zGoK 2 (nI w) x).2))) := by
  refine zG_mP (t := tX10_goesAs) (ls0 := [.ref r, .int (nI 2), .int x]) rfl rfl (zdnR (zdnI (zdnI zdn0))) rfl ?_
  refine zG_s rfl rfl ?_
  refine zG_s rfl rfl ?_
  refine zG_s rfl rfl ?_
  refine zG_s rfl rfl ?_
  refine zG_cS1 rfl rfl (cr_above (k := 2) (by omega)) ?_
  rw [show zAbv 2 = 0 from rfl]
  refine zG_s rfl rfl ?_
  refine zG_cQV rfl rfl zRh_o rfl rfl (cr_agoes0 hr hA (by omega)) (fun h1 hB => ?_)
  obtain ⟨S1, rfl, hA1⟩ := hB
  -- leaf 1
  exact zG_ret rfl rfl ⟨rfl, S1, rfl, hA1⟩
theorem cr_agoes3 {d r w : Nat} {h : zH} {S0 S : zRS} {L : List Nat} {x : Int32} (hr : 2 ≤ r) (hA : zRac S0 w L S) (hL : L.length + 2 ≤ 30) : zCallP (d + 4) 281 [.ref r, .int (nI 3), .int x] (zRh h r S) (zRV (.int (zGoK 3 (nI w) x).1) (zRA h r S0 w (L ++ (zGoK 3 (nI w) x).2))) := by
  refine zG_mP (t := tX10_goesAs) (ls0 := [.ref r, .int (nI 3), .int x]) rfl rfl (zdnR (zdnI (zdnI zdn0))) rfl ?_
  refine zG_s rfl rfl ?_
  refine zG_s rfl rfl ?_
  refine zG_s rfl rfl ?_
  refine zG_s rfl rfl ?_
  refine zG_cS1 rfl rfl (cr_above (k := 3) (by omega)) ?_
  rw [show zAbv 3 = 1 from rfl]
  refine zG_s rfl rfl ?_
  refine zG_cQV rfl rfl zRh_o rfl rfl (cr_agoes1 hr hA (by omega)) (fun h1 hB => ?_)
  obtain ⟨S1, rfl, hA1⟩ := hB
  -- leaf 1
  exact zG_ret rfl rfl ⟨rfl, S1, rfl, hA1⟩
theorem cr_agoes4 {d r w : Nat} {h : zH} {S0 S : zRS} {L : List Nat} {x : Int32} (hr : 2 ≤ r) (hA : zRac S0 w L S) (hL : L.length + 3 ≤ 30) : zCallP (d + 5) 281 [.ref r, .int (nI 4), .int x] (zRh h r S) (zRV (.int (zGoK 4 (nI w) x).1) (zRA h r S0 w (L ++ (zGoK 4 (nI w) x).2))) := by
  refine zG_mP (t := tX10_goesAs) (ls0 := [.ref r, .int (nI 4), .int x]) rfl rfl (zdnR (zdnI (zdnI zdn0))) rfl ?_
  refine zG_s rfl rfl ?_
  refine zG_s rfl rfl ?_
  refine zG_s rfl rfl ?_
  refine zG_s rfl rfl ?_
  refine zG_cQN rfl rfl zRh_o rfl rfl (cr_runs (b := 50) hr hA (by omega)) (fun h1 hB => ?_)
  obtain ⟨S1, rfl, hA1⟩ := hB
  refine zG_s rfl rfl ?_
  refine zG_s rfl rfl ?_
  refine zG_s rfl rfl ?_
  refine zG_cQV rfl rfl zRh_o rfl rfl (cr_agoes3 hr hA1 (by rw [List.length_append]; show L.length + 1 + 2 ≤ 30; omega)) (fun h2 hB => ?_)
  obtain ⟨S2, rfl, hA2⟩ := hB
  refine zG_s rfl rfl ?_
  refine zG_s rfl rfl ?_
  -- leaf 1
  rw [List.append_assoc] at hA2
  exact zG_ret rfl rfl ⟨rfl, S2, rfl, hA2⟩
theorem cr_agoes5 {d r w : Nat} {h : zH} {S0 S : zRS} {L : List Nat} {x : Int32} (hr : 2 ≤ r) (hA : zRac S0 w L S) (hL : L.length + 2 ≤ 30) : zCallP (d + 4) 281 [.ref r, .int (nI 5), .int x] (zRh h r S) (zRV (.int (zGoK 5 (nI w) x).1) (zRA h r S0 w (L ++ (zGoK 5 (nI w) x).2))) := by
  refine zG_mP (t := tX10_goesAs) (ls0 := [.ref r, .int (nI 5), .int x]) rfl rfl (zdnR (zdnI (zdnI zdn0))) rfl ?_
  refine zG_s rfl rfl ?_
  refine zG_s rfl rfl ?_
  refine zG_s rfl rfl ?_
  refine zG_s rfl rfl ?_
  refine zG_cQN rfl rfl zRh_o rfl rfl (cr_runs (b := 60) hr hA (by omega)) (fun h1 hB => ?_)
  obtain ⟨S1, rfl, hA1⟩ := hB
  refine zG_s rfl rfl ?_
  refine zG_s rfl rfl ?_
  refine zG_s rfl rfl ?_
  refine zG_cQV rfl rfl zRh_o rfl rfl (cr_agoes2 hr hA1 (by rw [List.length_append]; show L.length + 1 + 1 ≤ 30; omega)) (fun h2 hB => ?_)
  obtain ⟨S2, rfl, hA2⟩ := hB
  refine zG_s rfl rfl ?_
  refine zG_s rfl rfl ?_
  -- leaf 1
  rw [List.append_assoc] at hA2
  exact zG_ret rfl rfl ⟨rfl, S2, rfl, hA2⟩
theorem cr_agoes {d r w k : Nat} {h : zH} {S0 S : zRS} {L : List Nat} {x : Int32} (hr : 2 ≤ r) (hA : zRac S0 w L S) (hk : k < 6) (hL : L.length + 3 ≤ 30) : zCallP (d + 5) 281 [.ref r, .int (nI k), .int x] (zRh h r S) (zRV (.int (zGoK k (nI w) x).1) (zRA h r S0 w (L ++ (zGoK k (nI w) x).2))) := by
  rcases (show k = 0 ∨ k = 1 ∨ k = 2 ∨ k = 3 ∨ k = 4 ∨ k = 5 by omega) with rfl | rfl | rfl | rfl | rfl | rfl
  · exact cr_agoes0 (d := d + 3) hr hA (by omega)
  · exact cr_agoes1 (d := d + 2) hr hA (by omega)
  · exact cr_agoes2 (d := d + 2) hr hA (by omega)
  · exact cr_agoes3 (d := d + 1) hr hA (by omega)
  · exact cr_agoes4 (d := d + 0) hr hA (by omega)
  · exact cr_agoes5 (d := d + 1) hr hA (by omega)
theorem cr_apays0 {d r w : Nat} {h : zH} {S0 S : zRS} {L : List Nat} {x : Int32} (hr : 2 ≤ r) (hA : zRac S0 w L S) (hw : w < 6) (hL : L.length + 4 ≤ 30) : zCallP (d + 6) 282 [.ref r, .int (nI 0), .int x] (zRh h r S) (zRV (.int (zPaK 0 w x).1) (zRA h r S0 w (L ++ (zPaK 0 w x).2))) := by
  refine zG_mP (t := tX10_paysAs) (ls0 := [.ref r, .int (nI 0), .int x, .null]) rfl rfl (zdnR (zdnI (zdnI zdn0))) rfl ?_
  refine zG_s rfl rfl ?_
  refine zG_s rfl rfl ?_
  refine zG_s rfl rfl ?_
  refine zG_s rfl rfl ?_
  refine zG_cQN rfl rfl zRh_o rfl rfl (cr_runs (b := 11) hr hA (by omega)) (fun h1 hB => ?_)
  obtain ⟨S1, rfl, hA1⟩ := hB
  refine zG_s rfl rfl ?_
  refine zG_s rfl rfl ?_
  refine zN_get rfl zRh_o rfl ?_
  rw [hA1.2.1]
  refine zG_s rfl rfl ?_
  refine zG_cQV rfl rfl zRh_o rfl rfl (cr_agoes hr hA1 hw (by rw [List.length_append]; show L.length + 1 + 3 ≤ 30; omega)) (fun h2 hB => ?_)
  obtain ⟨S2, rfl, hA2⟩ := hB
  refine zG_s rfl rfl ?_
  refine zG_s rfl rfl ?_
  -- leaf 1
  rw [List.append_assoc] at hA2
  exact zG_ret rfl rfl ⟨rfl, S2, rfl, hA2⟩
theorem cr_apays1 {d r w : Nat} {h : zH} {S0 S : zRS} {L : List Nat} {x : Int32} (hr : 2 ≤ r) (hA : zRac S0 w L S) (hw : w < 6) (hL : L.length + 4 ≤ 30) : zCallP (d + 7) 282 [.ref r, .int (nI 1), .int x] (zRh h r S) (zRV (.int (zPaK 1 w x).1) (zRA h r S0 w (L ++ (zPaK 1 w x).2))) := by
  refine zG_mP (t := tX10_paysAs) (ls0 := [.ref r, .int (nI 1), .int x, .null]) rfl rfl (zdnR (zdnI (zdnI zdn0))) rfl ?_
  refine zG_s rfl rfl ?_
  refine zG_s rfl rfl ?_
  refine zG_s rfl rfl ?_
  refine zG_s rfl rfl ?_
  refine zG_cS1 rfl rfl (cr_above (k := 1) (by omega)) ?_
  rw [show zAbv 1 = 0 from rfl]
  refine zG_s rfl rfl ?_
  refine zG_cQV rfl rfl zRh_o rfl rfl (cr_apays0 hr hA hw (by omega)) (fun h1 hB => ?_)
  obtain ⟨S1, rfl, hA1⟩ := hB
  -- leaf 1
  exact zG_ret rfl rfl ⟨rfl, S1, rfl, hA1⟩
theorem cr_apays2 {d r w : Nat} {h : zH} {S0 S : zRS} {L : List Nat} {x : Int32} (hr : 2 ≤ r) (hA : zRac S0 w L S) (hw : w < 6) (hL : L.length + 5 ≤ 30) : zCallP (d + 7) 282 [.ref r, .int (nI 2), .int x] (zRh h r S) (zRV (.int (zPaK 2 w x).1) (zRA h r S0 w (L ++ (zPaK 2 w x).2))) := by
  refine zG_mP (t := tX10_paysAs) (ls0 := [.ref r, .int (nI 2), .int x, .null]) rfl rfl (zdnR (zdnI (zdnI zdn0))) rfl ?_
  refine zG_s rfl rfl ?_
  refine zG_s rfl rfl ?_
  refine zG_s rfl rfl ?_
  refine zG_s rfl rfl ?_
  refine zG_cQN rfl rfl zRh_o rfl rfl (cr_runs (b := 30) hr hA (by omega)) (fun h1 hB => ?_)
  obtain ⟨S1, rfl, hA1⟩ := hB
  refine zG_s rfl rfl ?_
  refine zG_s rfl rfl ?_
  refine zG_s rfl rfl ?_
  refine zG_cQV rfl rfl zRh_o rfl rfl (cr_apays0 hr hA1 hw (by rw [List.length_append]; show L.length + 1 + 4 ≤ 30; omega)) (fun h2 hB => ?_)
  obtain ⟨S2, rfl, hA2⟩ := hB
  refine zG_s rfl rfl ?_
  refine zG_s rfl rfl ?_
  -- leaf 1
  rw [List.append_assoc] at hA2
  exact zG_ret rfl rfl ⟨rfl, S2, rfl, hA2⟩
theorem cr_apays3 {d r w : Nat} {h : zH} {S0 S : zRS} {L : List Nat} {x : Int32} (hr : 2 ≤ r) (hA : zRac S0 w L S) (hw : w < 6) (hL : L.length + 4 ≤ 30) : zCallP (d + 8) 282 [.ref r, .int (nI 3), .int x] (zRh h r S) (zRV (.int (zPaK 3 w x).1) (zRA h r S0 w (L ++ (zPaK 3 w x).2))) := by
  refine zG_mP (t := tX10_paysAs) (ls0 := [.ref r, .int (nI 3), .int x, .null]) rfl rfl (zdnR (zdnI (zdnI zdn0))) rfl ?_
  refine zG_s rfl rfl ?_
  refine zG_s rfl rfl ?_
  refine zG_s rfl rfl ?_
  refine zG_s rfl rfl ?_
  refine zG_cS1 rfl rfl (cr_above (k := 3) (by omega)) ?_
  rw [show zAbv 3 = 1 from rfl]
  refine zG_s rfl rfl ?_
  refine zG_cQV rfl rfl zRh_o rfl rfl (cr_apays1 hr hA hw (by omega)) (fun h1 hB => ?_)
  obtain ⟨S1, rfl, hA1⟩ := hB
  -- leaf 1
  exact zG_ret rfl rfl ⟨rfl, S1, rfl, hA1⟩
theorem cr_apays4 {d r w : Nat} {h : zH} {S0 S : zRS} {L : List Nat} {x : Int32} (hr : 2 ≤ r) (hA : zRac S0 w L S) (hw : w < 6) (hL : L.length + 4 ≤ 30) : zCallP (d + 9) 282 [.ref r, .int (nI 4), .int x] (zRh h r S) (zRV (.int (zPaK 4 w x).1) (zRA h r S0 w (L ++ (zPaK 4 w x).2))) := by
  refine zG_mP (t := tX10_paysAs) (ls0 := [.ref r, .int (nI 4), .int x, .null]) rfl rfl (zdnR (zdnI (zdnI zdn0))) rfl ?_
  refine zG_s rfl rfl ?_
  refine zG_s rfl rfl ?_
  refine zG_s rfl rfl ?_
  refine zG_s rfl rfl ?_
  refine zG_cS1 rfl rfl (cr_above (k := 4) (by omega)) ?_
  rw [show zAbv 4 = 3 from rfl]
  refine zG_s rfl rfl ?_
  refine zG_cQV rfl rfl zRh_o rfl rfl (cr_apays3 hr hA hw (by omega)) (fun h1 hB => ?_)
  obtain ⟨S1, rfl, hA1⟩ := hB
  -- leaf 1
  exact zG_ret rfl rfl ⟨rfl, S1, rfl, hA1⟩
theorem cr_apays5 {d r w : Nat} {h : zH} {S0 S : zRS} {L : List Nat} {x : Int32} (hr : 2 ≤ r) (hA : zRac S0 w L S) (hw : w < 6) (hL : L.length + 9 ≤ 30) : zCallP (d + 8) 282 [.ref r, .int (nI 5), .int x] (zRh h r S) (zRV (.int (zPaK 5 w x).1) (zRA h r S0 w (L ++ (zPaK 5 w x).2))) := by
  refine zG_mP (t := tX10_paysAs) (ls0 := [.ref r, .int (nI 5), .int x, .null]) rfl rfl (zdnR (zdnI (zdnI zdn0))) rfl ?_
  refine zG_s rfl rfl ?_
  refine zG_s rfl rfl ?_
  refine zG_s rfl rfl ?_
  refine zG_s rfl rfl ?_
  refine zG_cQN rfl rfl zRh_o rfl rfl (cr_runs (b := 61) hr hA (by omega)) (fun h1 hB => ?_)
  obtain ⟨S1, rfl, hA1⟩ := hB
  refine zG_s rfl rfl ?_
  refine zG_s rfl rfl ?_
  refine zG_s rfl rfl ?_
  refine zG_cQV rfl rfl zRh_o rfl rfl (cr_apays2 hr hA1 hw (by rw [List.length_append]; show L.length + 1 + 5 ≤ 30; omega)) (fun h2 hB => ?_)
  obtain ⟨S2, rfl, hA2⟩ := hB
  refine zN_st3 rfl (fun _ _ _ => rfl) rfl ?_
  refine zG_s rfl rfl ?_
  refine zG_s rfl rfl ?_
  refine zG_s rfl rfl ?_
  refine zN_get rfl zRh_o rfl ?_
  rw [hA2.2.1]
  refine zG_s rfl rfl ?_
  refine zG_cQV rfl rfl zRh_o rfl rfl (cr_agoes hr hA2 hw (by have := zGoK_len w (nI w) x; simp only [zPaK, zpa2, zpa0, if_true, List.length_append, List.length_cons, List.length_nil]; omega)) (fun h3 hB => ?_)
  obtain ⟨S3, rfl, hA3⟩ := hB
  refine zG_s rfl rfl ?_
  -- leaf 1
  rw [List.append_assoc, List.append_assoc] at hA3
  exact zG_ret rfl rfl ⟨rfl, S3, rfl, hA3⟩
theorem cr_apays {d r w k : Nat} {h : zH} {S0 S : zRS} {L : List Nat} {x : Int32} (hr : 2 ≤ r) (hA : zRac S0 w L S) (hw : w < 6) (hk : k < 6) (hL : L.length + 9 ≤ 30) : zCallP (d + 9) 282 [.ref r, .int (nI k), .int x] (zRh h r S) (zRV (.int (zPaK k w x).1) (zRA h r S0 w (L ++ (zPaK k w x).2))) := by
  rcases (show k = 0 ∨ k = 1 ∨ k = 2 ∨ k = 3 ∨ k = 4 ∨ k = 5 by omega) with rfl | rfl | rfl | rfl | rfl | rfl
  · exact cr_apays0 (d := d + 3) hr hA hw (by omega)
  · exact cr_apays1 (d := d + 2) hr hA hw (by omega)
  · exact cr_apays2 (d := d + 2) hr hA hw (by omega)
  · exact cr_apays3 (d := d + 1) hr hA hw (by omega)
  · exact cr_apays4 (d := d + 0) hr hA hw (by omega)
  · exact cr_apays5 (d := d + 1) hr hA hw (by omega)
theorem cr_atells0 {d r w : Nat} {h : zH} {S0 S : zRS} {L : List Nat} {x : Int32} (hr : 2 ≤ r) (hA : zRac S0 w L S) (hw : w < 6) (hL : L.length + 13 ≤ 30) : zCallP (d + 10) 283 [.ref r, .int (nI 0), .int x] (zRh h r S) (zRV (.int (zTeK 0 w x).1) (zRA h r S0 w (L ++ (zTeK 0 w x).2))) := by
  refine zG_mP (t := tX10_tellsAs) (ls0 := [.ref r, .int (nI 0), .int x, .null]) rfl rfl (zdnR (zdnI (zdnI zdn0))) rfl ?_
  refine zG_s rfl rfl ?_
  refine zG_s rfl rfl ?_
  refine zG_s rfl rfl ?_
  refine zG_s rfl rfl ?_
  refine zG_cQN rfl rfl zRh_o rfl rfl (cr_runs (b := 12) hr hA (by omega)) (fun h1 hB => ?_)
  obtain ⟨S1, rfl, hA1⟩ := hB
  refine zG_s rfl rfl ?_
  refine zG_s rfl rfl ?_
  refine zN_get rfl zRh_o rfl ?_
  rw [hA1.2.1]
  refine zG_s rfl rfl ?_
  refine zG_cQV rfl rfl zRh_o rfl rfl (cr_apays hr hA1 hw hw (by rw [List.length_append]; show L.length + 1 + 9 ≤ 30; omega)) (fun h2 hB => ?_)
  obtain ⟨S2, rfl, hA2⟩ := hB
  refine zN_st3 rfl (fun _ _ _ => rfl) rfl ?_
  refine zG_s rfl rfl ?_
  refine zG_s rfl rfl ?_
  refine zG_s rfl rfl ?_
  refine zN_get rfl zRh_o rfl ?_
  rw [hA2.2.1]
  refine zG_s rfl rfl ?_
  refine zN_get rfl zRh_o rfl ?_
  rw [hA2.2.1]
  refine zG_cQV rfl rfl zRh_o rfl rfl (cr_agoes hr hA2 hw (by have := zPaK_len w w x; simp only [List.length_append, List.length_cons, List.length_nil]; omega)) (fun h3 hB => ?_)
  obtain ⟨S3, rfl, hA3⟩ := hB
  refine zG_s rfl rfl ?_
  -- leaf 1
  rw [List.append_assoc, List.append_assoc] at hA3
  exact zG_ret rfl rfl ⟨rfl, S3, rfl, hA3⟩
theorem cr_atells1 {d r w : Nat} {h : zH} {S0 S : zRS} {L : List Nat} {x : Int32} (hr : 2 ≤ r) (hA : zRac S0 w L S) (hw : w < 6) (hL : L.length + 13 ≤ 30) : zCallP (d + 11) 283 [.ref r, .int (nI 1), .int x] (zRh h r S) (zRV (.int (zTeK 1 w x).1) (zRA h r S0 w (L ++ (zTeK 1 w x).2))) := by
  refine zG_mP (t := tX10_tellsAs) (ls0 := [.ref r, .int (nI 1), .int x, .null]) rfl rfl (zdnR (zdnI (zdnI zdn0))) rfl ?_
  refine zG_s rfl rfl ?_
  refine zG_s rfl rfl ?_
  refine zG_s rfl rfl ?_
  refine zG_s rfl rfl ?_
  refine zG_cS1 rfl rfl (cr_above (k := 1) (by omega)) ?_
  rw [show zAbv 1 = 0 from rfl]
  refine zG_s rfl rfl ?_
  refine zG_cQV rfl rfl zRh_o rfl rfl (cr_atells0 hr hA hw (by omega)) (fun h1 hB => ?_)
  obtain ⟨S1, rfl, hA1⟩ := hB
  -- leaf 1
  exact zG_ret rfl rfl ⟨rfl, S1, rfl, hA1⟩
theorem cr_atells2 {d r w : Nat} {h : zH} {S0 S : zRS} {L : List Nat} {x : Int32} (hr : 2 ≤ r) (hA : zRac S0 w L S) (hw : w < 6) (hL : L.length + 14 ≤ 30) : zCallP (d + 11) 283 [.ref r, .int (nI 2), .int x] (zRh h r S) (zRV (.int (zTeK 2 w x).1) (zRA h r S0 w (L ++ (zTeK 2 w x).2))) := by
  refine zG_mP (t := tX10_tellsAs) (ls0 := [.ref r, .int (nI 2), .int x, .null]) rfl rfl (zdnR (zdnI (zdnI zdn0))) rfl ?_
  refine zG_s rfl rfl ?_
  refine zG_s rfl rfl ?_
  refine zG_s rfl rfl ?_
  refine zG_s rfl rfl ?_
  refine zG_cQN rfl rfl zRh_o rfl rfl (cr_runs (b := 31) hr hA (by omega)) (fun h1 hB => ?_)
  obtain ⟨S1, rfl, hA1⟩ := hB
  refine zG_s rfl rfl ?_
  refine zG_s rfl rfl ?_
  refine zG_s rfl rfl ?_
  refine zG_s rfl rfl ?_
  refine zG_cQV rfl rfl zRh_o rfl rfl (cr_atells0 hr hA1 hw (by rw [List.length_append]; show L.length + 1 + 13 ≤ 30; omega)) (fun h2 hB => ?_)
  obtain ⟨S2, rfl, hA2⟩ := hB
  refine zG_s (st' := [.int (-(zTeK 0 w x).1)]) rfl (by rw [← Int32.zero_sub]; rfl) ?_
  -- leaf 1
  rw [List.append_assoc] at hA2
  exact zG_ret rfl rfl ⟨rfl, S2, rfl, hA2⟩
theorem cr_atells3 {d r w : Nat} {h : zH} {S0 S : zRS} {L : List Nat} {x : Int32} (hr : 2 ≤ r) (hA : zRac S0 w L S) (hw : w < 6) (hL : L.length + 14 ≤ 30) : zCallP (d + 12) 283 [.ref r, .int (nI 3), .int x] (zRh h r S) (zRV (.int (zTeK 3 w x).1) (zRA h r S0 w (L ++ (zTeK 3 w x).2))) := by
  rw [zTeK_3, zte3]
  refine zG_mP (t := tX10_tellsAs) (ls0 := [.ref r, .int (nI 3), .int x, .null]) rfl rfl (zdnR (zdnI (zdnI zdn0))) rfl ?_
  refine zG_s rfl rfl ?_
  refine zG_s rfl rfl ?_
  refine zG_s rfl rfl ?_
  refine zG_s rfl rfl ?_
  refine zG_cQN rfl rfl zRh_o rfl rfl (cr_runs (b := 40) hr hA (by omega)) (fun h1 hB => ?_)
  obtain ⟨S1, rfl, hA1⟩ := hB
  refine zG_s rfl rfl ?_
  refine zG_s rfl rfl ?_
  refine zG_s rfl rfl ?_
  refine zG_s rfl rfl ?_
  refine zG_s rfl rfl ?_
  refine zG_cQV rfl rfl zRh_o rfl rfl (cr_atells1 hr hA1 hw (by rw [List.length_append]; show L.length + 1 + 13 ≤ 30; omega)) (fun h2 hB => ?_)
  obtain ⟨S2, rfl, hA2⟩ := hB
  rw [zTeK_1]
  -- leaf 1
  rw [List.append_assoc, zTeK_1] at hA2
  exact zG_ret rfl rfl ⟨rfl, S2, rfl, hA2⟩
theorem cr_atells4 {d r w : Nat} {h : zH} {S0 S : zRS} {L : List Nat} {x : Int32} (hr : 2 ≤ r) (hA : zRac S0 w L S) (hw : w < 6) (hL : L.length + 24 ≤ 30) : zCallP (d + 13) 283 [.ref r, .int (nI 4), .int x] (zRh h r S) (zRV (.int (zTeK 4 w x).1) (zRA h r S0 w (L ++ (zTeK 4 w x).2))) := by
  rw [zTeK_4, zte4]
  refine zG_mP (t := tX10_tellsAs) (ls0 := [.ref r, .int (nI 4), .int x, .null]) rfl rfl (zdnR (zdnI (zdnI zdn0))) rfl ?_
  refine zG_s rfl rfl ?_
  refine zG_s rfl rfl ?_
  refine zG_s rfl rfl ?_
  refine zG_s rfl rfl ?_
  refine zG_cQN rfl rfl zRh_o rfl rfl (cr_runs (b := 51) hr hA (by omega)) (fun h1 hB => ?_)
  obtain ⟨S1, rfl, hA1⟩ := hB
  refine zG_s rfl rfl ?_
  refine zG_s rfl rfl ?_
  refine zG_s rfl rfl ?_
  refine zG_cQV rfl rfl zRh_o rfl rfl (cr_atells3 hr hA1 hw (by rw [List.length_append]; show L.length + 1 + 14 ≤ 30; omega)) (fun h2 hB => ?_)
  obtain ⟨S2, rfl, hA2⟩ := hB
  rw [zTeK_3] at hA2 ⊢
  refine zN_st3 rfl (fun _ _ _ => rfl) rfl ?_
  refine zG_s rfl rfl ?_
  refine zG_s rfl rfl ?_
  refine zG_s rfl rfl ?_
  refine zN_get rfl zRh_o rfl ?_
  rw [hA2.2.1]
  refine zG_s rfl rfl ?_
  refine zG_cQV rfl rfl zRh_o rfl rfl (cr_apays hr hA2 hw hw (by have h1 := zPaK_len w w (x + nI 1); have h2 := zGoK_len w (nI w) (nI w); simp only [zte3, zte0, List.length_append, List.length_cons, List.length_nil]; omega)) (fun h3 hB => ?_)
  obtain ⟨S3, rfl, hA3⟩ := hB
  refine zG_s rfl rfl ?_
  -- leaf 1
  rw [List.append_assoc, List.append_assoc] at hA3
  exact zG_ret rfl rfl ⟨rfl, S3, rfl, hA3⟩
theorem cr_atells5 {d r w : Nat} {h : zH} {S0 S : zRS} {L : List Nat} {x : Int32} (hr : 2 ≤ r) (hA : zRac S0 w L S) (hw : w < 6) (hL : L.length + 14 ≤ 30) : zCallP (d + 12) 283 [.ref r, .int (nI 5), .int x] (zRh h r S) (zRV (.int (zTeK 5 w x).1) (zRA h r S0 w (L ++ (zTeK 5 w x).2))) := by
  refine zG_mP (t := tX10_tellsAs) (ls0 := [.ref r, .int (nI 5), .int x, .null]) rfl rfl (zdnR (zdnI (zdnI zdn0))) rfl ?_
  refine zG_s rfl rfl ?_
  refine zG_s rfl rfl ?_
  refine zG_s rfl rfl ?_
  refine zG_s rfl rfl ?_
  refine zG_cS1 rfl rfl (cr_above (k := 5) (by omega)) ?_
  rw [show zAbv 5 = 2 from rfl]
  refine zG_s rfl rfl ?_
  refine zG_cQV rfl rfl zRh_o rfl rfl (cr_atells2 hr hA hw (by omega)) (fun h1 hB => ?_)
  obtain ⟨S1, rfl, hA1⟩ := hB
  -- leaf 1
  exact zG_ret rfl rfl ⟨rfl, S1, rfl, hA1⟩
theorem cr_atells {d r w k : Nat} {h : zH} {S0 S : zRS} {L : List Nat} {x : Int32} (hr : 2 ≤ r) (hA : zRac S0 w L S) (hw : w < 6) (hk : k < 6) (hL : L.length + 24 ≤ 30) : zCallP (d + 13) 283 [.ref r, .int (nI k), .int x] (zRh h r S) (zRV (.int (zTeK k w x).1) (zRA h r S0 w (L ++ (zTeK k w x).2))) := by
  rcases (show k = 0 ∨ k = 1 ∨ k = 2 ∨ k = 3 ∨ k = 4 ∨ k = 5 by omega) with rfl | rfl | rfl | rfl | rfl | rfl
  · exact cr_atells0 (d := d + 3) hr hA hw (by omega)
  · exact cr_atells1 (d := d + 2) hr hA hw (by omega)
  · exact cr_atells2 (d := d + 2) hr hA hw (by omega)
  · exact cr_atells3 (d := d + 1) hr hA hw (by omega)
  · exact cr_atells4 (d := d + 0) hr hA hw (by omega)
  · exact cr_atells5 (d := d + 1) hr hA hw (by omega)
theorem zRI.u_tr {P : Nat → Nat → Prop} {S S1 : zRS} {s : zST} {L : List Nat} (hX : zr_tr S1 L) (hI : zRI S s) (hW : zWT s) (hF : zRF P S S1) (hP : ∀ k j, P k j → zScr k j ∨ zRacP k j) : zRI S1 (zsTr s L) :=
  ⟨hI.sp.fr (fun i hi => (hW.1 i hi).1) hF (fun k j g h => by have := hP k j h; unfold zScr zRacP at this; omega), hI.kp.fr hF (fun k j g h => by have := hP k j h; unfold zScr zRacP at this; omega), hI.z.fr hF (fun j g1 g2 h => by have := hP 0 j h; unfold zScr zRacP at this; omega), hI.tp.fr hF (fun h => by have := hP 0 27 h; unfold zScr zRacP at this; omega) (fun j h => by have := hP 17 j h; unfold zScr zRacP at this; omega), hI.sh.fr hF (fun k j g1 g2 h => by have := hP k j h; unfold zScr zRacP at this; omega), hI.hv.fr hF (fun k j g1 g2 h => by have := hP k j h; unfold zScr zRacP at this; omega), hX⟩
theorem zr_tr0 {S : zRS} : zr_tr (zRi S 37 (nI 0)) [] := ⟨zRi_at, fun i hi => absurd hi (Nat.not_lt_zero i)⟩
theorem zRI.tr0 {S : zRS} {s : zST} (hI : zRI S s) (hW : zWT s) : zRI (zRi S 37 (nI 0)) (zsTr s []) := zRI.u_tr (P := zRacP) zr_tr0 hI hW (zRF.rf.i (Or.inr ⟨rfl, rfl⟩)) (fun k j g => Or.inr g)
theorem cr_act0 {d r : Nat} {h : zH} {S : zRS} {s : zST} {a c : Int32} (hr : 2 ≤ r) (hI : zRI S s) (hW : zWT s) : zCallP (d + 14) 284 [.ref r, .int a, .int (nI 0), .int c] (zRh h r S) (zROut h r (zo_act s a (nI 0) c)) := by
  refine zG_mP (t := tX10_act) (ls0 := [.ref r, .int a, .int (nI 0), .int c]) rfl rfl (zdnR (zdnI (zdnI (zdnI zdn0)))) rfl ?_
  refine zG_s rfl rfl ?_
  refine zG_s rfl rfl ?_
  refine zR_put rfl rfl rfl (fun _ => rfl) ?_
  have hI0 := hI.tr0 hW
  have hW0 : zWT (zsTr s []) := hW.tr (Nat.zero_le 30)
  refine zG_s rfl rfl ?_
  refine zG_cS1 rfl rfl cr_isSheet ?_
  refine zN_ifb rfl (fun c1 => ?_) (fun c2 => ?_)
  · skip
    refine zG_s rfl rfl ?_
    -- leaf 1
    exact zG_ret rfl rfl (zRfin (by rw [zo_act, zn_no c1]; rfl) hI0)
  · skip
    obtain ⟨i, hi, rfl⟩ := zin_of c2 (by decide)
    have hc := hW.2.2.2.2.1 i hi
    refine zG_s rfl rfl ?_
    refine zG_s rfl rfl ?_
    refine zG_s rfl rfl ?_
    refine zG_cS1 rfl rfl cr_inc ?_
    refine zN_ifb rfl (fun q => by rw [zin_n (by decide) (by decide)] at q; cases q) (fun c4 => ?_)
    refine zG_s rfl rfl ?_
    refine zN_get rfl zRh_o rfl ?_
    refine zG_s rfl rfl ?_
    refine zR_ald (k := 22) (n := 4) rfl rfl (by omega) (zhv_22 hI0 hW0 hi) ?_
    refine zG_s rfl rfl ?_
    refine zN_ieq (x := zhvc (s.2.2.2.2.2.1 i).1) (y := 1) rfl (by have := @zhvc_l (s.2.2.2.2.2.1 i).1; omega) (by omega) (fun c5 => ?_) (fun c6 => ?_)
    · skip
      refine zG_s rfl rfl ?_
      refine zG_s rfl rfl ?_
      refine zN_get rfl zRh_o rfl ?_
      refine zG_s rfl rfl ?_
      refine zR_ald (k := 23) (n := 4) rfl rfl (by omega) (zhv_23 hI0 hW0 hi (show (s.2.2.2.2.2.1 i).1 ≠ 0 by have := zhvc_1.mp c5; omega)) ?_
      have hc16 := zhvc_1.mp c5
      rw [show zwhc ((zsTr s []).2.2.2.2.2.1 i).1 = (s.2.2.2.2.2.1 i).1 - 1 from if_pos hc16.2]
      refine zR_put rfl rfl rfl (fun _ => rfl) ?_
      have hA : zRac (zRi (zRi S 37 (nI 0)) 38 (nI ((s.2.2.2.2.2.1 i).1 - 1))) ((s.2.2.2.2.2.1 i).1 - 1) [] (zRi (zRi S 37 (nI 0)) 38 (nI ((s.2.2.2.2.2.1 i).1 - 1))) := ⟨zRF.rf, zRi_at, (zRi_ne (by decide)).trans zRi_at, fun j hj => absurd hj (Nat.not_lt_zero j)⟩
      have hrs : zo_act s (nI i) (nI 0) c = ((zAct ((s.2.2.2.2.2.1 i).1 - 1) (nI 0) c).1, zsTr s (zAct ((s.2.2.2.2.2.1 i).1 - 1) (nI 0) c).2) := by
        rw [zo_act, zn_i hi (by omega)]
        show (if 1 ≤ (s.2.2.2.2.2.1 i).1 ∧ (s.2.2.2.2.2.1 i).1 ≤ 6 then _ else _) = _
        rw [if_pos hc16]
      refine zG_s rfl rfl ?_
      refine zN_ne0 (x := 0) rfl (by omega) (fun q => absurd q (by decide)) (fun c8 => ?_)
      refine zG_s rfl rfl ?_
      refine zG_s rfl rfl ?_
      refine zN_get rfl zRh_o rfl ?_
      rw [hA.2.1]
      refine zG_s rfl rfl ?_
      refine zG_cQV rfl rfl zRh_o rfl rfl (cr_agoes hr hA (by omega) (by decide)) (fun h1 hB => ?_)
      obtain ⟨S1, rfl, hA1⟩ := hB
      refine zG_s rfl rfl ?_
      -- leaf 2
      exact zG_ret rfl rfl (zRfin (hrs.trans (by rw [zAct, zn_i (show 0 < 3 by decide) (by decide)]; rfl)) (zRI.u_tr (P := fun k j => zRacP k j ∨ (k = 0 ∧ j = 38)) (L := (zGoK ((s.2.2.2.2.2.1 i).1 - 1) (nI ((s.2.2.2.2.2.1 i).1 - 1)) c).2) ⟨hA1.2.2.1, hA1.2.2.2⟩ hI hW (((zRF.rf.i (Or.inl (Or.inr ⟨rfl, rfl⟩))).i (Or.inr ⟨rfl, rfl⟩)).tr (hA1.1.mono (fun k j g => Or.inl g))) (fun k j g => by unfold zScr; unfold zRacP at *; omega)))
    · skip
      refine zG_s rfl rfl ?_
      -- leaf 3
      exact zG_ret rfl rfl (zRfin (by rw [zo_act, zn_i hi (by omega)]; show (if 1 ≤ (s.2.2.2.2.2.1 i).1 ∧ (s.2.2.2.2.2.1 i).1 ≤ 6 then _ else _) = _; rw [if_neg (fun g => c6 (zhvc_1.mpr g))]; rfl) hI0)
theorem cr_act1 {d r : Nat} {h : zH} {S : zRS} {s : zST} {a c : Int32} (hr : 2 ≤ r) (hI : zRI S s) (hW : zWT s) : zCallP (d + 14) 284 [.ref r, .int a, .int (nI 1), .int c] (zRh h r S) (zROut h r (zo_act s a (nI 1) c)) := by
  refine zG_mP (t := tX10_act) (ls0 := [.ref r, .int a, .int (nI 1), .int c]) rfl rfl (zdnR (zdnI (zdnI (zdnI zdn0)))) rfl ?_
  refine zG_s rfl rfl ?_
  refine zG_s rfl rfl ?_
  refine zR_put rfl rfl rfl (fun _ => rfl) ?_
  have hI0 := hI.tr0 hW
  have hW0 : zWT (zsTr s []) := hW.tr (Nat.zero_le 30)
  refine zG_s rfl rfl ?_
  refine zG_cS1 rfl rfl cr_isSheet ?_
  refine zN_ifb rfl (fun c1 => ?_) (fun c2 => ?_)
  · skip
    refine zG_s rfl rfl ?_
    -- leaf 1
    exact zG_ret rfl rfl (zRfin (by rw [zo_act, zn_no c1]; rfl) hI0)
  · skip
    obtain ⟨i, hi, rfl⟩ := zin_of c2 (by decide)
    have hc := hW.2.2.2.2.1 i hi
    refine zG_s rfl rfl ?_
    refine zG_s rfl rfl ?_
    refine zG_s rfl rfl ?_
    refine zG_cS1 rfl rfl cr_inc ?_
    refine zN_ifb rfl (fun q => by rw [zin_n (by decide) (by decide)] at q; cases q) (fun c4 => ?_)
    refine zG_s rfl rfl ?_
    refine zN_get rfl zRh_o rfl ?_
    refine zG_s rfl rfl ?_
    refine zR_ald (k := 22) (n := 4) rfl rfl (by omega) (zhv_22 hI0 hW0 hi) ?_
    refine zG_s rfl rfl ?_
    refine zN_ieq (x := zhvc (s.2.2.2.2.2.1 i).1) (y := 1) rfl (by have := @zhvc_l (s.2.2.2.2.2.1 i).1; omega) (by omega) (fun c5 => ?_) (fun c6 => ?_)
    · skip
      refine zG_s rfl rfl ?_
      refine zG_s rfl rfl ?_
      refine zN_get rfl zRh_o rfl ?_
      refine zG_s rfl rfl ?_
      refine zR_ald (k := 23) (n := 4) rfl rfl (by omega) (zhv_23 hI0 hW0 hi (show (s.2.2.2.2.2.1 i).1 ≠ 0 by have := zhvc_1.mp c5; omega)) ?_
      have hc16 := zhvc_1.mp c5
      rw [show zwhc ((zsTr s []).2.2.2.2.2.1 i).1 = (s.2.2.2.2.2.1 i).1 - 1 from if_pos hc16.2]
      refine zR_put rfl rfl rfl (fun _ => rfl) ?_
      have hA : zRac (zRi (zRi S 37 (nI 0)) 38 (nI ((s.2.2.2.2.2.1 i).1 - 1))) ((s.2.2.2.2.2.1 i).1 - 1) [] (zRi (zRi S 37 (nI 0)) 38 (nI ((s.2.2.2.2.2.1 i).1 - 1))) := ⟨zRF.rf, zRi_at, (zRi_ne (by decide)).trans zRi_at, fun j hj => absurd hj (Nat.not_lt_zero j)⟩
      have hrs : zo_act s (nI i) (nI 1) c = ((zAct ((s.2.2.2.2.2.1 i).1 - 1) (nI 1) c).1, zsTr s (zAct ((s.2.2.2.2.2.1 i).1 - 1) (nI 1) c).2) := by
        rw [zo_act, zn_i hi (by omega)]
        show (if 1 ≤ (s.2.2.2.2.2.1 i).1 ∧ (s.2.2.2.2.2.1 i).1 ≤ 6 then _ else _) = _
        rw [if_pos hc16]
      refine zG_s rfl rfl ?_
      refine zN_ne0 (x := 1) rfl (by omega) (fun c7 => ?_) (fun q => absurd q (by decide))
      refine zG_s rfl rfl ?_
      refine zG_s rfl rfl ?_
      refine zN_ine (x := 1) (y := 1) rfl (by omega) (by omega) (fun q => absurd rfl q) (fun c10 => ?_)
      refine zG_s rfl rfl ?_
      refine zG_s rfl rfl ?_
      refine zN_get rfl zRh_o rfl ?_
      rw [hA.2.1]
      refine zG_s rfl rfl ?_
      refine zG_cQV rfl rfl zRh_o rfl rfl (cr_apays hr hA (by omega) (by omega) (by decide)) (fun h1 hB => ?_)
      obtain ⟨S1, rfl, hA1⟩ := hB
      refine zG_s rfl rfl ?_
      -- leaf 2
      exact zG_ret rfl rfl (zRfin (hrs.trans (by rw [zAct, zn_i (show 1 < 3 by decide) (by decide)]; rfl)) (zRI.u_tr (P := fun k j => zRacP k j ∨ (k = 0 ∧ j = 38)) (L := (zPaK ((s.2.2.2.2.2.1 i).1 - 1) ((s.2.2.2.2.2.1 i).1 - 1) c).2) ⟨hA1.2.2.1, hA1.2.2.2⟩ hI hW (((zRF.rf.i (Or.inl (Or.inr ⟨rfl, rfl⟩))).i (Or.inr ⟨rfl, rfl⟩)).tr (hA1.1.mono (fun k j g => Or.inl g))) (fun k j g => by unfold zScr; unfold zRacP at *; omega)))
    · skip
      refine zG_s rfl rfl ?_
      -- leaf 3
      exact zG_ret rfl rfl (zRfin (by rw [zo_act, zn_i hi (by omega)]; show (if 1 ≤ (s.2.2.2.2.2.1 i).1 ∧ (s.2.2.2.2.2.1 i).1 ≤ 6 then _ else _) = _; rw [if_neg (fun g => c6 (zhvc_1.mpr g))]; rfl) hI0)
theorem cr_act2 {d r : Nat} {h : zH} {S : zRS} {s : zST} {a c : Int32} (hr : 2 ≤ r) (hI : zRI S s) (hW : zWT s) : zCallP (d + 14) 284 [.ref r, .int a, .int (nI 2), .int c] (zRh h r S) (zROut h r (zo_act s a (nI 2) c)) := by
  refine zG_mP (t := tX10_act) (ls0 := [.ref r, .int a, .int (nI 2), .int c]) rfl rfl (zdnR (zdnI (zdnI (zdnI zdn0)))) rfl ?_
  refine zG_s rfl rfl ?_
  refine zG_s rfl rfl ?_
  refine zR_put rfl rfl rfl (fun _ => rfl) ?_
  have hI0 := hI.tr0 hW
  have hW0 : zWT (zsTr s []) := hW.tr (Nat.zero_le 30)
  refine zG_s rfl rfl ?_
  refine zG_cS1 rfl rfl cr_isSheet ?_
  refine zN_ifb rfl (fun c1 => ?_) (fun c2 => ?_)
  · skip
    refine zG_s rfl rfl ?_
    -- leaf 1
    exact zG_ret rfl rfl (zRfin (by rw [zo_act, zn_no c1]; rfl) hI0)
  · skip
    obtain ⟨i, hi, rfl⟩ := zin_of c2 (by decide)
    have hc := hW.2.2.2.2.1 i hi
    refine zG_s rfl rfl ?_
    refine zG_s rfl rfl ?_
    refine zG_s rfl rfl ?_
    refine zG_cS1 rfl rfl cr_inc ?_
    refine zN_ifb rfl (fun q => by rw [zin_n (by decide) (by decide)] at q; cases q) (fun c4 => ?_)
    refine zG_s rfl rfl ?_
    refine zN_get rfl zRh_o rfl ?_
    refine zG_s rfl rfl ?_
    refine zR_ald (k := 22) (n := 4) rfl rfl (by omega) (zhv_22 hI0 hW0 hi) ?_
    refine zG_s rfl rfl ?_
    refine zN_ieq (x := zhvc (s.2.2.2.2.2.1 i).1) (y := 1) rfl (by have := @zhvc_l (s.2.2.2.2.2.1 i).1; omega) (by omega) (fun c5 => ?_) (fun c6 => ?_)
    · skip
      refine zG_s rfl rfl ?_
      refine zG_s rfl rfl ?_
      refine zN_get rfl zRh_o rfl ?_
      refine zG_s rfl rfl ?_
      refine zR_ald (k := 23) (n := 4) rfl rfl (by omega) (zhv_23 hI0 hW0 hi (show (s.2.2.2.2.2.1 i).1 ≠ 0 by have := zhvc_1.mp c5; omega)) ?_
      have hc16 := zhvc_1.mp c5
      rw [show zwhc ((zsTr s []).2.2.2.2.2.1 i).1 = (s.2.2.2.2.2.1 i).1 - 1 from if_pos hc16.2]
      refine zR_put rfl rfl rfl (fun _ => rfl) ?_
      have hA : zRac (zRi (zRi S 37 (nI 0)) 38 (nI ((s.2.2.2.2.2.1 i).1 - 1))) ((s.2.2.2.2.2.1 i).1 - 1) [] (zRi (zRi S 37 (nI 0)) 38 (nI ((s.2.2.2.2.2.1 i).1 - 1))) := ⟨zRF.rf, zRi_at, (zRi_ne (by decide)).trans zRi_at, fun j hj => absurd hj (Nat.not_lt_zero j)⟩
      have hrs : zo_act s (nI i) (nI 2) c = ((zAct ((s.2.2.2.2.2.1 i).1 - 1) (nI 2) c).1, zsTr s (zAct ((s.2.2.2.2.2.1 i).1 - 1) (nI 2) c).2) := by
        rw [zo_act, zn_i hi (by omega)]
        show (if 1 ≤ (s.2.2.2.2.2.1 i).1 ∧ (s.2.2.2.2.2.1 i).1 ≤ 6 then _ else _) = _
        rw [if_pos hc16]
      refine zG_s rfl rfl ?_
      refine zN_ne0 (x := 2) rfl (by omega) (fun c7 => ?_) (fun q => absurd q (by decide))
      refine zG_s rfl rfl ?_
      refine zG_s rfl rfl ?_
      refine zN_ine (x := 2) (y := 1) rfl (by omega) (by omega) (fun c9 => ?_) (fun q => absurd q (by decide))
      refine zG_s rfl rfl ?_
      refine zG_s rfl rfl ?_
      refine zN_get rfl zRh_o rfl ?_
      rw [hA.2.1]
      refine zG_s rfl rfl ?_
      refine zG_cQV rfl rfl zRh_o rfl rfl (cr_atells hr hA (by omega) (by omega) (by decide)) (fun h1 hB => ?_)
      obtain ⟨S1, rfl, hA1⟩ := hB
      -- leaf 2
      exact zG_ret rfl rfl (zRfin (hrs.trans (by rw [zAct, zn_i (show 2 < 3 by decide) (by decide)]; rfl)) (zRI.u_tr (P := fun k j => zRacP k j ∨ (k = 0 ∧ j = 38)) (L := (zTeK ((s.2.2.2.2.2.1 i).1 - 1) ((s.2.2.2.2.2.1 i).1 - 1) c).2) ⟨hA1.2.2.1, hA1.2.2.2⟩ hI hW (((zRF.rf.i (Or.inl (Or.inr ⟨rfl, rfl⟩))).i (Or.inr ⟨rfl, rfl⟩)).tr (hA1.1.mono (fun k j g => Or.inl g))) (fun k j g => by unfold zScr; unfold zRacP at *; omega)))
    · skip
      refine zG_s rfl rfl ?_
      -- leaf 3
      exact zG_ret rfl rfl (zRfin (by rw [zo_act, zn_i hi (by omega)]; show (if 1 ≤ (s.2.2.2.2.2.1 i).1 ∧ (s.2.2.2.2.2.1 i).1 ≤ 6 then _ else _) = _; rw [if_neg (fun g => c6 (zhvc_1.mpr g))]; rfl) hI0)
theorem cr_actX {d r : Nat} {h : zH} {S : zRS} {s : zST} {a b c : Int32} (hr : 2 ≤ r) (hI : zRI S s) (hW : zWT s) (hb : zin b 3 = false) : zCallP (d + 14) 284 [.ref r, .int a, .int b, .int c] (zRh h r S) (zROut h r (zo_act s a b c)) := by
  refine zG_mP (t := tX10_act) (ls0 := [.ref r, .int a, .int b, .int c]) rfl rfl (zdnR (zdnI (zdnI (zdnI zdn0)))) rfl ?_
  refine zG_s rfl rfl ?_
  refine zG_s rfl rfl ?_
  refine zR_put rfl rfl rfl (fun _ => rfl) ?_
  have hI0 := hI.tr0 hW
  have hW0 : zWT (zsTr s []) := hW.tr (Nat.zero_le 30)
  refine zG_s rfl rfl ?_
  refine zG_cS1 rfl rfl cr_isSheet ?_
  refine zN_ifb rfl (fun c1 => ?_) (fun c2 => ?_)
  · skip
    refine zG_s rfl rfl ?_
    -- leaf 1
    exact zG_ret rfl rfl (zRfin (by rw [zo_act, zn_no c1]; rfl) hI0)
  · skip
    obtain ⟨i, hi, rfl⟩ := zin_of c2 (by decide)
    have hc := hW.2.2.2.2.1 i hi
    refine zG_s rfl rfl ?_
    refine zG_s rfl rfl ?_
    refine zG_s rfl rfl ?_
    refine zG_cS1 rfl rfl cr_inc ?_
    refine zN_ifb rfl (fun c3 => ?_) (fun q => by rw [hb] at q; cases q)
    refine zG_s rfl rfl ?_
    -- leaf 2
    exact zG_ret rfl rfl (zRfin (by
      rw [zo_act, zn_i hi (by omega)]
      show (if 1 ≤ (s.2.2.2.2.2.1 i).1 ∧ (s.2.2.2.2.2.1 i).1 ≤ 6 then _ else _) = _
      have e2 : zAct ((s.2.2.2.2.2.1 i).1 - 1) b c = (nI 0, []) := by rw [zAct, zn_no hb]
      rw [e2]
      split <;> rfl) hI0)
theorem cr_act {d r : Nat} {h : zH} {S : zRS} {s : zST} {a b c : Int32} (hr : 2 ≤ r) (hI : zRI S s) (hW : zWT s) : zCallP (d + 14) 284 [.ref r, .int a, .int b, .int c] (zRh h r S) (zROut h r (zo_act s a b c)) := by
  rcases zcs3 b with rfl | rfl | rfl | e
  · exact cr_act0 hr hI hW
  · exact cr_act1 hr hI hW
  · exact cr_act2 hr hI hW
  · exact cr_actX hr hI hW e
