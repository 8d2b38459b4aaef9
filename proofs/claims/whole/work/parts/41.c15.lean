theorem ct_begin {d : Nat} {h0 h : zH} {o b : Nat} {w : Int32} {L : List Nat} (ho2 : 2 ≤ o) (hA : zAc h0 o w L h) (hL : L.length < 30) : zCallP (d + 1) 4 [.ref o, .int (nI b)] h (zRN (zAc h0 o w (L ++ [b]))) := by
  obtain ⟨hF, hA1, tr, hA2, hA3⟩ := hA
  have e1 : (zset h (o + 1) (.inl (0, 30, .inl (upd tr L.length (nI b))))).2.2 o = .inr (0, [.ref (o + 1), .int (nI L.length), .int w]) := by rw [zset_ne _ _ (by omega)]; exact hA1
  refine zG_mP (t := tX0_begin) (ls0 := [.ref o, .int (nI b)]) rfl rfl (zdnR (zdnI zdn0)) rfl ?_
  refine zG_s rfl rfl ?_
  refine zN_get rfl hA1 rfl ?_
  refine zG_s rfl rfl ?_
  refine zN_ige (y := 30) rfl (by omega) (by omega) (fun c => absurd c (by omega)) (fun c2 => ?_)
  refine zG_s rfl rfl ?_
  refine zN_get rfl hA1 rfl ?_
  refine zG_s rfl rfl ?_
  refine zN_get rfl hA1 rfl ?_
  refine zG_s rfl rfl ?_
  refine zN_ast rfl hA2 (by omega) (by omega) (zble_of ho2) ?_
  refine zG_s rfl rfl ?_
  refine zG_s rfl rfl ?_
  refine zN_get rfl e1 rfl ?_
  refine zG_s rfl rfl ?_
  refine zN_add (y := 1) rfl ?_
  refine zN_put (fs' := [.ref (o + 1), .int (nI (L.length + 1)), .int w]) rfl e1 rfl rfl rfl ?_
  -- leaf 1
  refine zG_ret rfl rfl ⟨rfl, (hF.set ⟨by omega, by omega⟩).set ⟨by omega, by omega⟩, ?_, upd tr L.length (nI b), ?_, ?_⟩
  · rw [zset_eq, List.length_append]; rfl
  · rw [zset_ne _ _ (by omega), zset_eq]
  · intro i hi
    rw [List.length_append] at hi
    have hi : i < L.length + 1 := hi
    by_cases e : i = L.length
    · subst e; rw [upd_at, zapp_last]
    · rw [upd_ne _ _ e, zapp_get (by omega)]
      exact hA3 i (by omega)
theorem ct_goes0 {d : Nat} {h0 h : zH} {o w : Nat} {L : List Nat} {x : Int32} (ho2 : 2 ≤ o) (hA : zAc h0 o (nI w) L h) (hL : L.length + 1 ≤ 30) : zCallP (d + 2) 5 [.ref o, .int (nI 0), .int x] h (zRV (.int (zGoK 0 (nI w) x).1) (zAc h0 o (nI w) (L ++ (zGoK 0 (nI w) x).2))) := by
  refine zG_mP (t := tX0_goes) (ls0 := [.ref o, .int (nI 0), .int x]) rfl rfl (zdnR (zdnI (zdnI zdn0))) rfl ?_
  refine zG_s rfl rfl ?_
  refine zG_s rfl rfl ?_
  refine zG_s rfl rfl ?_
  refine zG_s rfl rfl ?_
  refine zG_cQN rfl rfl hA.2.1 rfl rfl (ct_begin (b := 10) ho2 hA (by omega)) (fun h1 hB => ?_)
  refine zG_s rfl rfl ?_
  refine zG_s rfl rfl ?_
  refine zG_s rfl rfl ?_
  refine zG_s rfl rfl ?_
  refine zN_get rfl hB.2.1 rfl ?_
  refine zG_s rfl rfl ?_
  -- leaf 1
  exact zG_ret rfl rfl ⟨rfl, hB⟩
theorem ct_goes2 {d : Nat} {h0 h : zH} {o w : Nat} {L : List Nat} {x : Int32} (ho2 : 2 ≤ o) (hA : zAc h0 o (nI w) L h) (hL : L.length + 1 ≤ 30) : zCallP (d + 2) 5 [.ref o, .int (nI 2), .int x] h (zRV (.int (zGoK 2 (nI w) x).1) (zAc h0 o (nI w) (L ++ (zGoK 2 (nI w) x).2))) := by
  refine zG_mP (t := tX0_goes) (ls0 := [.ref o, .int (nI 2), .int x]) rfl rfl (zdnR (zdnI (zdnI zdn0))) rfl ?_
  refine zG_s rfl rfl ?_
  refine zG_s rfl rfl ?_
  refine zG_s rfl rfl ?_
  refine zG_s rfl rfl ?_
  refine zG_cQN rfl rfl hA.2.1 rfl rfl (ct_begin (b := 10) ho2 hA (by omega)) (fun h1 hB => ?_)
  refine zG_s rfl rfl ?_
  refine zG_s rfl rfl ?_
  refine zG_s rfl rfl ?_
  refine zG_s rfl rfl ?_
  refine zN_get rfl hB.2.1 rfl ?_
  refine zG_s rfl rfl ?_
  -- leaf 1
  exact zG_ret rfl rfl ⟨rfl, hB⟩
theorem ct_goes1 {d : Nat} {h0 h : zH} {o w : Nat} {L : List Nat} {x : Int32} (ho2 : 2 ≤ o) (hA : zAc h0 o (nI w) L h) (hL : L.length + 2 ≤ 30) : zCallP (d + 3) 5 [.ref o, .int (nI 1), .int x] h (zRV (.int (zGoK 1 (nI w) x).1) (zAc h0 o (nI w) (L ++ (zGoK 1 (nI w) x).2))) := by
  refine zG_mP (t := tX0_goes) (ls0 := [.ref o, .int (nI 1), .int x]) rfl rfl (zdnR (zdnI (zdnI zdn0))) rfl ?_
  refine zG_s rfl rfl ?_
  refine zG_s rfl rfl ?_
  refine zG_s rfl rfl ?_
  refine zG_s rfl rfl ?_
  refine zG_cQN rfl rfl hA.2.1 rfl rfl (ct_begin (b := 20) ho2 hA (by omega)) (fun h1 hB => ?_)
  refine zG_s rfl rfl ?_
  refine zG_s rfl rfl ?_
  refine zG_s rfl rfl ?_
  refine zG_cqV rfl rfl (ct_goes0 ho2 hB (by rw [List.length_append]; show L.length + 1 + 1 ≤ 30; omega)) (fun h2 hB2 => ?_)
  refine zG_s rfl rfl ?_
  refine zG_s rfl rfl ?_
  -- leaf 1
  rw [List.append_assoc] at hB2
  exact zG_ret rfl rfl ⟨rfl, hB2⟩
theorem ct_goes3 {d : Nat} {h0 h : zH} {o w : Nat} {L : List Nat} {x : Int32} (ho2 : 2 ≤ o) (hA : zAc h0 o (nI w) L h) (hL : L.length + 2 ≤ 30) : zCallP (d + 3) 5 [.ref o, .int (nI 3), .int x] h (zRV (.int (zGoK 3 (nI w) x).1) (zAc h0 o (nI w) (L ++ (zGoK 3 (nI w) x).2))) := by
  refine zG_mP (t := tX0_goes) (ls0 := [.ref o, .int (nI 3), .int x]) rfl rfl (zdnR (zdnI (zdnI zdn0))) rfl ?_
  refine zG_s rfl rfl ?_
  refine zG_s rfl rfl ?_
  refine zG_s rfl rfl ?_
  refine zG_s rfl rfl ?_
  refine zG_cQN rfl rfl hA.2.1 rfl rfl (ct_begin (b := 20) ho2 hA (by omega)) (fun h1 hB => ?_)
  refine zG_s rfl rfl ?_
  refine zG_s rfl rfl ?_
  refine zG_s rfl rfl ?_
  refine zG_cqV rfl rfl (ct_goes0 ho2 hB (by rw [List.length_append]; show L.length + 1 + 1 ≤ 30; omega)) (fun h2 hB2 => ?_)
  refine zG_s rfl rfl ?_
  refine zG_s rfl rfl ?_
  -- leaf 1
  rw [List.append_assoc] at hB2
  exact zG_ret rfl rfl ⟨rfl, hB2⟩
theorem ct_goes4 {d : Nat} {h0 h : zH} {o w : Nat} {L : List Nat} {x : Int32} (ho2 : 2 ≤ o) (hA : zAc h0 o (nI w) L h) (hL : L.length + 3 ≤ 30) : zCallP (d + 4) 5 [.ref o, .int (nI 4), .int x] h (zRV (.int (zGoK 4 (nI w) x).1) (zAc h0 o (nI w) (L ++ (zGoK 4 (nI w) x).2))) := by
  refine zG_mP (t := tX0_goes) (ls0 := [.ref o, .int (nI 4), .int x]) rfl rfl (zdnR (zdnI (zdnI zdn0))) rfl ?_
  refine zG_s rfl rfl ?_
  refine zG_s rfl rfl ?_
  refine zG_s rfl rfl ?_
  refine zG_s rfl rfl ?_
  refine zG_cQN rfl rfl hA.2.1 rfl rfl (ct_begin (b := 50) ho2 hA (by omega)) (fun h1 hB => ?_)
  refine zG_s rfl rfl ?_
  refine zG_s rfl rfl ?_
  refine zG_s rfl rfl ?_
  refine zG_cqV rfl rfl (ct_goes3 ho2 hB (by rw [List.length_append]; show L.length + 1 + 2 ≤ 30; omega)) (fun h2 hB2 => ?_)
  refine zG_s rfl rfl ?_
  refine zG_s rfl rfl ?_
  -- leaf 1
  rw [List.append_assoc] at hB2
  exact zG_ret rfl rfl ⟨rfl, hB2⟩
theorem ct_goes5 {d : Nat} {h0 h : zH} {o w : Nat} {L : List Nat} {x : Int32} (ho2 : 2 ≤ o) (hA : zAc h0 o (nI w) L h) (hL : L.length + 2 ≤ 30) : zCallP (d + 3) 5 [.ref o, .int (nI 5), .int x] h (zRV (.int (zGoK 5 (nI w) x).1) (zAc h0 o (nI w) (L ++ (zGoK 5 (nI w) x).2))) := by
  refine zG_mP (t := tX0_goes) (ls0 := [.ref o, .int (nI 5), .int x]) rfl rfl (zdnR (zdnI (zdnI zdn0))) rfl ?_
  refine zG_s rfl rfl ?_
  refine zG_s rfl rfl ?_
  refine zG_s rfl rfl ?_
  refine zG_s rfl rfl ?_
  refine zG_cQN rfl rfl hA.2.1 rfl rfl (ct_begin (b := 60) ho2 hA (by omega)) (fun h1 hB => ?_)
  refine zG_s rfl rfl ?_
  refine zG_s rfl rfl ?_
  refine zG_s rfl rfl ?_
  refine zG_cqV rfl rfl (ct_goes2 ho2 hB (by rw [List.length_append]; show L.length + 1 + 1 ≤ 30; omega)) (fun h2 hB2 => ?_)
  refine zG_s rfl rfl ?_
  refine zG_s rfl rfl ?_
  -- leaf 1
  rw [List.append_assoc] at hB2
  exact zG_ret rfl rfl ⟨rfl, hB2⟩
theorem ct_goes {d : Nat} {h0 h : zH} {o w : Nat} {L : List Nat} {x : Int32} (ho2 : 2 ≤ o) (hA : zAc h0 o (nI w) L h) {k : Nat} (hk : k < 6) (hL : L.length + 3 ≤ 30) : zCallP (d + 4) 5 [.ref o, .int (nI k), .int x] h (zRV (.int (zGoK k (nI w) x).1) (zAc h0 o (nI w) (L ++ (zGoK k (nI w) x).2))) := by
  rcases (show k = 0 ∨ k = 1 ∨ k = 2 ∨ k = 3 ∨ k = 4 ∨ k = 5 by omega) with rfl | rfl | rfl | rfl | rfl | rfl
  · exact ct_goes0 ho2 hA (by omega)
  · exact ct_goes1 ho2 hA (by omega)
  · exact ct_goes2 ho2 hA (by omega)
  · exact ct_goes3 ho2 hA (by omega)
  · exact ct_goes4 ho2 hA (by omega)
  · exact ct_goes5 ho2 hA (by omega)
theorem ct_pays0 {d : Nat} {h0 h : zH} {o w : Nat} {L : List Nat} {x : Int32} (ho2 : 2 ≤ o) (hA : zAc h0 o (nI w) L h) (hw : w < 6) (hL : L.length + 4 ≤ 30) : zCallP (d + 5) 6 [.ref o, .int (nI 0), .int x] h (zRV (.int (zPaK 0 w x).1) (zAc h0 o (nI w) (L ++ (zPaK 0 w x).2))) := by
  refine zG_mP (t := tX0_pays) (ls0 := [.ref o, .int (nI 0), .int x]) rfl rfl (zdnR (zdnI (zdnI zdn0))) rfl ?_
  refine zG_s rfl rfl ?_
  refine zG_s rfl rfl ?_
  refine zG_s rfl rfl ?_
  refine zG_s rfl rfl ?_
  refine zG_cQN rfl rfl hA.2.1 rfl rfl (ct_begin (b := 11) ho2 hA (by omega)) (fun h1 hB => ?_)
  refine zG_s rfl rfl ?_
  refine zG_s rfl rfl ?_
  refine zN_get rfl hB.2.1 rfl ?_
  refine zG_s rfl rfl ?_
  refine zG_cqV rfl rfl (ct_goes ho2 hB hw (by rw [List.length_append]; show L.length + 1 + 3 ≤ 30; omega)) (fun h2 hB2 => ?_)
  refine zG_s rfl rfl ?_
  refine zG_s rfl rfl ?_
  -- leaf 1
  rw [List.append_assoc] at hB2
  exact zG_ret rfl rfl ⟨rfl, hB2⟩
theorem ct_pays1 {d : Nat} {h0 h : zH} {o w : Nat} {L : List Nat} {x : Int32} (ho2 : 2 ≤ o) (hA : zAc h0 o (nI w) L h) (hw : w < 6) (hL : L.length + 4 ≤ 30) : zCallP (d + 5) 6 [.ref o, .int (nI 1), .int x] h (zRV (.int (zPaK 1 w x).1) (zAc h0 o (nI w) (L ++ (zPaK 1 w x).2))) := by
  refine zG_mP (t := tX0_pays) (ls0 := [.ref o, .int (nI 1), .int x]) rfl rfl (zdnR (zdnI (zdnI zdn0))) rfl ?_
  refine zG_s rfl rfl ?_
  refine zG_s rfl rfl ?_
  refine zG_s rfl rfl ?_
  refine zG_s rfl rfl ?_
  refine zG_cQN rfl rfl hA.2.1 rfl rfl (ct_begin (b := 11) ho2 hA (by omega)) (fun h1 hB => ?_)
  refine zG_s rfl rfl ?_
  refine zG_s rfl rfl ?_
  refine zN_get rfl hB.2.1 rfl ?_
  refine zG_s rfl rfl ?_
  refine zG_cqV rfl rfl (ct_goes ho2 hB hw (by rw [List.length_append]; show L.length + 1 + 3 ≤ 30; omega)) (fun h2 hB2 => ?_)
  refine zG_s rfl rfl ?_
  refine zG_s rfl rfl ?_
  -- leaf 1
  rw [List.append_assoc] at hB2
  exact zG_ret rfl rfl ⟨rfl, hB2⟩
theorem ct_pays3 {d : Nat} {h0 h : zH} {o w : Nat} {L : List Nat} {x : Int32} (ho2 : 2 ≤ o) (hA : zAc h0 o (nI w) L h) (hw : w < 6) (hL : L.length + 4 ≤ 30) : zCallP (d + 5) 6 [.ref o, .int (nI 3), .int x] h (zRV (.int (zPaK 3 w x).1) (zAc h0 o (nI w) (L ++ (zPaK 3 w x).2))) := by
  refine zG_mP (t := tX0_pays) (ls0 := [.ref o, .int (nI 3), .int x]) rfl rfl (zdnR (zdnI (zdnI zdn0))) rfl ?_
  refine zG_s rfl rfl ?_
  refine zG_s rfl rfl ?_
  refine zG_s rfl rfl ?_
  refine zG_s rfl rfl ?_
  refine zG_cQN rfl rfl hA.2.1 rfl rfl (ct_begin (b := 11) ho2 hA (by omega)) (fun h1 hB => ?_)
  refine zG_s rfl rfl ?_
  refine zG_s rfl rfl ?_
  refine zN_get rfl hB.2.1 rfl ?_
  refine zG_s rfl rfl ?_
  refine zG_cqV rfl rfl (ct_goes ho2 hB hw (by rw [List.length_append]; show L.length + 1 + 3 ≤ 30; omega)) (fun h2 hB2 => ?_)
  refine zG_s rfl rfl ?_
  refine zG_s rfl rfl ?_
  -- leaf 1
  rw [List.append_assoc] at hB2
  exact zG_ret rfl rfl ⟨rfl, hB2⟩
theorem ct_pays4 {d : Nat} {h0 h : zH} {o w : Nat} {L : List Nat} {x : Int32} (ho2 : 2 ≤ o) (hA : zAc h0 o (nI w) L h) (hw : w < 6) (hL : L.length + 4 ≤ 30) : zCallP (d + 5) 6 [.ref o, .int (nI 4), .int x] h (zRV (.int (zPaK 4 w x).1) (zAc h0 o (nI w) (L ++ (zPaK 4 w x).2))) := by
  refine zG_mP (t := tX0_pays) (ls0 := [.ref o, .int (nI 4), .int x]) rfl rfl (zdnR (zdnI (zdnI zdn0))) rfl ?_
  refine zG_s rfl rfl ?_
  refine zG_s rfl rfl ?_
  refine zG_s rfl rfl ?_
  refine zG_s rfl rfl ?_
  refine zG_cQN rfl rfl hA.2.1 rfl rfl (ct_begin (b := 11) ho2 hA (by omega)) (fun h1 hB => ?_)
  refine zG_s rfl rfl ?_
  refine zG_s rfl rfl ?_
  refine zN_get rfl hB.2.1 rfl ?_
  refine zG_s rfl rfl ?_
  refine zG_cqV rfl rfl (ct_goes ho2 hB hw (by rw [List.length_append]; show L.length + 1 + 3 ≤ 30; omega)) (fun h2 hB2 => ?_)
  refine zG_s rfl rfl ?_
  refine zG_s rfl rfl ?_
  -- leaf 1
  rw [List.append_assoc] at hB2
  exact zG_ret rfl rfl ⟨rfl, hB2⟩
theorem ct_pays2 {d : Nat} {h0 h : zH} {o w : Nat} {L : List Nat} {x : Int32} (ho2 : 2 ≤ o) (hA : zAc h0 o (nI w) L h) (hw : w < 6) (hL : L.length + 5 ≤ 30) : zCallP (d + 6) 6 [.ref o, .int (nI 2), .int x] h (zRV (.int (zPaK 2 w x).1) (zAc h0 o (nI w) (L ++ (zPaK 2 w x).2))) := by
  refine zG_mP (t := tX0_pays) (ls0 := [.ref o, .int (nI 2), .int x]) rfl rfl (zdnR (zdnI (zdnI zdn0))) rfl ?_
  refine zG_s rfl rfl ?_
  refine zG_s rfl rfl ?_
  refine zG_s rfl rfl ?_
  refine zG_s rfl rfl ?_
  refine zG_cQN rfl rfl hA.2.1 rfl rfl (ct_begin (b := 30) ho2 hA (by omega)) (fun h1 hB => ?_)
  refine zG_s rfl rfl ?_
  refine zG_s rfl rfl ?_
  refine zG_s rfl rfl ?_
  refine zG_cqV rfl rfl (ct_pays0 ho2 hB hw (by rw [List.length_append]; show L.length + 1 + 4 ≤ 30; omega)) (fun h2 hB2 => ?_)
  refine zG_s rfl rfl ?_
  refine zG_s rfl rfl ?_
  -- leaf 1
  rw [List.append_assoc] at hB2
  exact zG_ret rfl rfl ⟨rfl, hB2⟩
theorem ct_pays5 {d : Nat} {h0 h : zH} {o w : Nat} {L : List Nat} {x : Int32} (ho2 : 2 ≤ o) (hA : zAc h0 o (nI w) L h) (hw : w < 6) (hL : L.length + 9 ≤ 30) : zCallP (d + 7) 6 [.ref o, .int (nI 5), .int x] h (zRV (.int (zPaK 5 w x).1) (zAc h0 o (nI w) (L ++ (zPaK 5 w x).2))) := by
  refine zG_mP (t := tX0_pays) (ls0 := [.ref o, .int (nI 5), .int x]) rfl rfl (zdnR (zdnI (zdnI zdn0))) rfl ?_
  refine zG_s rfl rfl ?_
  refine zG_s rfl rfl ?_
  refine zG_s rfl rfl ?_
  refine zG_s rfl rfl ?_
  refine zG_cQN rfl rfl hA.2.1 rfl rfl (ct_begin (b := 61) ho2 hA (by omega)) (fun h1 hB => ?_)
  refine zG_s rfl rfl ?_
  refine zG_s rfl rfl ?_
  refine zG_s rfl rfl ?_
  refine zG_cqV rfl rfl (ct_pays2 ho2 hB hw (by rw [List.length_append]; show L.length + 1 + 5 ≤ 30; omega)) (fun h2 hB2 => ?_)
  refine zG_s rfl rfl ?_
  refine zG_s rfl rfl ?_
  refine zN_get rfl hB2.2.1 rfl ?_
  refine zG_s rfl rfl ?_
  refine zG_cqV rfl rfl (ct_goes ho2 hB2 hw (by have := zGoK_len w (nI w) x; simp only [zPaK, zpa2, zpa0, if_true, List.length_append, List.length_cons, List.length_nil]; omega)) (fun h3 hB3 => ?_)
  refine zG_s rfl rfl ?_
  -- leaf 1
  rw [List.append_assoc, List.append_assoc] at hB3
  exact zG_ret rfl rfl ⟨rfl, hB3⟩
theorem ct_pays {d : Nat} {h0 h : zH} {o w : Nat} {L : List Nat} {x : Int32} (ho2 : 2 ≤ o) (hA : zAc h0 o (nI w) L h) (hw : w < 6) {k : Nat} (hk : k < 6) (hL : L.length + 9 ≤ 30) : zCallP (d + 7) 6 [.ref o, .int (nI k), .int x] h (zRV (.int (zPaK k w x).1) (zAc h0 o (nI w) (L ++ (zPaK k w x).2))) := by
  rcases (show k = 0 ∨ k = 1 ∨ k = 2 ∨ k = 3 ∨ k = 4 ∨ k = 5 by omega) with rfl | rfl | rfl | rfl | rfl | rfl
  · exact ct_pays0 ho2 hA hw (by omega)
  · exact ct_pays1 ho2 hA hw (by omega)
  · exact ct_pays2 ho2 hA hw (by omega)
  · exact ct_pays3 ho2 hA hw (by omega)
  · exact ct_pays4 ho2 hA hw (by omega)
  · exact ct_pays5 ho2 hA hw (by omega)
theorem ct_tells0 {d : Nat} {h0 h : zH} {o w : Nat} {L : List Nat} {x : Int32} (ho2 : 2 ≤ o) (hA : zAc h0 o (nI w) L h) (hw : w < 6) (hL : L.length + 13 ≤ 30) : zCallP (d + 8) 7 [.ref o, .int (nI 0), .int x] h (zRV (.int (zTeK 0 w x).1) (zAc h0 o (nI w) (L ++ (zTeK 0 w x).2))) := by
  refine zG_mP (t := tX0_tells) (ls0 := [.ref o, .int (nI 0), .int x]) rfl rfl (zdnR (zdnI (zdnI zdn0))) rfl ?_
  refine zG_s rfl rfl ?_
  refine zG_s rfl rfl ?_
  refine zG_s rfl rfl ?_
  refine zG_s rfl rfl ?_
  refine zG_cQN rfl rfl hA.2.1 rfl rfl (ct_begin (b := 12) ho2 hA (by omega)) (fun h1 hB => ?_)
  refine zG_s rfl rfl ?_
  refine zG_s rfl rfl ?_
  refine zN_get rfl hB.2.1 rfl ?_
  refine zG_s rfl rfl ?_
  refine zG_cqV rfl rfl (ct_pays ho2 hB hw hw (by rw [List.length_append]; show L.length + 1 + 9 ≤ 30; omega)) (fun h2 hB2 => ?_)
  refine zG_s rfl rfl ?_
  refine zG_s rfl rfl ?_
  refine zN_get rfl hB2.2.1 rfl ?_
  refine zG_s rfl rfl ?_
  refine zN_get rfl hB2.2.1 rfl ?_
  refine zG_cqV rfl rfl (ct_goes ho2 hB2 hw (by have := zPaK_len w w x; simp only [List.length_append, List.length_cons, List.length_nil]; omega)) (fun h3 hB3 => ?_)
  refine zG_s rfl rfl ?_
  -- leaf 1
  rw [List.append_assoc, List.append_assoc] at hB3
  exact zG_ret rfl rfl ⟨rfl, hB3⟩
theorem ct_tells1 {d : Nat} {h0 h : zH} {o w : Nat} {L : List Nat} {x : Int32} (ho2 : 2 ≤ o) (hA : zAc h0 o (nI w) L h) (hw : w < 6) (hL : L.length + 13 ≤ 30) : zCallP (d + 8) 7 [.ref o, .int (nI 1), .int x] h (zRV (.int (zTeK 1 w x).1) (zAc h0 o (nI w) (L ++ (zTeK 1 w x).2))) := by
  refine zG_mP (t := tX0_tells) (ls0 := [.ref o, .int (nI 1), .int x]) rfl rfl (zdnR (zdnI (zdnI zdn0))) rfl ?_
  refine zG_s rfl rfl ?_
  refine zG_s rfl rfl ?_
  refine zG_s rfl rfl ?_
  refine zG_s rfl rfl ?_
  refine zG_cQN rfl rfl hA.2.1 rfl rfl (ct_begin (b := 12) ho2 hA (by omega)) (fun h1 hB => ?_)
  refine zG_s rfl rfl ?_
  refine zG_s rfl rfl ?_
  refine zN_get rfl hB.2.1 rfl ?_
  refine zG_s rfl rfl ?_
  refine zG_cqV rfl rfl (ct_pays ho2 hB hw hw (by rw [List.length_append]; show L.length + 1 + 9 ≤ 30; omega)) (fun h2 hB2 => ?_)
  refine zG_s rfl rfl ?_
  refine zG_s rfl rfl ?_
  refine zN_get rfl hB2.2.1 rfl ?_
  refine zG_s rfl rfl ?_
  refine zN_get rfl hB2.2.1 rfl ?_
  refine zG_cqV rfl rfl (ct_goes ho2 hB2 hw (by have := zPaK_len w w x; simp only [List.length_append, List.length_cons, List.length_nil]; omega)) (fun h3 hB3 => ?_)
  refine zG_s rfl rfl ?_
  -- leaf 1
  rw [List.append_assoc, List.append_assoc] at hB3
  exact zG_ret rfl rfl ⟨rfl, hB3⟩
theorem ct_tells2 {d : Nat} {h0 h : zH} {o w : Nat} {L : List Nat} {x : Int32} (ho2 : 2 ≤ o) (hA : zAc h0 o (nI w) L h) (hw : w < 6) (hL : L.length + 14 ≤ 30) : zCallP (d + 9) 7 [.ref o, .int (nI 2), .int x] h (zRV (.int (zTeK 2 w x).1) (zAc h0 o (nI w) (L ++ (zTeK 2 w x).2))) := by
  refine zG_mP (t := tX0_tells) (ls0 := [.ref o, .int (nI 2), .int x]) rfl rfl (zdnR (zdnI (zdnI zdn0))) rfl ?_
  refine zG_s rfl rfl ?_
  refine zG_s rfl rfl ?_
  refine zG_s rfl rfl ?_
  refine zG_s rfl rfl ?_
  refine zG_cQN rfl rfl hA.2.1 rfl rfl (ct_begin (b := 31) ho2 hA (by omega)) (fun h1 hB => ?_)
  refine zG_s rfl rfl ?_
  refine zG_s rfl rfl ?_
  refine zG_s rfl rfl ?_
  refine zG_cqV rfl rfl (ct_tells0 ho2 hB hw (by rw [List.length_append]; show L.length + 1 + 13 ≤ 30; omega)) (fun h2 hB2 => ?_)
  refine zG_s rfl rfl ?_
  -- leaf 1
  rw [List.append_assoc] at hB2
  exact zG_ret rfl rfl ⟨rfl, hB2⟩
theorem ct_tells5 {d : Nat} {h0 h : zH} {o w : Nat} {L : List Nat} {x : Int32} (ho2 : 2 ≤ o) (hA : zAc h0 o (nI w) L h) (hw : w < 6) (hL : L.length + 14 ≤ 30) : zCallP (d + 9) 7 [.ref o, .int (nI 5), .int x] h (zRV (.int (zTeK 5 w x).1) (zAc h0 o (nI w) (L ++ (zTeK 5 w x).2))) := by
  refine zG_mP (t := tX0_tells) (ls0 := [.ref o, .int (nI 5), .int x]) rfl rfl (zdnR (zdnI (zdnI zdn0))) rfl ?_
  refine zG_s rfl rfl ?_
  refine zG_s rfl rfl ?_
  refine zG_s rfl rfl ?_
  refine zG_s rfl rfl ?_
  refine zG_cQN rfl rfl hA.2.1 rfl rfl (ct_begin (b := 31) ho2 hA (by omega)) (fun h1 hB => ?_)
  refine zG_s rfl rfl ?_
  refine zG_s rfl rfl ?_
  refine zG_s rfl rfl ?_
  refine zG_cqV rfl rfl (ct_tells0 ho2 hB hw (by rw [List.length_append]; show L.length + 1 + 13 ≤ 30; omega)) (fun h2 hB2 => ?_)
  refine zG_s rfl rfl ?_
  -- leaf 1
  rw [List.append_assoc] at hB2
  exact zG_ret rfl rfl ⟨rfl, hB2⟩
theorem ct_tells3 {d : Nat} {h0 h : zH} {o w : Nat} {L : List Nat} {x : Int32} (ho2 : 2 ≤ o) (hA : zAc h0 o (nI w) L h) (hw : w < 6) (hL : L.length + 14 ≤ 30) : zCallP (d + 9) 7 [.ref o, .int (nI 3), .int x] h (zRV (.int (zTeK 3 w x).1) (zAc h0 o (nI w) (L ++ (zTeK 3 w x).2))) := by
  rw [zTeK_3, zte3]
  refine zG_mP (t := tX0_tells) (ls0 := [.ref o, .int (nI 3), .int x]) rfl rfl (zdnR (zdnI (zdnI zdn0))) rfl ?_
  refine zG_s rfl rfl ?_
  refine zG_s rfl rfl ?_
  refine zG_s rfl rfl ?_
  refine zG_s rfl rfl ?_
  refine zG_cQN rfl rfl hA.2.1 rfl rfl (ct_begin (b := 40) ho2 hA (by omega)) (fun h1 hB => ?_)
  refine zG_s rfl rfl ?_
  refine zG_s rfl rfl ?_
  refine zG_s rfl rfl ?_
  refine zG_s rfl rfl ?_
  refine zG_s rfl rfl ?_
  refine zG_cqV rfl rfl (ct_tells1 ho2 hB hw (by rw [List.length_append]; show L.length + 1 + 13 ≤ 30; omega)) (fun h2 hB2 => ?_)
  rw [zTeK_1]
  -- leaf 1
  rw [List.append_assoc, zTeK_1] at hB2
  exact zG_ret rfl rfl ⟨rfl, hB2⟩
theorem ct_tells4 {d : Nat} {h0 h : zH} {o w : Nat} {L : List Nat} {x : Int32} (ho2 : 2 ≤ o) (hA : zAc h0 o (nI w) L h) (hw : w < 6) (hL : L.length + 24 ≤ 30) : zCallP (d + 10) 7 [.ref o, .int (nI 4), .int x] h (zRV (.int (zTeK 4 w x).1) (zAc h0 o (nI w) (L ++ (zTeK 4 w x).2))) := by
  rw [zTeK_4, zte4]
  refine zG_mP (t := tX0_tells) (ls0 := [.ref o, .int (nI 4), .int x]) rfl rfl (zdnR (zdnI (zdnI zdn0))) rfl ?_
  refine zG_s rfl rfl ?_
  refine zG_s rfl rfl ?_
  refine zG_s rfl rfl ?_
  refine zG_s rfl rfl ?_
  refine zG_cQN rfl rfl hA.2.1 rfl rfl (ct_begin (b := 51) ho2 hA (by omega)) (fun h1 hB => ?_)
  refine zG_s rfl rfl ?_
  refine zG_s rfl rfl ?_
  refine zG_s rfl rfl ?_
  refine zG_cqV rfl rfl (ct_tells3 ho2 hB hw (by rw [List.length_append]; show L.length + 1 + 14 ≤ 30; omega)) (fun h2 hB2 => ?_)
  rw [zTeK_3] at hB2 ⊢
  refine zG_s rfl rfl ?_
  refine zG_s rfl rfl ?_
  refine zN_get rfl hB2.2.1 rfl ?_
  refine zG_s rfl rfl ?_
  refine zG_cqV rfl rfl (ct_pays ho2 hB2 hw hw (by have h1 := zPaK_len w w (x + nI 1); have h2 := zGoK_len w (nI w) (nI w); simp only [zte3, zte0, List.length_append, List.length_cons, List.length_nil]; omega)) (fun h3 hB3 => ?_)
  refine zG_s rfl rfl ?_
  -- leaf 1
  rw [List.append_assoc, List.append_assoc] at hB3
  exact zG_ret rfl rfl ⟨rfl, hB3⟩
theorem ct_tells {d : Nat} {h0 h : zH} {o w : Nat} {L : List Nat} {x : Int32} (ho2 : 2 ≤ o) (hA : zAc h0 o (nI w) L h) (hw : w < 6) {k : Nat} (hk : k < 6) (hL : L.length + 24 ≤ 30) : zCallP (d + 10) 7 [.ref o, .int (nI k), .int x] h (zRV (.int (zTeK k w x).1) (zAc h0 o (nI w) (L ++ (zTeK k w x).2))) := by
  rcases (show k = 0 ∨ k = 1 ∨ k = 2 ∨ k = 3 ∨ k = 4 ∨ k = 5 by omega) with rfl | rfl | rfl | rfl | rfl | rfl
  · exact ct_tells0 ho2 hA hw (by omega)
  · exact ct_tells1 ho2 hA hw (by omega)
  · exact ct_tells2 ho2 hA hw (by omega)
  · exact ct_tells3 ho2 hA hw (by omega)
  · exact ct_tells4 ho2 hA hw (by omega)
  · exact ct_tells5 ho2 hA hw (by omega)
