section ZCASES
variable {xs : Nat → Int32} {L m i : Nat} {h : zH} {s : zST} {r : zR → Prop}
theorem lk_points (hJ : zJ xs L m h s) (hi : i + 6 ≤ L) (hL : L ≤ 3072) (K : ∀ h2 s2, zJ xs L m h2 s2 → zGoP 20 tL_law 2010 [.ref 0, .ref 2, .ref 112, .int (nI i)] [] h2 r) : zGoP 20 tL_law 232 [.ref 0, .ref 2, .ref 112, .int (nI i)] [] h r := by
  have h0 := hJ.1
  refine zG_s rfl rfl ?_
  refine zG_s rfl rfl ?_
  refine zG_s rfl rfl ?_
  refine zG_s rfl rfl ?_
  refine zN_add rfl ?_
  refine zN_ald rfl h0 (by omega) (by omega) rfl ?_
  refine zG_s rfl rfl ?_
  refine zG_s rfl rfl ?_
  refine zG_s rfl rfl ?_
  refine zN_add rfl ?_
  refine zN_ald rfl h0 (by omega) (by omega) rfl ?_
  refine zG_cQV rfl rfl hJ.2.1.ob rfl rfl (co_points hJ.2.1 hJ.2.2.1) (fun h1 hB => ?_)
  obtain ⟨hF, hI1⟩ := hB
  obtain ⟨S, e1, hR, h01⟩ := zJ_a hJ hF
  rw [e1]
  refine zG_s rfl rfl ?_
  refine zG_s rfl rfl ?_
  refine zG_s rfl rfl ?_
  refine zG_s rfl rfl ?_
  refine zN_add rfl ?_
  refine zN_ald rfl h01 (by omega) (by omega) rfl ?_
  refine zG_s rfl rfl ?_
  refine zG_s rfl rfl ?_
  refine zG_s rfl rfl ?_
  refine zN_add rfl ?_
  refine zN_ald rfl h01 (by omega) (by omega) rfl ?_
  refine zG_cQV rfl rfl zRh_o rfl rfl (cr_points (by decide) hR hJ.2.2.1) (fun h2 hB => ?_)
  obtain ⟨S1, rfl, hR1⟩ := hB
  exact zN_if2 rfl (fun _ => K _ _ (zJ_b hJ hF e1 hI1 (w_points hJ.2.2.1) hR1)) (fun q => absurd q (by simp [zc2]))
theorem lk_nest (hJ : zJ xs L m h s) (hi : i + 6 ≤ L) (hL : L ≤ 3072) (K : ∀ h2 s2, zJ xs L m h2 s2 → zGoP 20 tL_law 2010 [.ref 0, .ref 2, .ref 112, .int (nI i)] [] h2 r) : zGoP 20 tL_law 265 [.ref 0, .ref 2, .ref 112, .int (nI i)] [] h r := by
  have h0 := hJ.1
  refine zG_s rfl rfl ?_
  refine zG_s rfl rfl ?_
  refine zG_s rfl rfl ?_
  refine zG_s rfl rfl ?_
  refine zN_add rfl ?_
  refine zN_ald rfl h0 (by omega) (by omega) rfl ?_
  refine zG_s rfl rfl ?_
  refine zG_s rfl rfl ?_
  refine zG_s rfl rfl ?_
  refine zN_add rfl ?_
  refine zN_ald rfl h0 (by omega) (by omega) rfl ?_
  refine zG_s rfl rfl ?_
  refine zG_s rfl rfl ?_
  refine zG_s rfl rfl ?_
  refine zN_add rfl ?_
  refine zN_ald rfl h0 (by omega) (by omega) rfl ?_
  refine zG_cQV rfl rfl hJ.2.1.ob rfl rfl (co_nest hJ.2.1 hJ.2.2.1) (fun h1 hB => ?_)
  obtain ⟨hF, hI1⟩ := hB
  obtain ⟨S, e1, hR, h01⟩ := zJ_a hJ hF
  rw [e1]
  refine zG_s rfl rfl ?_
  refine zG_s rfl rfl ?_
  refine zG_s rfl rfl ?_
  refine zG_s rfl rfl ?_
  refine zN_add rfl ?_
  refine zN_ald rfl h01 (by omega) (by omega) rfl ?_
  refine zG_s rfl rfl ?_
  refine zG_s rfl rfl ?_
  refine zG_s rfl rfl ?_
  refine zN_add rfl ?_
  refine zN_ald rfl h01 (by omega) (by omega) rfl ?_
  refine zG_s rfl rfl ?_
  refine zG_s rfl rfl ?_
  refine zG_s rfl rfl ?_
  refine zN_add rfl ?_
  refine zN_ald rfl h01 (by omega) (by omega) rfl ?_
  refine zG_cQV rfl rfl zRh_o rfl rfl (cr_nest (by decide) hR hJ.2.2.1) (fun h2 hB => ?_)
  obtain ⟨S1, rfl, hR1⟩ := hB
  exact zN_if2 rfl (fun _ => K _ _ (zJ_b hJ hF e1 hI1 (w_nest hJ.2.2.1) hR1)) (fun q => absurd q (by simp [zc2]))
theorem lk_of (hJ : zJ xs L m h s) (hi : i + 6 ≤ L) (hL : L ≤ 3072) (K : ∀ h2 s2, zJ xs L m h2 s2 → zGoP 20 tL_law 2010 [.ref 0, .ref 2, .ref 112, .int (nI i)] [] h2 r) : zGoP 20 tL_law 308 [.ref 0, .ref 2, .ref 112, .int (nI i)] [] h r := by
  have h0 := hJ.1
  refine zG_s rfl rfl ?_
  refine zG_s rfl rfl ?_
  refine zG_s rfl rfl ?_
  refine zG_s rfl rfl ?_
  refine zN_add rfl ?_
  refine zN_ald rfl h0 (by omega) (by omega) rfl ?_
  refine zG_s rfl rfl ?_
  refine zG_s rfl rfl ?_
  refine zG_s rfl rfl ?_
  refine zN_add rfl ?_
  refine zN_ald rfl h0 (by omega) (by omega) rfl ?_
  refine zG_s rfl rfl ?_
  refine zG_s rfl rfl ?_
  refine zG_s rfl rfl ?_
  refine zN_add rfl ?_
  refine zN_ald rfl h0 (by omega) (by omega) rfl ?_
  refine zG_cQV rfl rfl hJ.2.1.ob rfl rfl (co_of hJ.2.1 hJ.2.2.1) (fun h1 hB => ?_)
  obtain ⟨hF, hI1⟩ := hB
  obtain ⟨S, e1, hR, h01⟩ := zJ_a hJ hF
  rw [e1]
  refine zG_s rfl rfl ?_
  refine zG_s rfl rfl ?_
  refine zG_s rfl rfl ?_
  refine zG_s rfl rfl ?_
  refine zN_add rfl ?_
  refine zN_ald rfl h01 (by omega) (by omega) rfl ?_
  refine zG_s rfl rfl ?_
  refine zG_s rfl rfl ?_
  refine zG_s rfl rfl ?_
  refine zN_add rfl ?_
  refine zN_ald rfl h01 (by omega) (by omega) rfl ?_
  refine zG_s rfl rfl ?_
  refine zG_s rfl rfl ?_
  refine zG_s rfl rfl ?_
  refine zN_add rfl ?_
  refine zN_ald rfl h01 (by omega) (by omega) rfl ?_
  refine zG_cQV rfl rfl zRh_o rfl rfl (cr_of (by decide) hR hJ.2.2.1) (fun h2 hB => ?_)
  obtain ⟨S1, rfl, hR1⟩ := hB
  exact zN_if2 rfl (fun _ => K _ _ (zJ_b hJ hF e1 hI1 (w_of hJ.2.2.1) hR1)) (fun q => absurd q (by simp [zc2]))
theorem lk_about (hJ : zJ xs L m h s) (hi : i + 6 ≤ L) (hL : L ≤ 3072) (K : ∀ h2 s2, zJ xs L m h2 s2 → zGoP 20 tL_law 2010 [.ref 0, .ref 2, .ref 112, .int (nI i)] [] h2 r) : zGoP 20 tL_law 351 [.ref 0, .ref 2, .ref 112, .int (nI i)] [] h r := by
  have h0 := hJ.1
  refine zG_s rfl rfl ?_
  refine zG_s rfl rfl ?_
  refine zG_s rfl rfl ?_
  refine zG_s rfl rfl ?_
  refine zN_add rfl ?_
  refine zN_ald rfl h0 (by omega) (by omega) rfl ?_
  refine zG_s rfl rfl ?_
  refine zG_s rfl rfl ?_
  refine zG_s rfl rfl ?_
  refine zN_add rfl ?_
  refine zN_ald rfl h0 (by omega) (by omega) rfl ?_
  refine zG_s rfl rfl ?_
  refine zG_s rfl rfl ?_
  refine zG_s rfl rfl ?_
  refine zN_add rfl ?_
  refine zN_ald rfl h0 (by omega) (by omega) rfl ?_
  refine zG_cQV rfl rfl hJ.2.1.ob rfl rfl (co_about hJ.2.1 hJ.2.2.1) (fun h1 hB => ?_)
  obtain ⟨hF, hI1⟩ := hB
  obtain ⟨S, e1, hR, h01⟩ := zJ_a hJ hF
  rw [e1]
  refine zG_s rfl rfl ?_
  refine zG_s rfl rfl ?_
  refine zG_s rfl rfl ?_
  refine zG_s rfl rfl ?_
  refine zN_add rfl ?_
  refine zN_ald rfl h01 (by omega) (by omega) rfl ?_
  refine zG_s rfl rfl ?_
  refine zG_s rfl rfl ?_
  refine zG_s rfl rfl ?_
  refine zN_add rfl ?_
  refine zN_ald rfl h01 (by omega) (by omega) rfl ?_
  refine zG_s rfl rfl ?_
  refine zG_s rfl rfl ?_
  refine zG_s rfl rfl ?_
  refine zN_add rfl ?_
  refine zN_ald rfl h01 (by omega) (by omega) rfl ?_
  refine zG_cQV rfl rfl zRh_o rfl rfl (cr_about (by decide) hR hJ.2.2.1) (fun h2 hB => ?_)
  obtain ⟨S1, rfl, hR1⟩ := hB
  exact zN_if2 rfl (fun _ => K _ _ (zJ_b hJ hF e1 hI1 (w_about hJ.2.2.1) hR1)) (fun q => absurd q (by simp [zc2]))
theorem lk_told (hJ : zJ xs L m h s) (hi : i + 6 ≤ L) (hL : L ≤ 3072) (K : ∀ h2 s2, zJ xs L m h2 s2 → zGoP 20 tL_law 2010 [.ref 0, .ref 2, .ref 112, .int (nI i)] [] h2 r) : zGoP 20 tL_law 394 [.ref 0, .ref 2, .ref 112, .int (nI i)] [] h r := by
  have h0 := hJ.1
  refine zG_s rfl rfl ?_
  refine zG_s rfl rfl ?_
  refine zG_s rfl rfl ?_
  refine zG_s rfl rfl ?_
  refine zN_add rfl ?_
  refine zN_ald rfl h0 (by omega) (by omega) rfl ?_
  refine zG_s rfl rfl ?_
  refine zG_s rfl rfl ?_
  refine zG_s rfl rfl ?_
  refine zN_add rfl ?_
  refine zN_ald rfl h0 (by omega) (by omega) rfl ?_
  refine zG_cQV rfl rfl hJ.2.1.ob rfl rfl (co_told hJ.2.1 hJ.2.2.1) (fun h1 hB => ?_)
  obtain ⟨hF, hI1⟩ := hB
  obtain ⟨S, e1, hR, h01⟩ := zJ_a hJ hF
  rw [e1]
  refine zG_s rfl rfl ?_
  refine zG_s rfl rfl ?_
  refine zG_s rfl rfl ?_
  refine zG_s rfl rfl ?_
  refine zN_add rfl ?_
  refine zN_ald rfl h01 (by omega) (by omega) rfl ?_
  refine zG_s rfl rfl ?_
  refine zG_s rfl rfl ?_
  refine zG_s rfl rfl ?_
  refine zN_add rfl ?_
  refine zN_ald rfl h01 (by omega) (by omega) rfl ?_
  refine zG_cQV rfl rfl zRh_o rfl rfl (cr_told (by decide) hR hJ.2.2.1) (fun h2 hB => ?_)
  obtain ⟨S1, rfl, hR1⟩ := hB
  exact zN_if2 rfl (fun _ => K _ _ (zJ_b hJ hF e1 hI1 (w_told hJ.2.2.1) hR1)) (fun q => absurd q (by simp [zc2]))
theorem lk_path (hJ : zJ xs L m h s) (hi : i + 6 ≤ L) (hL : L ≤ 3072) (K : ∀ h2 s2, zJ xs L m h2 s2 → zGoP 20 tL_law 2010 [.ref 0, .ref 2, .ref 112, .int (nI i)] [] h2 r) : zGoP 20 tL_law 427 [.ref 0, .ref 2, .ref 112, .int (nI i)] [] h r := by
  have h0 := hJ.1
  refine zG_s rfl rfl ?_
  refine zG_s rfl rfl ?_
  refine zG_s rfl rfl ?_
  refine zG_s rfl rfl ?_
  refine zN_add rfl ?_
  refine zN_ald rfl h0 (by omega) (by omega) rfl ?_
  refine zG_s rfl rfl ?_
  refine zG_s rfl rfl ?_
  refine zG_s rfl rfl ?_
  refine zN_add rfl ?_
  refine zN_ald rfl h0 (by omega) (by omega) rfl ?_
  refine zG_s rfl rfl ?_
  refine zG_s rfl rfl ?_
  refine zG_s rfl rfl ?_
  refine zN_add rfl ?_
  refine zN_ald rfl h0 (by omega) (by omega) rfl ?_
  refine zG_cQV rfl rfl hJ.2.1.ob rfl rfl (co_path hJ.2.1 hJ.2.2.1) (fun h1 hB => ?_)
  obtain ⟨hF, hI1⟩ := hB
  obtain ⟨S, e1, hR, h01⟩ := zJ_a hJ hF
  rw [e1]
  refine zG_s rfl rfl ?_
  refine zG_s rfl rfl ?_
  refine zG_s rfl rfl ?_
  refine zG_s rfl rfl ?_
  refine zN_add rfl ?_
  refine zN_ald rfl h01 (by omega) (by omega) rfl ?_
  refine zG_s rfl rfl ?_
  refine zG_s rfl rfl ?_
  refine zG_s rfl rfl ?_
  refine zN_add rfl ?_
  refine zN_ald rfl h01 (by omega) (by omega) rfl ?_
  refine zG_s rfl rfl ?_
  refine zG_s rfl rfl ?_
  refine zG_s rfl rfl ?_
  refine zN_add rfl ?_
  refine zN_ald rfl h01 (by omega) (by omega) rfl ?_
  refine zG_cQV rfl rfl zRh_o rfl rfl (cr_path (by decide) hR hJ.2.2.1) (fun h2 hB => ?_)
  obtain ⟨S1, rfl, hR1⟩ := hB
  exact zN_if2 rfl (fun _ => K _ _ (zJ_b hJ hF e1 hI1 (w_path hJ.2.2.1) hR1)) (fun q => absurd q (by simp [zc2]))
theorem lk_may (hJ : zJ xs L m h s) (hi : i + 6 ≤ L) (hL : L ≤ 3072) (K : ∀ h2 s2, zJ xs L m h2 s2 → zGoP 20 tL_law 2010 [.ref 0, .ref 2, .ref 112, .int (nI i)] [] h2 r) : zGoP 20 tL_law 470 [.ref 0, .ref 2, .ref 112, .int (nI i)] [] h r := by
  have h0 := hJ.1
  refine zG_s rfl rfl ?_
  refine zG_s rfl rfl ?_
  refine zG_s rfl rfl ?_
  refine zG_s rfl rfl ?_
  refine zN_add rfl ?_
  refine zN_ald rfl h0 (by omega) (by omega) rfl ?_
  refine zG_s rfl rfl ?_
  refine zG_s rfl rfl ?_
  refine zG_s rfl rfl ?_
  refine zN_add rfl ?_
  refine zN_ald rfl h0 (by omega) (by omega) rfl ?_
  refine zG_s rfl rfl ?_
  refine zG_s rfl rfl ?_
  refine zG_s rfl rfl ?_
  refine zN_add rfl ?_
  refine zN_ald rfl h0 (by omega) (by omega) rfl ?_
  refine zG_cQV rfl rfl hJ.2.1.ob rfl rfl (co_may hJ.2.1 hJ.2.2.1) (fun h1 hB => ?_)
  obtain ⟨hF, hI1⟩ := hB
  obtain ⟨S, e1, hR, h01⟩ := zJ_a hJ hF
  rw [e1]
  refine zG_s rfl rfl ?_
  refine zG_s rfl rfl ?_
  refine zG_s rfl rfl ?_
  refine zG_s rfl rfl ?_
  refine zN_add rfl ?_
  refine zN_ald rfl h01 (by omega) (by omega) rfl ?_
  refine zG_s rfl rfl ?_
  refine zG_s rfl rfl ?_
  refine zG_s rfl rfl ?_
  refine zN_add rfl ?_
  refine zN_ald rfl h01 (by omega) (by omega) rfl ?_
  refine zG_s rfl rfl ?_
  refine zG_s rfl rfl ?_
  refine zG_s rfl rfl ?_
  refine zN_add rfl ?_
  refine zN_ald rfl h01 (by omega) (by omega) rfl ?_
  refine zG_cQV rfl rfl zRh_o rfl rfl (cr_may (by decide) hR hJ.2.2.1) (fun h2 hB => ?_)
  obtain ⟨S1, rfl, hR1⟩ := hB
  exact zN_if2 rfl (fun _ => K _ _ (zJ_b hJ hF e1 hI1 (w_may hJ.2.2.1) hR1)) (fun q => absurd q (by simp [zc2]))
theorem lk_price (hJ : zJ xs L m h s) (hi : i + 6 ≤ L) (hL : L ≤ 3072) (K : ∀ h2 s2, zJ xs L m h2 s2 → zGoP 20 tL_law 2010 [.ref 0, .ref 2, .ref 112, .int (nI i)] [] h2 r) : zGoP 20 tL_law 513 [.ref 0, .ref 2, .ref 112, .int (nI i)] [] h r := by
  have h0 := hJ.1
  refine zG_s rfl rfl ?_
  refine zG_s rfl rfl ?_
  refine zG_s rfl rfl ?_
  refine zG_s rfl rfl ?_
  refine zN_add rfl ?_
  refine zN_ald rfl h0 (by omega) (by omega) rfl ?_
  refine zG_s rfl rfl ?_
  refine zG_s rfl rfl ?_
  refine zG_s rfl rfl ?_
  refine zN_add rfl ?_
  refine zN_ald rfl h0 (by omega) (by omega) rfl ?_
  refine zG_s rfl rfl ?_
  refine zG_s rfl rfl ?_
  refine zG_s rfl rfl ?_
  refine zN_add rfl ?_
  refine zN_ald rfl h0 (by omega) (by omega) rfl ?_
  refine zG_cQV rfl rfl hJ.2.1.ob rfl rfl (co_price hJ.2.1 hJ.2.2.1) (fun h1 hB => ?_)
  obtain ⟨hF, hI1⟩ := hB
  obtain ⟨S, e1, hR, h01⟩ := zJ_a hJ hF
  rw [e1]
  refine zG_s rfl rfl ?_
  refine zG_s rfl rfl ?_
  refine zG_s rfl rfl ?_
  refine zG_s rfl rfl ?_
  refine zN_add rfl ?_
  refine zN_ald rfl h01 (by omega) (by omega) rfl ?_
  refine zG_s rfl rfl ?_
  refine zG_s rfl rfl ?_
  refine zG_s rfl rfl ?_
  refine zN_add rfl ?_
  refine zN_ald rfl h01 (by omega) (by omega) rfl ?_
  refine zG_s rfl rfl ?_
  refine zG_s rfl rfl ?_
  refine zG_s rfl rfl ?_
  refine zN_add rfl ?_
  refine zN_ald rfl h01 (by omega) (by omega) rfl ?_
  refine zG_cQV rfl rfl zRh_o rfl rfl (cr_price (by decide) hR hJ.2.2.1) (fun h2 hB => ?_)
  obtain ⟨S1, rfl, hR1⟩ := hB
  exact zN_if2 rfl (fun _ => K _ _ (zJ_b hJ hF e1 hI1 (w_price hJ.2.2.1) hR1)) (fun q => absurd q (by simp [zc2]))
theorem lk_left (hJ : zJ xs L m h s) (hi : i + 6 ≤ L) (hL : L ≤ 3072) (K : ∀ h2 s2, zJ xs L m h2 s2 → zGoP 20 tL_law 2010 [.ref 0, .ref 2, .ref 112, .int (nI i)] [] h2 r) : zGoP 20 tL_law 556 [.ref 0, .ref 2, .ref 112, .int (nI i)] [] h r := by
  have h0 := hJ.1
  refine zG_s rfl rfl ?_
  refine zG_s rfl rfl ?_
  refine zG_s rfl rfl ?_
  refine zG_s rfl rfl ?_
  refine zN_add rfl ?_
  refine zN_ald rfl h0 (by omega) (by omega) rfl ?_
  refine zG_s rfl rfl ?_
  refine zG_s rfl rfl ?_
  refine zG_s rfl rfl ?_
  refine zN_add rfl ?_
  refine zN_ald rfl h0 (by omega) (by omega) rfl ?_
  refine zG_s rfl rfl ?_
  refine zG_s rfl rfl ?_
  refine zG_s rfl rfl ?_
  refine zN_add rfl ?_
  refine zN_ald rfl h0 (by omega) (by omega) rfl ?_
  refine zG_cQV rfl rfl hJ.2.1.ob rfl rfl (co_left hJ.2.1 hJ.2.2.1) (fun h1 hB => ?_)
  obtain ⟨hF, hI1⟩ := hB
  obtain ⟨S, e1, hR, h01⟩ := zJ_a hJ hF
  rw [e1]
  refine zG_s rfl rfl ?_
  refine zG_s rfl rfl ?_
  refine zG_s rfl rfl ?_
  refine zG_s rfl rfl ?_
  refine zN_add rfl ?_
  refine zN_ald rfl h01 (by omega) (by omega) rfl ?_
  refine zG_s rfl rfl ?_
  refine zG_s rfl rfl ?_
  refine zG_s rfl rfl ?_
  refine zN_add rfl ?_
  refine zN_ald rfl h01 (by omega) (by omega) rfl ?_
  refine zG_s rfl rfl ?_
  refine zG_s rfl rfl ?_
  refine zG_s rfl rfl ?_
  refine zN_add rfl ?_
  refine zN_ald rfl h01 (by omega) (by omega) rfl ?_
  refine zG_cQV rfl rfl zRh_o rfl rfl (cr_left (by decide) hR hJ.2.2.1) (fun h2 hB => ?_)
  obtain ⟨S1, rfl, hR1⟩ := hB
  exact zN_if2 rfl (fun _ => K _ _ (zJ_b hJ hF e1 hI1 (w_left hJ.2.2.1) hR1)) (fun q => absurd q (by simp [zc2]))
theorem lk_reduce (hJ : zJ xs L m h s) (hi : i + 6 ≤ L) (hL : L ≤ 3072) (K : ∀ h2 s2, zJ xs L m h2 s2 → zGoP 20 tL_law 2010 [.ref 0, .ref 2, .ref 112, .int (nI i)] [] h2 r) : zGoP 20 tL_law 599 [.ref 0, .ref 2, .ref 112, .int (nI i)] [] h r := by
  have h0 := hJ.1
  refine zG_s rfl rfl ?_
  refine zG_s rfl rfl ?_
  refine zG_s rfl rfl ?_
  refine zG_s rfl rfl ?_
  refine zN_add rfl ?_
  refine zN_ald rfl h0 (by omega) (by omega) rfl ?_
  refine zG_s rfl rfl ?_
  refine zG_s rfl rfl ?_
  refine zG_s rfl rfl ?_
  refine zN_add rfl ?_
  refine zN_ald rfl h0 (by omega) (by omega) rfl ?_
  refine zG_s rfl rfl ?_
  refine zG_s rfl rfl ?_
  refine zG_s rfl rfl ?_
  refine zN_add rfl ?_
  refine zN_ald rfl h0 (by omega) (by omega) rfl ?_
  refine zG_s rfl rfl ?_
  refine zG_s rfl rfl ?_
  refine zG_s rfl rfl ?_
  refine zN_add rfl ?_
  refine zN_ald rfl h0 (by omega) (by omega) rfl ?_
  refine zG_cQV rfl rfl hJ.2.1.ob rfl rfl (co_reduce hJ.2.1 hJ.2.2.1) (fun h1 hB => ?_)
  obtain ⟨hF, hI1⟩ := hB
  obtain ⟨S, e1, hR, h01⟩ := zJ_a hJ hF
  rw [e1]
  refine zG_s rfl rfl ?_
  refine zG_s rfl rfl ?_
  refine zG_s rfl rfl ?_
  refine zG_s rfl rfl ?_
  refine zN_add rfl ?_
  refine zN_ald rfl h01 (by omega) (by omega) rfl ?_
  refine zG_s rfl rfl ?_
  refine zG_s rfl rfl ?_
  refine zG_s rfl rfl ?_
  refine zN_add rfl ?_
  refine zN_ald rfl h01 (by omega) (by omega) rfl ?_
  refine zG_s rfl rfl ?_
  refine zG_s rfl rfl ?_
  refine zG_s rfl rfl ?_
  refine zN_add rfl ?_
  refine zN_ald rfl h01 (by omega) (by omega) rfl ?_
  refine zG_s rfl rfl ?_
  refine zG_s rfl rfl ?_
  refine zG_s rfl rfl ?_
  refine zN_add rfl ?_
  refine zN_ald rfl h01 (by omega) (by omega) rfl ?_
  refine zG_cQV rfl rfl zRh_o rfl rfl (cr_reduce (by decide) hR hJ.2.2.1) (fun h2 hB => ?_)
  obtain ⟨S1, rfl, hR1⟩ := hB
  exact zN_if2 rfl (fun _ => K _ _ (zJ_b hJ hF e1 hI1 (w_reduce hJ.2.2.1) hR1)) (fun q => absurd q (by simp [zc2]))
theorem lk_ways (hJ : zJ xs L m h s) (hi : i + 6 ≤ L) (hL : L ≤ 3072) (K : ∀ h2 s2, zJ xs L m h2 s2 → zGoP 20 tL_law 2010 [.ref 0, .ref 2, .ref 112, .int (nI i)] [] h2 r) : zGoP 20 tL_law 652 [.ref 0, .ref 2, .ref 112, .int (nI i)] [] h r := by
  have h0 := hJ.1
  refine zG_s rfl rfl ?_
  refine zG_s rfl rfl ?_
  refine zG_s rfl rfl ?_
  refine zG_s rfl rfl ?_
  refine zN_add rfl ?_
  refine zN_ald rfl h0 (by omega) (by omega) rfl ?_
  refine zG_s rfl rfl ?_
  refine zG_s rfl rfl ?_
  refine zG_s rfl rfl ?_
  refine zN_add rfl ?_
  refine zN_ald rfl h0 (by omega) (by omega) rfl ?_
  refine zG_s rfl rfl ?_
  refine zG_s rfl rfl ?_
  refine zG_s rfl rfl ?_
  refine zN_add rfl ?_
  refine zN_ald rfl h0 (by omega) (by omega) rfl ?_
  refine zG_cQV rfl rfl hJ.2.1.ob rfl rfl (co_ways hJ.2.1 hJ.2.2.1) (fun h1 hB => ?_)
  obtain ⟨hF, hI1⟩ := hB
  obtain ⟨S, e1, hR, h01⟩ := zJ_a hJ hF
  rw [e1]
  refine zG_s rfl rfl ?_
  refine zG_s rfl rfl ?_
  refine zG_s rfl rfl ?_
  refine zG_s rfl rfl ?_
  refine zN_add rfl ?_
  refine zN_ald rfl h01 (by omega) (by omega) rfl ?_
  refine zG_s rfl rfl ?_
  refine zG_s rfl rfl ?_
  refine zG_s rfl rfl ?_
  refine zN_add rfl ?_
  refine zN_ald rfl h01 (by omega) (by omega) rfl ?_
  refine zG_s rfl rfl ?_
  refine zG_s rfl rfl ?_
  refine zG_s rfl rfl ?_
  refine zN_add rfl ?_
  refine zN_ald rfl h01 (by omega) (by omega) rfl ?_
  refine zG_cQV rfl rfl zRh_o rfl rfl (cr_ways (by decide) hR hJ.2.2.1) (fun h2 hB => ?_)
  obtain ⟨S1, rfl, hR1⟩ := hB
  exact zN_if2 rfl (fun _ => K _ _ (zJ_b hJ hF e1 hI1 (w_ways hJ.2.2.1) hR1)) (fun q => absurd q (by simp [zc2]))
theorem lk_retract (hJ : zJ xs L m h s) (hi : i + 6 ≤ L) (hL : L ≤ 3072) (K : ∀ h2 s2, zJ xs L m h2 s2 → zGoP 20 tL_law 2010 [.ref 0, .ref 2, .ref 112, .int (nI i)] [] h2 r) : zGoP 20 tL_law 695 [.ref 0, .ref 2, .ref 112, .int (nI i)] [] h r := by
  have h0 := hJ.1
  refine zG_s rfl rfl ?_
  refine zG_s rfl rfl ?_
  refine zG_s rfl rfl ?_
  refine zG_s rfl rfl ?_
  refine zN_add rfl ?_
  refine zN_ald rfl h0 (by omega) (by omega) rfl ?_
  refine zG_cQV rfl rfl hJ.2.1.ob rfl rfl (co_retract hJ.2.1 hJ.2.2.1) (fun h1 hB => ?_)
  obtain ⟨hF, hI1⟩ := hB
  obtain ⟨S, e1, hR, h01⟩ := zJ_a hJ hF
  rw [e1]
  refine zG_s rfl rfl ?_
  refine zG_s rfl rfl ?_
  refine zG_s rfl rfl ?_
  refine zG_s rfl rfl ?_
  refine zN_add rfl ?_
  refine zN_ald rfl h01 (by omega) (by omega) rfl ?_
  refine zG_cQV rfl rfl zRh_o rfl rfl (cr_retract (by decide) hR hJ.2.2.1) (fun h2 hB => ?_)
  obtain ⟨S1, rfl, hR1⟩ := hB
  exact zN_if2 rfl (fun _ => K _ _ (zJ_b hJ hF e1 hI1 (w_retract hJ.2.2.1) hR1)) (fun q => absurd q (by simp [zc2]))
theorem lk_homotopic (hJ : zJ xs L m h s) (hi : i + 6 ≤ L) (hL : L ≤ 3072) (K : ∀ h2 s2, zJ xs L m h2 s2 → zGoP 20 tL_law 2010 [.ref 0, .ref 2, .ref 112, .int (nI i)] [] h2 r) : zGoP 20 tL_law 718 [.ref 0, .ref 2, .ref 112, .int (nI i)] [] h r := by
  have h0 := hJ.1
  refine zG_s rfl rfl ?_
  refine zG_s rfl rfl ?_
  refine zG_s rfl rfl ?_
  refine zG_s rfl rfl ?_
  refine zN_add rfl ?_
  refine zN_ald rfl h0 (by omega) (by omega) rfl ?_
  refine zG_s rfl rfl ?_
  refine zG_s rfl rfl ?_
  refine zG_s rfl rfl ?_
  refine zN_add rfl ?_
  refine zN_ald rfl h0 (by omega) (by omega) rfl ?_
  refine zG_cQV rfl rfl hJ.2.1.ob rfl rfl (co_homotopic hJ.2.1 hJ.2.2.1) (fun h1 hB => ?_)
  obtain ⟨hF, hI1⟩ := hB
  obtain ⟨S, e1, hR, h01⟩ := zJ_a hJ hF
  rw [e1]
  refine zG_s rfl rfl ?_
  refine zG_s rfl rfl ?_
  refine zG_s rfl rfl ?_
  refine zG_s rfl rfl ?_
  refine zN_add rfl ?_
  refine zN_ald rfl h01 (by omega) (by omega) rfl ?_
  refine zG_s rfl rfl ?_
  refine zG_s rfl rfl ?_
  refine zG_s rfl rfl ?_
  refine zN_add rfl ?_
  refine zN_ald rfl h01 (by omega) (by omega) rfl ?_
  refine zG_cQV rfl rfl zRh_o rfl rfl (cr_homotopic (by decide) hR hJ.2.2.1) (fun h2 hB => ?_)
  obtain ⟨S1, rfl, hR1⟩ := hB
  exact zN_if2 rfl (fun _ => K _ _ (zJ_b hJ hF e1 hI1 (w_homotopic hJ.2.2.1) hR1)) (fun q => absurd q (by simp [zc2]))
theorem lk_same (hJ : zJ xs L m h s) (hi : i + 6 ≤ L) (hL : L ≤ 3072) (K : ∀ h2 s2, zJ xs L m h2 s2 → zGoP 20 tL_law 2010 [.ref 0, .ref 2, .ref 112, .int (nI i)] [] h2 r) : zGoP 20 tL_law 751 [.ref 0, .ref 2, .ref 112, .int (nI i)] [] h r := by
  have h0 := hJ.1
  refine zG_s rfl rfl ?_
  refine zG_s rfl rfl ?_
  refine zG_s rfl rfl ?_
  refine zG_s rfl rfl ?_
  refine zN_add rfl ?_
  refine zN_ald rfl h0 (by omega) (by omega) rfl ?_
  refine zG_s rfl rfl ?_
  refine zG_s rfl rfl ?_
  refine zG_s rfl rfl ?_
  refine zN_add rfl ?_
  refine zN_ald rfl h0 (by omega) (by omega) rfl ?_
  refine zG_s rfl rfl ?_
  refine zG_s rfl rfl ?_
  refine zG_s rfl rfl ?_
  refine zN_add rfl ?_
  refine zN_ald rfl h0 (by omega) (by omega) rfl ?_
  refine zG_cQV rfl rfl hJ.2.1.ob rfl rfl (co_same hJ.2.1 hJ.2.2.1) (fun h1 hB => ?_)
  obtain ⟨hF, hI1⟩ := hB
  obtain ⟨S, e1, hR, h01⟩ := zJ_a hJ hF
  rw [e1]
  refine zG_s rfl rfl ?_
  refine zG_s rfl rfl ?_
  refine zG_s rfl rfl ?_
  refine zG_s rfl rfl ?_
  refine zN_add rfl ?_
  refine zN_ald rfl h01 (by omega) (by omega) rfl ?_
  refine zG_s rfl rfl ?_
  refine zG_s rfl rfl ?_
  refine zG_s rfl rfl ?_
  refine zN_add rfl ?_
  refine zN_ald rfl h01 (by omega) (by omega) rfl ?_
  refine zG_s rfl rfl ?_
  refine zG_s rfl rfl ?_
  refine zG_s rfl rfl ?_
  refine zN_add rfl ?_
  refine zN_ald rfl h01 (by omega) (by omega) rfl ?_
  refine zG_cQV rfl rfl zRh_o rfl rfl (cr_same (by decide) hR hJ.2.2.1) (fun h2 hB => ?_)
  obtain ⟨S1, rfl, hR1⟩ := hB
  exact zN_if2 rfl (fun _ => K _ _ (zJ_b hJ hF e1 hI1 (w_same hJ.2.2.1) hR1)) (fun q => absurd q (by simp [zc2]))
theorem lk_form (hJ : zJ xs L m h s) (hi : i + 6 ≤ L) (hL : L ≤ 3072) (K : ∀ h2 s2, zJ xs L m h2 s2 → zGoP 20 tL_law 2010 [.ref 0, .ref 2, .ref 112, .int (nI i)] [] h2 r) : zGoP 20 tL_law 794 [.ref 0, .ref 2, .ref 112, .int (nI i)] [] h r := by
  have h0 := hJ.1
  refine zG_s rfl rfl ?_
  refine zG_s rfl rfl ?_
  refine zG_s rfl rfl ?_
  refine zG_s rfl rfl ?_
  refine zN_add rfl ?_
  refine zN_ald rfl h0 (by omega) (by omega) rfl ?_
  refine zG_cQV rfl rfl hJ.2.1.ob rfl rfl (co_form hJ.2.1 hJ.2.2.1) (fun h1 hB => ?_)
  obtain ⟨hF, hI1⟩ := hB
  obtain ⟨S, e1, hR, h01⟩ := zJ_a hJ hF
  rw [e1]
  refine zG_s rfl rfl ?_
  refine zG_s rfl rfl ?_
  refine zG_s rfl rfl ?_
  refine zG_s rfl rfl ?_
  refine zN_add rfl ?_
  refine zN_ald rfl h01 (by omega) (by omega) rfl ?_
  refine zG_cQV rfl rfl zRh_o rfl rfl (cr_form (by decide) hR hJ.2.2.1) (fun h2 hB => ?_)
  obtain ⟨S1, rfl, hR1⟩ := hB
  exact zN_if2 rfl (fun _ => K _ _ (zJ_b hJ hF e1 hI1 (w_form hJ.2.2.1) hR1)) (fun q => absurd q (by simp [zc2]))
theorem lk_byCode (hJ : zJ xs L m h s) (hi : i + 6 ≤ L) (hL : L ≤ 3072) (K : ∀ h2 s2, zJ xs L m h2 s2 → zGoP 20 tL_law 2010 [.ref 0, .ref 2, .ref 112, .int (nI i)] [] h2 r) : zGoP 20 tL_law 817 [.ref 0, .ref 2, .ref 112, .int (nI i)] [] h r := by
  have h0 := hJ.1
  refine zG_s rfl rfl ?_
  refine zG_s rfl rfl ?_
  refine zG_s rfl rfl ?_
  refine zG_s rfl rfl ?_
  refine zN_add rfl ?_
  refine zN_ald rfl h0 (by omega) (by omega) rfl ?_
  refine zG_s rfl rfl ?_
  refine zG_s rfl rfl ?_
  refine zG_s rfl rfl ?_
  refine zN_add rfl ?_
  refine zN_ald rfl h0 (by omega) (by omega) rfl ?_
  refine zG_s rfl rfl ?_
  refine zG_s rfl rfl ?_
  refine zG_s rfl rfl ?_
  refine zN_add rfl ?_
  refine zN_ald rfl h0 (by omega) (by omega) rfl ?_
  refine zG_cQV rfl rfl hJ.2.1.ob rfl rfl (co_byCode hJ.2.1 hJ.2.2.1) (fun h1 hB => ?_)
  obtain ⟨hF, hI1⟩ := hB
  obtain ⟨S, e1, hR, h01⟩ := zJ_a hJ hF
  rw [e1]
  refine zG_s rfl rfl ?_
  refine zG_s rfl rfl ?_
  refine zG_s rfl rfl ?_
  refine zG_s rfl rfl ?_
  refine zN_add rfl ?_
  refine zN_ald rfl h01 (by omega) (by omega) rfl ?_
  refine zG_s rfl rfl ?_
  refine zG_s rfl rfl ?_
  refine zG_s rfl rfl ?_
  refine zN_add rfl ?_
  refine zN_ald rfl h01 (by omega) (by omega) rfl ?_
  refine zG_s rfl rfl ?_
  refine zG_s rfl rfl ?_
  refine zG_s rfl rfl ?_
  refine zN_add rfl ?_
  refine zN_ald rfl h01 (by omega) (by omega) rfl ?_
  refine zG_cQV rfl rfl zRh_o rfl rfl (cr_byCode (by decide) hR hJ.2.2.1) (fun h2 hB => ?_)
  obtain ⟨S1, rfl, hR1⟩ := hB
  exact zN_if2 rfl (fun _ => K _ _ (zJ_b hJ hF e1 hI1 (w_byCode hJ.2.2.1) hR1)) (fun q => absurd q (by simp [zc2]))
theorem lk_list (hJ : zJ xs L m h s) (hi : i + 6 ≤ L) (hL : L ≤ 3072) (K : ∀ h2 s2, zJ xs L m h2 s2 → zGoP 20 tL_law 2010 [.ref 0, .ref 2, .ref 112, .int (nI i)] [] h2 r) : zGoP 20 tL_law 860 [.ref 0, .ref 2, .ref 112, .int (nI i)] [] h r := by
  have h0 := hJ.1
  refine zG_s rfl rfl ?_
  refine zG_s rfl rfl ?_
  refine zG_s rfl rfl ?_
  refine zG_s rfl rfl ?_
  refine zN_add rfl ?_
  refine zN_ald rfl h0 (by omega) (by omega) rfl ?_
  refine zG_s rfl rfl ?_
  refine zG_s rfl rfl ?_
  refine zG_s rfl rfl ?_
  refine zN_add rfl ?_
  refine zN_ald rfl h0 (by omega) (by omega) rfl ?_
  refine zG_cQV rfl rfl hJ.2.1.ob rfl rfl (co_list hJ.2.1 hJ.2.2.1) (fun h1 hB => ?_)
  obtain ⟨hF, hI1⟩ := hB
  obtain ⟨S, e1, hR, h01⟩ := zJ_a hJ hF
  rw [e1]
  refine zG_s rfl rfl ?_
  refine zG_s rfl rfl ?_
  refine zG_s rfl rfl ?_
  refine zG_s rfl rfl ?_
  refine zN_add rfl ?_
  refine zN_ald rfl h01 (by omega) (by omega) rfl ?_
  refine zG_s rfl rfl ?_
  refine zG_s rfl rfl ?_
  refine zG_s rfl rfl ?_
  refine zN_add rfl ?_
  refine zN_ald rfl h01 (by omega) (by omega) rfl ?_
  refine zG_cQV rfl rfl zRh_o rfl rfl (cr_list (by decide) hR hJ.2.2.1) (fun h2 hB => ?_)
  obtain ⟨S1, rfl, hR1⟩ := hB
  exact zN_if2 rfl (fun _ => K _ _ (zJ_b hJ hF e1 hI1 (w_list hJ.2.2.1) hR1)) (fun q => absurd q (by simp [zc2]))
theorem lk_listed (hJ : zJ xs L m h s) (hi : i + 6 ≤ L) (hL : L ≤ 3072) (K : ∀ h2 s2, zJ xs L m h2 s2 → zGoP 20 tL_law 2010 [.ref 0, .ref 2, .ref 112, .int (nI i)] [] h2 r) : zGoP 20 tL_law 893 [.ref 0, .ref 2, .ref 112, .int (nI i)] [] h r := by
  have h0 := hJ.1
  refine zG_s rfl rfl ?_
  refine zG_s rfl rfl ?_
  refine zG_s rfl rfl ?_
  refine zG_s rfl rfl ?_
  refine zN_add rfl ?_
  refine zN_ald rfl h0 (by omega) (by omega) rfl ?_
  refine zG_s rfl rfl ?_
  refine zG_s rfl rfl ?_
  refine zG_s rfl rfl ?_
  refine zN_add rfl ?_
  refine zN_ald rfl h0 (by omega) (by omega) rfl ?_
  refine zG_s rfl rfl ?_
  refine zG_s rfl rfl ?_
  refine zG_s rfl rfl ?_
  refine zN_add rfl ?_
  refine zN_ald rfl h0 (by omega) (by omega) rfl ?_
  refine zG_s rfl rfl ?_
  refine zG_s rfl rfl ?_
  refine zG_s rfl rfl ?_
  refine zN_add rfl ?_
  refine zN_ald rfl h0 (by omega) (by omega) rfl ?_
  refine zG_cQV rfl rfl hJ.2.1.ob rfl rfl (co_listed hJ.2.1 hJ.2.2.1) (fun h1 hB => ?_)
  obtain ⟨hF, hI1⟩ := hB
  obtain ⟨S, e1, hR, h01⟩ := zJ_a hJ hF
  rw [e1]
  refine zG_s rfl rfl ?_
  refine zG_s rfl rfl ?_
  refine zG_s rfl rfl ?_
  refine zG_s rfl rfl ?_
  refine zN_add rfl ?_
  refine zN_ald rfl h01 (by omega) (by omega) rfl ?_
  refine zG_s rfl rfl ?_
  refine zG_s rfl rfl ?_
  refine zG_s rfl rfl ?_
  refine zN_add rfl ?_
  refine zN_ald rfl h01 (by omega) (by omega) rfl ?_
  refine zG_s rfl rfl ?_
  refine zG_s rfl rfl ?_
  refine zG_s rfl rfl ?_
  refine zN_add rfl ?_
  refine zN_ald rfl h01 (by omega) (by omega) rfl ?_
  refine zG_s rfl rfl ?_
  refine zG_s rfl rfl ?_
  refine zG_s rfl rfl ?_
  refine zN_add rfl ?_
  refine zN_ald rfl h01 (by omega) (by omega) rfl ?_
  refine zG_cQV rfl rfl zRh_o rfl rfl (cr_listed (by decide) hR hJ.2.2.1) (fun h2 hB => ?_)
  obtain ⟨S1, rfl, hR1⟩ := hB
  exact zN_if2 rfl (fun _ => K _ _ (zJ_b hJ hF e1 hI1 (w_listed hJ.2.2.1) hR1)) (fun q => absurd q (by simp [zc2]))
theorem lk_tears (hJ : zJ xs L m h s) (hi : i + 6 ≤ L) (hL : L ≤ 3072) (K : ∀ h2 s2, zJ xs L m h2 s2 → zGoP 20 tL_law 2010 [.ref 0, .ref 2, .ref 112, .int (nI i)] [] h2 r) : zGoP 20 tL_law 946 [.ref 0, .ref 2, .ref 112, .int (nI i)] [] h r := by
  have h0 := hJ.1
  refine zG_s rfl rfl ?_
  refine zG_s rfl rfl ?_
  refine zG_s rfl rfl ?_
  refine zG_s rfl rfl ?_
  refine zN_add rfl ?_
  refine zN_ald rfl h0 (by omega) (by omega) rfl ?_
  refine zG_s rfl rfl ?_
  refine zG_s rfl rfl ?_
  refine zG_s rfl rfl ?_
  refine zN_add rfl ?_
  refine zN_ald rfl h0 (by omega) (by omega) rfl ?_
  refine zG_s rfl rfl ?_
  refine zG_s rfl rfl ?_
  refine zG_s rfl rfl ?_
  refine zN_add rfl ?_
  refine zN_ald rfl h0 (by omega) (by omega) rfl ?_
  refine zG_cQV rfl rfl hJ.2.1.ob rfl rfl (co_tears hJ.2.1 hJ.2.2.1) (fun h1 hB => ?_)
  obtain ⟨hF, hI1⟩ := hB
  obtain ⟨S, e1, hR, h01⟩ := zJ_a hJ hF
  rw [e1]
  refine zG_s rfl rfl ?_
  refine zG_s rfl rfl ?_
  refine zG_s rfl rfl ?_
  refine zG_s rfl rfl ?_
  refine zN_add rfl ?_
  refine zN_ald rfl h01 (by omega) (by omega) rfl ?_
  refine zG_s rfl rfl ?_
  refine zG_s rfl rfl ?_
  refine zG_s rfl rfl ?_
  refine zN_add rfl ?_
  refine zN_ald rfl h01 (by omega) (by omega) rfl ?_
  refine zG_s rfl rfl ?_
  refine zG_s rfl rfl ?_
  refine zG_s rfl rfl ?_
  refine zN_add rfl ?_
  refine zN_ald rfl h01 (by omega) (by omega) rfl ?_
  refine zG_cQV rfl rfl zRh_o rfl rfl (cr_tears (by decide) hR hJ.2.2.1) (fun h2 hB => ?_)
  obtain ⟨S1, rfl, hR1⟩ := hB
  exact zN_if2 rfl (fun _ => K _ _ (zJ_b hJ hF e1 hI1 (w_tears hJ.2.2.1) hR1)) (fun q => absurd q (by simp [zc2]))
theorem lk_maps (hJ : zJ xs L m h s) (hi : i + 6 ≤ L) (hL : L ≤ 3072) (K : ∀ h2 s2, zJ xs L m h2 s2 → zGoP 20 tL_law 2010 [.ref 0, .ref 2, .ref 112, .int (nI i)] [] h2 r) : zGoP 20 tL_law 989 [.ref 0, .ref 2, .ref 112, .int (nI i)] [] h r := by
  have h0 := hJ.1
  refine zG_s rfl rfl ?_
  refine zG_s rfl rfl ?_
  refine zG_s rfl rfl ?_
  refine zG_s rfl rfl ?_
  refine zN_add rfl ?_
  refine zN_ald rfl h0 (by omega) (by omega) rfl ?_
  refine zG_s rfl rfl ?_
  refine zG_s rfl rfl ?_
  refine zG_s rfl rfl ?_
  refine zN_add rfl ?_
  refine zN_ald rfl h0 (by omega) (by omega) rfl ?_
  refine zG_cQV rfl rfl hJ.2.1.ob rfl rfl (co_maps hJ.2.1 hJ.2.2.1) (fun h1 hB => ?_)
  obtain ⟨hF, hI1⟩ := hB
  obtain ⟨S, e1, hR, h01⟩ := zJ_a hJ hF
  rw [e1]
  refine zG_s rfl rfl ?_
  refine zG_s rfl rfl ?_
  refine zG_s rfl rfl ?_
  refine zG_s rfl rfl ?_
  refine zN_add rfl ?_
  refine zN_ald rfl h01 (by omega) (by omega) rfl ?_
  refine zG_s rfl rfl ?_
  refine zG_s rfl rfl ?_
  refine zG_s rfl rfl ?_
  refine zN_add rfl ?_
  refine zN_ald rfl h01 (by omega) (by omega) rfl ?_
  refine zG_cQV rfl rfl zRh_o rfl rfl (cr_maps (by decide) hR hJ.2.2.1) (fun h2 hB => ?_)
  obtain ⟨S1, rfl, hR1⟩ := hB
  exact zN_if2 rfl (fun _ => K _ _ (zJ_b hJ hF e1 hI1 (w_maps hJ.2.2.1) hR1)) (fun q => absurd q (by simp [zc2]))
theorem lk_fence (hJ : zJ xs L m h s) (hi : i + 6 ≤ L) (hL : L ≤ 3072) (K : ∀ h2 s2, zJ xs L m h2 s2 → zGoP 20 tL_law 2010 [.ref 0, .ref 2, .ref 112, .int (nI i)] [] h2 r) : zGoP 20 tL_law 1022 [.ref 0, .ref 2, .ref 112, .int (nI i)] [] h r := by
  have h0 := hJ.1
  refine zG_s rfl rfl ?_
  refine zG_s rfl rfl ?_
  refine zG_s rfl rfl ?_
  refine zG_s rfl rfl ?_
  refine zN_add rfl ?_
  refine zN_ald rfl h0 (by omega) (by omega) rfl ?_
  refine zG_s rfl rfl ?_
  refine zG_s rfl rfl ?_
  refine zG_s rfl rfl ?_
  refine zN_add rfl ?_
  refine zN_ald rfl h0 (by omega) (by omega) rfl ?_
  refine zG_s rfl rfl ?_
  refine zG_s rfl rfl ?_
  refine zG_s rfl rfl ?_
  refine zN_add rfl ?_
  refine zN_ald rfl h0 (by omega) (by omega) rfl ?_
  refine zG_s rfl rfl ?_
  refine zG_s rfl rfl ?_
  refine zG_s rfl rfl ?_
  refine zN_add rfl ?_
  refine zN_ald rfl h0 (by omega) (by omega) rfl ?_
  refine zG_cQV rfl rfl hJ.2.1.ob rfl rfl (co_fence hJ.2.1 hJ.2.2.1) (fun h1 hB => ?_)
  obtain ⟨hF, hI1⟩ := hB
  obtain ⟨S, e1, hR, h01⟩ := zJ_a hJ hF
  rw [e1]
  refine zG_s rfl rfl ?_
  refine zG_s rfl rfl ?_
  refine zG_s rfl rfl ?_
  refine zG_s rfl rfl ?_
  refine zN_add rfl ?_
  refine zN_ald rfl h01 (by omega) (by omega) rfl ?_
  refine zG_s rfl rfl ?_
  refine zG_s rfl rfl ?_
  refine zG_s rfl rfl ?_
  refine zN_add rfl ?_
  refine zN_ald rfl h01 (by omega) (by omega) rfl ?_
  refine zG_s rfl rfl ?_
  refine zG_s rfl rfl ?_
  refine zG_s rfl rfl ?_
  refine zN_add rfl ?_
  refine zN_ald rfl h01 (by omega) (by omega) rfl ?_
  refine zG_s rfl rfl ?_
  refine zG_s rfl rfl ?_
  refine zG_s rfl rfl ?_
  refine zN_add rfl ?_
  refine zN_ald rfl h01 (by omega) (by omega) rfl ?_
  refine zG_cQV rfl rfl zRh_o rfl rfl (cr_fence (by decide) hR hJ.2.2.1) (fun h2 hB => ?_)
  obtain ⟨S1, rfl, hR1⟩ := hB
  exact zN_if2 rfl (fun _ => K _ _ (zJ_b hJ hF e1 hI1 (w_fence hJ.2.2.1) hR1)) (fun q => absurd q (by simp [zc2]))
theorem lk_fixed (hJ : zJ xs L m h s) (hi : i + 6 ≤ L) (hL : L ≤ 3072) (K : ∀ h2 s2, zJ xs L m h2 s2 → zGoP 20 tL_law 2010 [.ref 0, .ref 2, .ref 112, .int (nI i)] [] h2 r) : zGoP 20 tL_law 1075 [.ref 0, .ref 2, .ref 112, .int (nI i)] [] h r := by
  have h0 := hJ.1
  refine zG_s rfl rfl ?_
  refine zG_s rfl rfl ?_
  refine zG_s rfl rfl ?_
  refine zG_s rfl rfl ?_
  refine zN_add rfl ?_
  refine zN_ald rfl h0 (by omega) (by omega) rfl ?_
  refine zG_s rfl rfl ?_
  refine zG_s rfl rfl ?_
  refine zG_s rfl rfl ?_
  refine zN_add rfl ?_
  refine zN_ald rfl h0 (by omega) (by omega) rfl ?_
  refine zG_cQV rfl rfl hJ.2.1.ob rfl rfl (co_fixed hJ.2.1 hJ.2.2.1) (fun h1 hB => ?_)
  obtain ⟨hF, hI1⟩ := hB
  obtain ⟨S, e1, hR, h01⟩ := zJ_a hJ hF
  rw [e1]
  refine zG_s rfl rfl ?_
  refine zG_s rfl rfl ?_
  refine zG_s rfl rfl ?_
  refine zG_s rfl rfl ?_
  refine zN_add rfl ?_
  refine zN_ald rfl h01 (by omega) (by omega) rfl ?_
  refine zG_s rfl rfl ?_
  refine zG_s rfl rfl ?_
  refine zG_s rfl rfl ?_
  refine zN_add rfl ?_
  refine zN_ald rfl h01 (by omega) (by omega) rfl ?_
  refine zG_cQV rfl rfl zRh_o rfl rfl (cr_fixed (by decide) hR hJ.2.2.1) (fun h2 hB => ?_)
  obtain ⟨S1, rfl, hR1⟩ := hB
  exact zN_if2 rfl (fun _ => K _ _ (zJ_b hJ hF e1 hI1 (w_fixed hJ.2.2.1) hR1)) (fun q => absurd q (by simp [zc2]))
theorem lk_chains (hJ : zJ xs L m h s) (hi : i + 6 ≤ L) (hL : L ≤ 3072) (K : ∀ h2 s2, zJ xs L m h2 s2 → zGoP 20 tL_law 2010 [.ref 0, .ref 2, .ref 112, .int (nI i)] [] h2 r) : zGoP 20 tL_law 1108 [.ref 0, .ref 2, .ref 112, .int (nI i)] [] h r := by
  have h0 := hJ.1
  refine zG_s rfl rfl ?_
  refine zG_s rfl rfl ?_
  refine zG_s rfl rfl ?_
  refine zG_s rfl rfl ?_
  refine zN_add rfl ?_
  refine zN_ald rfl h0 (by omega) (by omega) rfl ?_
  refine zG_s rfl rfl ?_
  refine zG_s rfl rfl ?_
  refine zG_s rfl rfl ?_
  refine zN_add rfl ?_
  refine zN_ald rfl h0 (by omega) (by omega) rfl ?_
  refine zG_cQV rfl rfl hJ.2.1.ob rfl rfl (co_chains hJ.2.1 hJ.2.2.1) (fun h1 hB => ?_)
  obtain ⟨hF, hI1⟩ := hB
  obtain ⟨S, e1, hR, h01⟩ := zJ_a hJ hF
  rw [e1]
  refine zG_s rfl rfl ?_
  refine zG_s rfl rfl ?_
  refine zG_s rfl rfl ?_
  refine zG_s rfl rfl ?_
  refine zN_add rfl ?_
  refine zN_ald rfl h01 (by omega) (by omega) rfl ?_
  refine zG_s rfl rfl ?_
  refine zG_s rfl rfl ?_
  refine zG_s rfl rfl ?_
  refine zN_add rfl ?_
  refine zN_ald rfl h01 (by omega) (by omega) rfl ?_
  refine zG_cQV rfl rfl zRh_o rfl rfl (cr_chains (by decide) hR hJ.2.2.1) (fun h2 hB => ?_)
  obtain ⟨S1, rfl, hR1⟩ := hB
  exact zN_if2 rfl (fun _ => K _ _ (zJ_b hJ hF e1 hI1 (w_chains hJ.2.2.1) hR1)) (fun q => absurd q (by simp [zc2]))
theorem lk_euler (hJ : zJ xs L m h s) (hi : i + 6 ≤ L) (hL : L ≤ 3072) (K : ∀ h2 s2, zJ xs L m h2 s2 → zGoP 20 tL_law 2010 [.ref 0, .ref 2, .ref 112, .int (nI i)] [] h2 r) : zGoP 20 tL_law 1141 [.ref 0, .ref 2, .ref 112, .int (nI i)] [] h r := by
  have h0 := hJ.1
  refine zG_s rfl rfl ?_
  refine zG_s rfl rfl ?_
  refine zG_s rfl rfl ?_
  refine zG_s rfl rfl ?_
  refine zN_add rfl ?_
  refine zN_ald rfl h0 (by omega) (by omega) rfl ?_
  refine zG_cQV rfl rfl hJ.2.1.ob rfl rfl (co_euler hJ.2.1 hJ.2.2.1) (fun h1 hB => ?_)
  obtain ⟨hF, hI1⟩ := hB
  obtain ⟨S, e1, hR, h01⟩ := zJ_a hJ hF
  rw [e1]
  refine zG_s rfl rfl ?_
  refine zG_s rfl rfl ?_
  refine zG_s rfl rfl ?_
  refine zG_s rfl rfl ?_
  refine zN_add rfl ?_
  refine zN_ald rfl h01 (by omega) (by omega) rfl ?_
  refine zG_cQV rfl rfl zRh_o rfl rfl (cr_euler (by decide) hR hJ.2.2.1) (fun h2 hB => ?_)
  obtain ⟨S1, rfl, hR1⟩ := hB
  exact zN_if2 rfl (fun _ => K _ _ (zJ_b hJ hF e1 hI1 (w_euler hJ.2.2.1) hR1)) (fun q => absurd q (by simp [zc2]))
theorem lk_holes (hJ : zJ xs L m h s) (hi : i + 6 ≤ L) (hL : L ≤ 3072) (K : ∀ h2 s2, zJ xs L m h2 s2 → zGoP 20 tL_law 2010 [.ref 0, .ref 2, .ref 112, .int (nI i)] [] h2 r) : zGoP 20 tL_law 1164 [.ref 0, .ref 2, .ref 112, .int (nI i)] [] h r := by
  have h0 := hJ.1
  refine zG_s rfl rfl ?_
  refine zG_s rfl rfl ?_
  refine zG_s rfl rfl ?_
  refine zG_s rfl rfl ?_
  refine zN_add rfl ?_
  refine zN_ald rfl h0 (by omega) (by omega) rfl ?_
  refine zG_s rfl rfl ?_
  refine zG_s rfl rfl ?_
  refine zG_s rfl rfl ?_
  refine zN_add rfl ?_
  refine zN_ald rfl h0 (by omega) (by omega) rfl ?_
  refine zG_cQV rfl rfl hJ.2.1.ob rfl rfl (co_holes hJ.2.1 hJ.2.2.1) (fun h1 hB => ?_)
  obtain ⟨hF, hI1⟩ := hB
  obtain ⟨S, e1, hR, h01⟩ := zJ_a hJ hF
  rw [e1]
  refine zG_s rfl rfl ?_
  refine zG_s rfl rfl ?_
  refine zG_s rfl rfl ?_
  refine zG_s rfl rfl ?_
  refine zN_add rfl ?_
  refine zN_ald rfl h01 (by omega) (by omega) rfl ?_
  refine zG_s rfl rfl ?_
  refine zG_s rfl rfl ?_
  refine zG_s rfl rfl ?_
  refine zN_add rfl ?_
  refine zN_ald rfl h01 (by omega) (by omega) rfl ?_
  refine zG_cQV rfl rfl zRh_o rfl rfl (cr_holes (by decide) hR hJ.2.2.1) (fun h2 hB => ?_)
  obtain ⟨S1, rfl, hR1⟩ := hB
  exact zN_if2 rfl (fun _ => K _ _ (zJ_b hJ hF e1 hI1 (w_holes hJ.2.2.1) hR1)) (fun q => absurd q (by simp [zc2]))
theorem lk_divide (hJ : zJ xs L m h s) (hi : i + 6 ≤ L) (hL : L ≤ 3072) (K : ∀ h2 s2, zJ xs L m h2 s2 → zGoP 20 tL_law 2010 [.ref 0, .ref 2, .ref 112, .int (nI i)] [] h2 r) : zGoP 20 tL_law 1197 [.ref 0, .ref 2, .ref 112, .int (nI i)] [] h r := by
  have h0 := hJ.1
  refine zG_s rfl rfl ?_
  refine zG_s rfl rfl ?_
  refine zG_s rfl rfl ?_
  refine zG_s rfl rfl ?_
  refine zN_add rfl ?_
  refine zN_ald rfl h0 (by omega) (by omega) rfl ?_
  refine zG_s rfl rfl ?_
  refine zG_s rfl rfl ?_
  refine zG_s rfl rfl ?_
  refine zN_add rfl ?_
  refine zN_ald rfl h0 (by omega) (by omega) rfl ?_
  refine zG_cQV rfl rfl hJ.2.1.ob rfl rfl (co_divide hJ.2.1 hJ.2.2.1) (fun h1 hB => ?_)
  obtain ⟨hF, hI1⟩ := hB
  obtain ⟨S, e1, hR, h01⟩ := zJ_a hJ hF
  rw [e1]
  refine zG_s rfl rfl ?_
  refine zG_s rfl rfl ?_
  refine zG_s rfl rfl ?_
  refine zG_s rfl rfl ?_
  refine zN_add rfl ?_
  refine zN_ald rfl h01 (by omega) (by omega) rfl ?_
  refine zG_s rfl rfl ?_
  refine zG_s rfl rfl ?_
  refine zG_s rfl rfl ?_
  refine zN_add rfl ?_
  refine zN_ald rfl h01 (by omega) (by omega) rfl ?_
  refine zG_cQV rfl rfl zRh_o rfl rfl (cr_divide (by decide) hR hJ.2.2.1) (fun h2 hB => ?_)
  obtain ⟨S1, rfl, hR1⟩ := hB
  exact zN_if2 rfl (fun _ => K _ _ (zJ_b hJ hF e1 hI1 (w_divide hJ.2.2.1) hR1)) (fun q => absurd q (by simp [zc2]))
theorem lk_faces (hJ : zJ xs L m h s) (hi : i + 6 ≤ L) (hL : L ≤ 3072) (K : ∀ h2 s2, zJ xs L m h2 s2 → zGoP 20 tL_law 2010 [.ref 0, .ref 2, .ref 112, .int (nI i)] [] h2 r) : zGoP 20 tL_law 1230 [.ref 0, .ref 2, .ref 112, .int (nI i)] [] h r := by
  have h0 := hJ.1
  refine zG_s rfl rfl ?_
  refine zG_s rfl rfl ?_
  refine zG_s rfl rfl ?_
  refine zG_s rfl rfl ?_
  refine zN_add rfl ?_
  refine zN_ald rfl h0 (by omega) (by omega) rfl ?_
  refine zG_s rfl rfl ?_
  refine zG_s rfl rfl ?_
  refine zG_s rfl rfl ?_
  refine zN_add rfl ?_
  refine zN_ald rfl h0 (by omega) (by omega) rfl ?_
  refine zG_s rfl rfl ?_
  refine zG_s rfl rfl ?_
  refine zG_s rfl rfl ?_
  refine zN_add rfl ?_
  refine zN_ald rfl h0 (by omega) (by omega) rfl ?_
  refine zG_s rfl rfl ?_
  refine zG_s rfl rfl ?_
  refine zG_s rfl rfl ?_
  refine zN_add rfl ?_
  refine zN_ald rfl h0 (by omega) (by omega) rfl ?_
  refine zG_cQV rfl rfl hJ.2.1.ob rfl rfl (co_faces hJ.2.1 hJ.2.2.1) (fun h1 hB => ?_)
  obtain ⟨hF, hI1⟩ := hB
  obtain ⟨S, e1, hR, h01⟩ := zJ_a hJ hF
  rw [e1]
  refine zG_s rfl rfl ?_
  refine zG_s rfl rfl ?_
  refine zG_s rfl rfl ?_
  refine zG_s rfl rfl ?_
  refine zN_add rfl ?_
  refine zN_ald rfl h01 (by omega) (by omega) rfl ?_
  refine zG_s rfl rfl ?_
  refine zG_s rfl rfl ?_
  refine zG_s rfl rfl ?_
  refine zN_add rfl ?_
  refine zN_ald rfl h01 (by omega) (by omega) rfl ?_
  refine zG_s rfl rfl ?_
  refine zG_s rfl rfl ?_
  refine zG_s rfl rfl ?_
  refine zN_add rfl ?_
  refine zN_ald rfl h01 (by omega) (by omega) rfl ?_
  refine zG_s rfl rfl ?_
  refine zG_s rfl rfl ?_
  refine zG_s rfl rfl ?_
  refine zN_add rfl ?_
  refine zN_ald rfl h01 (by omega) (by omega) rfl ?_
  refine zG_cQV rfl rfl zRh_o rfl rfl (cr_faces (by decide) hR hJ.2.2.1) (fun h2 hB => ?_)
  obtain ⟨S1, rfl, hR1⟩ := hB
  exact zN_if2 rfl (fun _ => K _ _ (zJ_b hJ hF e1 hI1 (w_faces hJ.2.2.1) hR1)) (fun q => absurd q (by simp [zc2]))
theorem lk_made (hJ : zJ xs L m h s) (hi : i + 6 ≤ L) (hL : L ≤ 3072) (K : ∀ h2 s2, zJ xs L m h2 s2 → zGoP 20 tL_law 2010 [.ref 0, .ref 2, .ref 112, .int (nI i)] [] h2 r) : zGoP 20 tL_law 1283 [.ref 0, .ref 2, .ref 112, .int (nI i)] [] h r := by
  have h0 := hJ.1
  refine zG_s rfl rfl ?_
  refine zG_s rfl rfl ?_
  refine zG_s rfl rfl ?_
  refine zG_s rfl rfl ?_
  refine zN_add rfl ?_
  refine zN_ald rfl h0 (by omega) (by omega) rfl ?_
  refine zG_s rfl rfl ?_
  refine zG_s rfl rfl ?_
  refine zG_s rfl rfl ?_
  refine zN_add rfl ?_
  refine zN_ald rfl h0 (by omega) (by omega) rfl ?_
  refine zG_s rfl rfl ?_
  refine zG_s rfl rfl ?_
  refine zG_s rfl rfl ?_
  refine zN_add rfl ?_
  refine zN_ald rfl h0 (by omega) (by omega) rfl ?_
  refine zG_s rfl rfl ?_
  refine zG_s rfl rfl ?_
  refine zG_s rfl rfl ?_
  refine zN_add rfl ?_
  refine zN_ald rfl h0 (by omega) (by omega) rfl ?_
  refine zG_cQV rfl rfl hJ.2.1.ob rfl rfl (co_made hJ.2.1 hJ.2.2.1) (fun h1 hB => ?_)
  obtain ⟨hF, hI1⟩ := hB
  obtain ⟨S, e1, hR, h01⟩ := zJ_a hJ hF
  rw [e1]
  refine zG_s rfl rfl ?_
  refine zG_s rfl rfl ?_
  refine zG_s rfl rfl ?_
  refine zG_s rfl rfl ?_
  refine zN_add rfl ?_
  refine zN_ald rfl h01 (by omega) (by omega) rfl ?_
  refine zG_s rfl rfl ?_
  refine zG_s rfl rfl ?_
  refine zG_s rfl rfl ?_
  refine zN_add rfl ?_
  refine zN_ald rfl h01 (by omega) (by omega) rfl ?_
  refine zG_s rfl rfl ?_
  refine zG_s rfl rfl ?_
  refine zG_s rfl rfl ?_
  refine zN_add rfl ?_
  refine zN_ald rfl h01 (by omega) (by omega) rfl ?_
  refine zG_s rfl rfl ?_
  refine zG_s rfl rfl ?_
  refine zG_s rfl rfl ?_
  refine zN_add rfl ?_
  refine zN_ald rfl h01 (by omega) (by omega) rfl ?_
  refine zG_cQV rfl rfl zRh_o rfl rfl (cr_made (by decide) hR hJ.2.2.1) (fun h2 hB => ?_)
  obtain ⟨S1, rfl, hR1⟩ := hB
  exact zN_if2 rfl (fun _ => K _ _ (zJ_b hJ hF e1 hI1 (w_made hJ.2.2.1) hR1)) (fun q => absurd q (by simp [zc2]))
theorem lk_part (hJ : zJ xs L m h s) (hi : i + 6 ≤ L) (hL : L ≤ 3072) (K : ∀ h2 s2, zJ xs L m h2 s2 → zGoP 20 tL_law 2010 [.ref 0, .ref 2, .ref 112, .int (nI i)] [] h2 r) : zGoP 20 tL_law 1336 [.ref 0, .ref 2, .ref 112, .int (nI i)] [] h r := by
  have h0 := hJ.1
  refine zG_s rfl rfl ?_
  refine zG_s rfl rfl ?_
  refine zG_s rfl rfl ?_
  refine zG_s rfl rfl ?_
  refine zN_add rfl ?_
  refine zN_ald rfl h0 (by omega) (by omega) rfl ?_
  refine zG_s rfl rfl ?_
  refine zG_s rfl rfl ?_
  refine zG_s rfl rfl ?_
  refine zN_add rfl ?_
  refine zN_ald rfl h0 (by omega) (by omega) rfl ?_
  refine zG_s rfl rfl ?_
  refine zG_s rfl rfl ?_
  refine zG_s rfl rfl ?_
  refine zN_add rfl ?_
  refine zN_ald rfl h0 (by omega) (by omega) rfl ?_
  refine zG_cQV rfl rfl hJ.2.1.ob rfl rfl (co_part hJ.2.1 hJ.2.2.1) (fun h1 hB => ?_)
  obtain ⟨hF, hI1⟩ := hB
  obtain ⟨S, e1, hR, h01⟩ := zJ_a hJ hF
  rw [e1]
  refine zG_s rfl rfl ?_
  refine zG_s rfl rfl ?_
  refine zG_s rfl rfl ?_
  refine zG_s rfl rfl ?_
  refine zN_add rfl ?_
  refine zN_ald rfl h01 (by omega) (by omega) rfl ?_
  refine zG_s rfl rfl ?_
  refine zG_s rfl rfl ?_
  refine zG_s rfl rfl ?_
  refine zN_add rfl ?_
  refine zN_ald rfl h01 (by omega) (by omega) rfl ?_
  refine zG_s rfl rfl ?_
  refine zG_s rfl rfl ?_
  refine zG_s rfl rfl ?_
  refine zN_add rfl ?_
  refine zN_ald rfl h01 (by omega) (by omega) rfl ?_
  refine zG_cQV rfl rfl zRh_o rfl rfl (cr_part (by decide) hR hJ.2.2.1) (fun h2 hB => ?_)
  obtain ⟨S1, rfl, hR1⟩ := hB
  exact zN_if2 rfl (fun _ => K _ _ (zJ_b hJ hF e1 hI1 (w_part hJ.2.2.1) hR1)) (fun q => absurd q (by simp [zc2]))
theorem lk_feed (hJ : zJ xs L m h s) (hi : i + 6 ≤ L) (hL : L ≤ 3072) (K : ∀ h2 s2, zJ xs L m h2 s2 → zGoP 20 tL_law 2010 [.ref 0, .ref 2, .ref 112, .int (nI i)] [] h2 r) : zGoP 20 tL_law 1379 [.ref 0, .ref 2, .ref 112, .int (nI i)] [] h r := by
  have h0 := hJ.1
  refine zG_s rfl rfl ?_
  refine zG_s rfl rfl ?_
  refine zG_s rfl rfl ?_
  refine zG_s rfl rfl ?_
  refine zN_add rfl ?_
  refine zN_ald rfl h0 (by omega) (by omega) rfl ?_
  refine zG_s rfl rfl ?_
  refine zG_s rfl rfl ?_
  refine zG_s rfl rfl ?_
  refine zG_s rfl rfl ?_
  refine zG_s rfl rfl ?_
  refine zG_s rfl rfl ?_
  refine zN_add rfl ?_
  refine zN_ald rfl h0 (by omega) (by omega) rfl ?_
  refine zG_s rfl rfl ?_
  refine zG_s rfl rfl ?_
  refine zG_s rfl rfl ?_
  refine zG_s rfl rfl ?_
  refine zG_s rfl rfl ?_
  refine zG_s rfl rfl ?_
  refine zG_s rfl rfl ?_
  refine zN_add rfl ?_
  refine zN_ald rfl h0 (by omega) (by omega) rfl ?_
  refine zG_cQV rfl rfl hJ.2.1.ob rfl rfl (co_feed hJ.2.1 hJ.2.2.1) (fun h1 hB => ?_)
  obtain ⟨hF, hI1⟩ := hB
  obtain ⟨S, e1, hR, h01⟩ := zJ_a hJ hF
  rw [e1]
  refine zG_s rfl rfl ?_
  refine zG_s rfl rfl ?_
  refine zG_s rfl rfl ?_
  refine zG_s rfl rfl ?_
  refine zN_add rfl ?_
  refine zN_ald rfl h01 (by omega) (by omega) rfl ?_
  refine zG_s rfl rfl ?_
  refine zG_s rfl rfl ?_
  refine zG_s rfl rfl ?_
  refine zG_s rfl rfl ?_
  refine zG_s rfl rfl ?_
  refine zG_s rfl rfl ?_
  refine zN_add rfl ?_
  refine zN_ald rfl h01 (by omega) (by omega) rfl ?_
  refine zG_s rfl rfl ?_
  refine zG_s rfl rfl ?_
  refine zG_s rfl rfl ?_
  refine zG_s rfl rfl ?_
  refine zG_s rfl rfl ?_
  refine zG_s rfl rfl ?_
  refine zG_s rfl rfl ?_
  refine zN_add rfl ?_
  refine zN_ald rfl h01 (by omega) (by omega) rfl ?_
  refine zG_cQV rfl rfl zRh_o rfl rfl (cr_feed (by decide) hR hJ.2.2.1) (fun h2 hB => ?_)
  obtain ⟨S1, rfl, hR1⟩ := hB
  exact zN_if2 rfl (fun _ => K _ _ (zJ_b hJ hF e1 hI1 (w_feed hJ.2.2.1) hR1)) (fun q => absurd q (by simp [zc2]))
theorem lk_space (hJ : zJ xs L m h s) (hi : i + 6 ≤ L) (hL : L ≤ 3072) (K : ∀ h2 s2, zJ xs L m h2 s2 → zGoP 20 tL_law 2010 [.ref 0, .ref 2, .ref 112, .int (nI i)] [] h2 r) : zGoP 20 tL_law 1442 [.ref 0, .ref 2, .ref 112, .int (nI i)] [] h r := by
  have h0 := hJ.1
  refine zG_s rfl rfl ?_
  refine zG_s rfl rfl ?_
  refine zG_s rfl rfl ?_
  refine zG_s rfl rfl ?_
  refine zN_add rfl ?_
  refine zN_ald rfl h0 (by omega) (by omega) rfl ?_
  refine zG_cQV rfl rfl hJ.2.1.ob rfl rfl (co_space hJ.2.1 hJ.2.2.1) (fun h1 hB => ?_)
  obtain ⟨hF, hI1⟩ := hB
  obtain ⟨S, e1, hR, h01⟩ := zJ_a hJ hF
  rw [e1]
  refine zG_s rfl rfl ?_
  refine zG_s rfl rfl ?_
  refine zG_s rfl rfl ?_
  refine zG_s rfl rfl ?_
  refine zN_add rfl ?_
  refine zN_ald rfl h01 (by omega) (by omega) rfl ?_
  refine zG_cQV rfl rfl zRh_o rfl rfl (cr_space (by decide) hR hJ.2.2.1) (fun h2 hB => ?_)
  obtain ⟨S1, rfl, hR1⟩ := hB
  exact zN_if2 rfl (fun _ => K _ _ (zJ_b hJ hF e1 hI1 (w_space hJ.2.2.1) hR1)) (fun q => absurd q (by simp [zc2]))
theorem lk_seed (hJ : zJ xs L m h s) (hi : i + 6 ≤ L) (hL : L ≤ 3072) (K : ∀ h2 s2, zJ xs L m h2 s2 → zGoP 20 tL_law 2010 [.ref 0, .ref 2, .ref 112, .int (nI i)] [] h2 r) : zGoP 20 tL_law 1465 [.ref 0, .ref 2, .ref 112, .int (nI i)] [] h r := by
  have h0 := hJ.1
  refine zG_s rfl rfl ?_
  refine zG_s rfl rfl ?_
  refine zG_s rfl rfl ?_
  refine zG_s rfl rfl ?_
  refine zN_add rfl ?_
  refine zN_ald rfl h0 (by omega) (by omega) rfl ?_
  refine zG_cQV rfl rfl hJ.2.1.ob rfl rfl (co_seed hJ.2.1 hJ.2.2.1) (fun h1 hB => ?_)
  obtain ⟨hF, hI1⟩ := hB
  obtain ⟨S, e1, hR, h01⟩ := zJ_a hJ hF
  rw [e1]
  refine zG_s rfl rfl ?_
  refine zG_s rfl rfl ?_
  refine zG_s rfl rfl ?_
  refine zG_s rfl rfl ?_
  refine zN_add rfl ?_
  refine zN_ald rfl h01 (by omega) (by omega) rfl ?_
  refine zG_cQV rfl rfl zRh_o rfl rfl (cr_seed (by decide) hR hJ.2.2.1) (fun h2 hB => ?_)
  obtain ⟨S1, rfl, hR1⟩ := hB
  exact zN_if2 rfl (fun _ => K _ _ (zJ_b hJ hF e1 hI1 (w_seed hJ.2.2.1) hR1)) (fun q => absurd q (by simp [zc2]))
theorem lk_draw (hJ : zJ xs L m h s) (hi : i + 6 ≤ L) (hL : L ≤ 3072) (K : ∀ h2 s2, zJ xs L m h2 s2 → zGoP 20 tL_law 2010 [.ref 0, .ref 2, .ref 112, .int (nI i)] [] h2 r) : zGoP 20 tL_law 1488 [.ref 0, .ref 2, .ref 112, .int (nI i)] [] h r := by
  have h0 := hJ.1
  refine zG_s rfl rfl ?_
  refine zG_s rfl rfl ?_
  refine zG_s rfl rfl ?_
  refine zG_s rfl rfl ?_
  refine zN_add rfl ?_
  refine zN_ald rfl h0 (by omega) (by omega) rfl ?_
  refine zG_s rfl rfl ?_
  refine zG_s rfl rfl ?_
  refine zG_s rfl rfl ?_
  refine zN_add rfl ?_
  refine zN_ald rfl h0 (by omega) (by omega) rfl ?_
  refine zG_s rfl rfl ?_
  refine zG_s rfl rfl ?_
  refine zG_s rfl rfl ?_
  refine zN_add rfl ?_
  refine zN_ald rfl h0 (by omega) (by omega) rfl ?_
  refine zG_cQV rfl rfl hJ.2.1.ob rfl rfl (co_draw hJ.2.1 hJ.2.2.1) (fun h1 hB => ?_)
  obtain ⟨hF, hI1⟩ := hB
  obtain ⟨S, e1, hR, h01⟩ := zJ_a hJ hF
  rw [e1]
  refine zG_s rfl rfl ?_
  refine zG_s rfl rfl ?_
  refine zG_s rfl rfl ?_
  refine zG_s rfl rfl ?_
  refine zN_add rfl ?_
  refine zN_ald rfl h01 (by omega) (by omega) rfl ?_
  refine zG_s rfl rfl ?_
  refine zG_s rfl rfl ?_
  refine zG_s rfl rfl ?_
  refine zN_add rfl ?_
  refine zN_ald rfl h01 (by omega) (by omega) rfl ?_
  refine zG_s rfl rfl ?_
  refine zG_s rfl rfl ?_
  refine zG_s rfl rfl ?_
  refine zN_add rfl ?_
  refine zN_ald rfl h01 (by omega) (by omega) rfl ?_
  refine zG_cQV rfl rfl zRh_o rfl rfl (cr_draw (by decide) hR hJ.2.2.1) (fun h2 hB => ?_)
  obtain ⟨S1, rfl, hR1⟩ := hB
  exact zN_if2 rfl (fun _ => K _ _ (zJ_b hJ hF e1 hI1 (w_draw hJ.2.2.1) hR1)) (fun q => absurd q (by simp [zc2]))
theorem lk_sheet (hJ : zJ xs L m h s) (hi : i + 6 ≤ L) (hL : L ≤ 3072) (K : ∀ h2 s2, zJ xs L m h2 s2 → zGoP 20 tL_law 2010 [.ref 0, .ref 2, .ref 112, .int (nI i)] [] h2 r) : zGoP 20 tL_law 1531 [.ref 0, .ref 2, .ref 112, .int (nI i)] [] h r := by
  have h0 := hJ.1
  refine zG_s rfl rfl ?_
  refine zG_s rfl rfl ?_
  refine zG_s rfl rfl ?_
  refine zG_s rfl rfl ?_
  refine zN_add rfl ?_
  refine zN_ald rfl h0 (by omega) (by omega) rfl ?_
  refine zG_s rfl rfl ?_
  refine zG_s rfl rfl ?_
  refine zG_s rfl rfl ?_
  refine zN_add rfl ?_
  refine zN_ald rfl h0 (by omega) (by omega) rfl ?_
  refine zG_s rfl rfl ?_
  refine zG_s rfl rfl ?_
  refine zG_s rfl rfl ?_
  refine zN_add rfl ?_
  refine zN_ald rfl h0 (by omega) (by omega) rfl ?_
  refine zG_cQV rfl rfl hJ.2.1.ob rfl rfl (co_sheet hJ.2.1 hJ.2.2.1) (fun h1 hB => ?_)
  obtain ⟨hF, hI1⟩ := hB
  obtain ⟨S, e1, hR, h01⟩ := zJ_a hJ hF
  rw [e1]
  refine zG_s rfl rfl ?_
  refine zG_s rfl rfl ?_
  refine zG_s rfl rfl ?_
  refine zG_s rfl rfl ?_
  refine zN_add rfl ?_
  refine zN_ald rfl h01 (by omega) (by omega) rfl ?_
  refine zG_s rfl rfl ?_
  refine zG_s rfl rfl ?_
  refine zG_s rfl rfl ?_
  refine zN_add rfl ?_
  refine zN_ald rfl h01 (by omega) (by omega) rfl ?_
  refine zG_s rfl rfl ?_
  refine zG_s rfl rfl ?_
  refine zG_s rfl rfl ?_
  refine zN_add rfl ?_
  refine zN_ald rfl h01 (by omega) (by omega) rfl ?_
  refine zG_cQV rfl rfl zRh_o rfl rfl (cr_sheet (by decide) hR hJ.2.2.1) (fun h2 hB => ?_)
  obtain ⟨S1, rfl, hR1⟩ := hB
  exact zN_if2 rfl (fun _ => K _ _ (zJ_b hJ hF e1 hI1 (w_sheet hJ.2.2.1) hR1)) (fun q => absurd q (by simp [zc2]))
theorem lk_put (hJ : zJ xs L m h s) (hi : i + 6 ≤ L) (hL : L ≤ 3072) (K : ∀ h2 s2, zJ xs L m h2 s2 → zGoP 20 tL_law 2010 [.ref 0, .ref 2, .ref 112, .int (nI i)] [] h2 r) : zGoP 20 tL_law 1574 [.ref 0, .ref 2, .ref 112, .int (nI i)] [] h r := by
  have h0 := hJ.1
  refine zG_s rfl rfl ?_
  refine zG_s rfl rfl ?_
  refine zG_s rfl rfl ?_
  refine zG_s rfl rfl ?_
  refine zN_add rfl ?_
  refine zN_ald rfl h0 (by omega) (by omega) rfl ?_
  refine zG_s rfl rfl ?_
  refine zG_s rfl rfl ?_
  refine zG_s rfl rfl ?_
  refine zN_add rfl ?_
  refine zN_ald rfl h0 (by omega) (by omega) rfl ?_
  refine zG_s rfl rfl ?_
  refine zG_s rfl rfl ?_
  refine zG_s rfl rfl ?_
  refine zN_add rfl ?_
  refine zN_ald rfl h0 (by omega) (by omega) rfl ?_
  refine zG_cQV rfl rfl hJ.2.1.ob rfl rfl (co_put hJ.2.1 hJ.2.2.1) (fun h1 hB => ?_)
  obtain ⟨hF, hI1⟩ := hB
  obtain ⟨S, e1, hR, h01⟩ := zJ_a hJ hF
  rw [e1]
  refine zG_s rfl rfl ?_
  refine zG_s rfl rfl ?_
  refine zG_s rfl rfl ?_
  refine zG_s rfl rfl ?_
  refine zN_add rfl ?_
  refine zN_ald rfl h01 (by omega) (by omega) rfl ?_
  refine zG_s rfl rfl ?_
  refine zG_s rfl rfl ?_
  refine zG_s rfl rfl ?_
  refine zN_add rfl ?_
  refine zN_ald rfl h01 (by omega) (by omega) rfl ?_
  refine zG_s rfl rfl ?_
  refine zG_s rfl rfl ?_
  refine zG_s rfl rfl ?_
  refine zN_add rfl ?_
  refine zN_ald rfl h01 (by omega) (by omega) rfl ?_
  refine zG_cQV rfl rfl zRh_o rfl rfl (cr_put (by decide) hR hJ.2.2.1) (fun h2 hB => ?_)
  obtain ⟨S1, rfl, hR1⟩ := hB
  exact zN_if2 rfl (fun _ => K _ _ (zJ_b hJ hF e1 hI1 (w_put hJ.2.2.1) hR1)) (fun q => absurd q (by simp [zc2]))
theorem lk_item (hJ : zJ xs L m h s) (hi : i + 6 ≤ L) (hL : L ≤ 3072) (K : ∀ h2 s2, zJ xs L m h2 s2 → zGoP 20 tL_law 2010 [.ref 0, .ref 2, .ref 112, .int (nI i)] [] h2 r) : zGoP 20 tL_law 1617 [.ref 0, .ref 2, .ref 112, .int (nI i)] [] h r := by
  have h0 := hJ.1
  refine zG_s rfl rfl ?_
  refine zG_s rfl rfl ?_
  refine zG_s rfl rfl ?_
  refine zG_s rfl rfl ?_
  refine zN_add rfl ?_
  refine zN_ald rfl h0 (by omega) (by omega) rfl ?_
  refine zG_s rfl rfl ?_
  refine zG_s rfl rfl ?_
  refine zG_s rfl rfl ?_
  refine zN_add rfl ?_
  refine zN_ald rfl h0 (by omega) (by omega) rfl ?_
  refine zG_s rfl rfl ?_
  refine zG_s rfl rfl ?_
  refine zG_s rfl rfl ?_
  refine zN_add rfl ?_
  refine zN_ald rfl h0 (by omega) (by omega) rfl ?_
  refine zG_cQV rfl rfl hJ.2.1.ob rfl rfl (co_item hJ.2.1 hJ.2.2.1) (fun h1 hB => ?_)
  obtain ⟨hF, hI1⟩ := hB
  obtain ⟨S, e1, hR, h01⟩ := zJ_a hJ hF
  rw [e1]
  refine zG_s rfl rfl ?_
  refine zG_s rfl rfl ?_
  refine zG_s rfl rfl ?_
  refine zG_s rfl rfl ?_
  refine zN_add rfl ?_
  refine zN_ald rfl h01 (by omega) (by omega) rfl ?_
  refine zG_s rfl rfl ?_
  refine zG_s rfl rfl ?_
  refine zG_s rfl rfl ?_
  refine zN_add rfl ?_
  refine zN_ald rfl h01 (by omega) (by omega) rfl ?_
  refine zG_s rfl rfl ?_
  refine zG_s rfl rfl ?_
  refine zG_s rfl rfl ?_
  refine zN_add rfl ?_
  refine zN_ald rfl h01 (by omega) (by omega) rfl ?_
  refine zG_cQV rfl rfl zRh_o rfl rfl (cr_item (by decide) hR hJ.2.2.1) (fun h2 hB => ?_)
  obtain ⟨S1, rfl, hR1⟩ := hB
  exact zN_if2 rfl (fun _ => K _ _ (zJ_b hJ hF e1 hI1 (w_item hJ.2.2.1) hR1)) (fun q => absurd q (by simp [zc2]))
theorem lk_copy (hJ : zJ xs L m h s) (hi : i + 6 ≤ L) (hL : L ≤ 3072) (K : ∀ h2 s2, zJ xs L m h2 s2 → zGoP 20 tL_law 2010 [.ref 0, .ref 2, .ref 112, .int (nI i)] [] h2 r) : zGoP 20 tL_law 1660 [.ref 0, .ref 2, .ref 112, .int (nI i)] [] h r := by
  have h0 := hJ.1
  refine zG_s rfl rfl ?_
  refine zG_s rfl rfl ?_
  refine zG_s rfl rfl ?_
  refine zG_s rfl rfl ?_
  refine zN_add rfl ?_
  refine zN_ald rfl h0 (by omega) (by omega) rfl ?_
  refine zG_s rfl rfl ?_
  refine zG_s rfl rfl ?_
  refine zG_s rfl rfl ?_
  refine zN_add rfl ?_
  refine zN_ald rfl h0 (by omega) (by omega) rfl ?_
  refine zG_s rfl rfl ?_
  refine zG_s rfl rfl ?_
  refine zG_s rfl rfl ?_
  refine zN_add rfl ?_
  refine zN_ald rfl h0 (by omega) (by omega) rfl ?_
  refine zG_s rfl rfl ?_
  refine zG_s rfl rfl ?_
  refine zG_s rfl rfl ?_
  refine zN_add rfl ?_
  refine zN_ald rfl h0 (by omega) (by omega) rfl ?_
  refine zG_s rfl rfl ?_
  refine zG_s rfl rfl ?_
  refine zG_s rfl rfl ?_
  refine zN_add rfl ?_
  refine zN_ald rfl h0 (by omega) (by omega) rfl ?_
  refine zG_cQV rfl rfl hJ.2.1.ob rfl rfl (co_copy hJ.2.1 hJ.2.2.1) (fun h1 hB => ?_)
  obtain ⟨hF, hI1⟩ := hB
  obtain ⟨S, e1, hR, h01⟩ := zJ_a hJ hF
  rw [e1]
  refine zG_s rfl rfl ?_
  refine zG_s rfl rfl ?_
  refine zG_s rfl rfl ?_
  refine zG_s rfl rfl ?_
  refine zN_add rfl ?_
  refine zN_ald rfl h01 (by omega) (by omega) rfl ?_
  refine zG_s rfl rfl ?_
  refine zG_s rfl rfl ?_
  refine zG_s rfl rfl ?_
  refine zN_add rfl ?_
  refine zN_ald rfl h01 (by omega) (by omega) rfl ?_
  refine zG_s rfl rfl ?_
  refine zG_s rfl rfl ?_
  refine zG_s rfl rfl ?_
  refine zN_add rfl ?_
  refine zN_ald rfl h01 (by omega) (by omega) rfl ?_
  refine zG_s rfl rfl ?_
  refine zG_s rfl rfl ?_
  refine zG_s rfl rfl ?_
  refine zN_add rfl ?_
  refine zN_ald rfl h01 (by omega) (by omega) rfl ?_
  refine zG_s rfl rfl ?_
  refine zG_s rfl rfl ?_
  refine zG_s rfl rfl ?_
  refine zN_add rfl ?_
  refine zN_ald rfl h01 (by omega) (by omega) rfl ?_
  refine zG_cQV rfl rfl zRh_o rfl rfl (cr_copy (by decide) hR hJ.2.2.1) (fun h2 hB => ?_)
  obtain ⟨S1, rfl, hR1⟩ := hB
  exact zN_if2 rfl (fun _ => K _ _ (zJ_b hJ hF e1 hI1 (w_copy hJ.2.2.1) hR1)) (fun q => absurd q (by simp [zc2]))
theorem lk_lay (hJ : zJ xs L m h s) (hi : i + 6 ≤ L) (hL : L ≤ 3072) (K : ∀ h2 s2, zJ xs L m h2 s2 → zGoP 20 tL_law 2010 [.ref 0, .ref 2, .ref 112, .int (nI i)] [] h2 r) : zGoP 20 tL_law 1723 [.ref 0, .ref 2, .ref 112, .int (nI i)] [] h r := by
  have h0 := hJ.1
  refine zG_s rfl rfl ?_
  refine zG_s rfl rfl ?_
  refine zG_s rfl rfl ?_
  refine zG_s rfl rfl ?_
  refine zN_add rfl ?_
  refine zN_ald rfl h0 (by omega) (by omega) rfl ?_
  refine zG_s rfl rfl ?_
  refine zG_s rfl rfl ?_
  refine zG_s rfl rfl ?_
  refine zN_add rfl ?_
  refine zN_ald rfl h0 (by omega) (by omega) rfl ?_
  refine zG_s rfl rfl ?_
  refine zG_s rfl rfl ?_
  refine zG_s rfl rfl ?_
  refine zN_add rfl ?_
  refine zN_ald rfl h0 (by omega) (by omega) rfl ?_
  refine zG_cQV rfl rfl hJ.2.1.ob rfl rfl (co_lay hJ.2.1 hJ.2.2.1) (fun h1 hB => ?_)
  obtain ⟨hF, hI1⟩ := hB
  obtain ⟨S, e1, hR, h01⟩ := zJ_a hJ hF
  rw [e1]
  refine zG_s rfl rfl ?_
  refine zG_s rfl rfl ?_
  refine zG_s rfl rfl ?_
  refine zG_s rfl rfl ?_
  refine zN_add rfl ?_
  refine zN_ald rfl h01 (by omega) (by omega) rfl ?_
  refine zG_s rfl rfl ?_
  refine zG_s rfl rfl ?_
  refine zG_s rfl rfl ?_
  refine zN_add rfl ?_
  refine zN_ald rfl h01 (by omega) (by omega) rfl ?_
  refine zG_s rfl rfl ?_
  refine zG_s rfl rfl ?_
  refine zG_s rfl rfl ?_
  refine zN_add rfl ?_
  refine zN_ald rfl h01 (by omega) (by omega) rfl ?_
  refine zG_cQV rfl rfl zRh_o rfl rfl (cr_lay (by decide) hR hJ.2.2.1) (fun h2 hB => ?_)
  obtain ⟨S1, rfl, hR1⟩ := hB
  exact zN_if2 rfl (fun _ => K _ _ (zJ_b hJ hF e1 hI1 (w_lay hJ.2.2.1) hR1)) (fun q => absurd q (by simp [zc2]))
theorem lk_take (hJ : zJ xs L m h s) (hi : i + 6 ≤ L) (hL : L ≤ 3072) (K : ∀ h2 s2, zJ xs L m h2 s2 → zGoP 20 tL_law 2010 [.ref 0, .ref 2, .ref 112, .int (nI i)] [] h2 r) : zGoP 20 tL_law 1766 [.ref 0, .ref 2, .ref 112, .int (nI i)] [] h r := by
  have h0 := hJ.1
  refine zG_s rfl rfl ?_
  refine zG_s rfl rfl ?_
  refine zG_s rfl rfl ?_
  refine zG_s rfl rfl ?_
  refine zN_add rfl ?_
  refine zN_ald rfl h0 (by omega) (by omega) rfl ?_
  refine zG_s rfl rfl ?_
  refine zG_s rfl rfl ?_
  refine zG_s rfl rfl ?_
  refine zN_add rfl ?_
  refine zN_ald rfl h0 (by omega) (by omega) rfl ?_
  refine zG_s rfl rfl ?_
  refine zG_s rfl rfl ?_
  refine zG_s rfl rfl ?_
  refine zN_add rfl ?_
  refine zN_ald rfl h0 (by omega) (by omega) rfl ?_
  refine zG_s rfl rfl ?_
  refine zG_s rfl rfl ?_
  refine zG_s rfl rfl ?_
  refine zN_add rfl ?_
  refine zN_ald rfl h0 (by omega) (by omega) rfl ?_
  refine zG_cQV rfl rfl hJ.2.1.ob rfl rfl (co_take hJ.2.1 hJ.2.2.1) (fun h1 hB => ?_)
  obtain ⟨hF, hI1⟩ := hB
  obtain ⟨S, e1, hR, h01⟩ := zJ_a hJ hF
  rw [e1]
  refine zG_s rfl rfl ?_
  refine zG_s rfl rfl ?_
  refine zG_s rfl rfl ?_
  refine zG_s rfl rfl ?_
  refine zN_add rfl ?_
  refine zN_ald rfl h01 (by omega) (by omega) rfl ?_
  refine zG_s rfl rfl ?_
  refine zG_s rfl rfl ?_
  refine zG_s rfl rfl ?_
  refine zN_add rfl ?_
  refine zN_ald rfl h01 (by omega) (by omega) rfl ?_
  refine zG_s rfl rfl ?_
  refine zG_s rfl rfl ?_
  refine zG_s rfl rfl ?_
  refine zN_add rfl ?_
  refine zN_ald rfl h01 (by omega) (by omega) rfl ?_
  refine zG_s rfl rfl ?_
  refine zG_s rfl rfl ?_
  refine zG_s rfl rfl ?_
  refine zN_add rfl ?_
  refine zN_ald rfl h01 (by omega) (by omega) rfl ?_
  refine zG_cQV rfl rfl zRh_o rfl rfl (cr_take (by decide) hR hJ.2.2.1) (fun h2 hB => ?_)
  obtain ⟨S1, rfl, hR1⟩ := hB
  exact zN_if2 rfl (fun _ => K _ _ (zJ_b hJ hF e1 hI1 (w_take hJ.2.2.1) hR1)) (fun q => absurd q (by simp [zc2]))
theorem lk_shelf (hJ : zJ xs L m h s) (hi : i + 6 ≤ L) (hL : L ≤ 3072) (K : ∀ h2 s2, zJ xs L m h2 s2 → zGoP 20 tL_law 2010 [.ref 0, .ref 2, .ref 112, .int (nI i)] [] h2 r) : zGoP 20 tL_law 1819 [.ref 0, .ref 2, .ref 112, .int (nI i)] [] h r := by
  have h0 := hJ.1
  refine zG_s rfl rfl ?_
  refine zG_s rfl rfl ?_
  refine zG_s rfl rfl ?_
  refine zG_s rfl rfl ?_
  refine zN_add rfl ?_
  refine zN_ald rfl h0 (by omega) (by omega) rfl ?_
  refine zG_s rfl rfl ?_
  refine zG_s rfl rfl ?_
  refine zG_s rfl rfl ?_
  refine zN_add rfl ?_
  refine zN_ald rfl h0 (by omega) (by omega) rfl ?_
  refine zG_s rfl rfl ?_
  refine zG_s rfl rfl ?_
  refine zG_s rfl rfl ?_
  refine zN_add rfl ?_
  refine zN_ald rfl h0 (by omega) (by omega) rfl ?_
  refine zG_cQV rfl rfl hJ.2.1.ob rfl rfl (co_shelf hJ.2.1 hJ.2.2.1) (fun h1 hB => ?_)
  obtain ⟨hF, hI1⟩ := hB
  obtain ⟨S, e1, hR, h01⟩ := zJ_a hJ hF
  rw [e1]
  refine zG_s rfl rfl ?_
  refine zG_s rfl rfl ?_
  refine zG_s rfl rfl ?_
  refine zG_s rfl rfl ?_
  refine zN_add rfl ?_
  refine zN_ald rfl h01 (by omega) (by omega) rfl ?_
  refine zG_s rfl rfl ?_
  refine zG_s rfl rfl ?_
  refine zG_s rfl rfl ?_
  refine zN_add rfl ?_
  refine zN_ald rfl h01 (by omega) (by omega) rfl ?_
  refine zG_s rfl rfl ?_
  refine zG_s rfl rfl ?_
  refine zG_s rfl rfl ?_
  refine zN_add rfl ?_
  refine zN_ald rfl h01 (by omega) (by omega) rfl ?_
  refine zG_cQV rfl rfl zRh_o rfl rfl (cr_shelf (by decide) hR hJ.2.2.1) (fun h2 hB => ?_)
  obtain ⟨S1, rfl, hR1⟩ := hB
  exact zN_if2 rfl (fun _ => K _ _ (zJ_b hJ hF e1 hI1 (w_shelf hJ.2.2.1) hR1)) (fun q => absurd q (by simp [zc2]))
theorem lk_taken (hJ : zJ xs L m h s) (hi : i + 6 ≤ L) (hL : L ≤ 3072) (K : ∀ h2 s2, zJ xs L m h2 s2 → zGoP 20 tL_law 2010 [.ref 0, .ref 2, .ref 112, .int (nI i)] [] h2 r) : zGoP 20 tL_law 1862 [.ref 0, .ref 2, .ref 112, .int (nI i)] [] h r := by
  have h0 := hJ.1
  refine zG_s rfl rfl ?_
  refine zG_s rfl rfl ?_
  refine zG_s rfl rfl ?_
  refine zG_s rfl rfl ?_
  refine zN_add rfl ?_
  refine zN_ald rfl h0 (by omega) (by omega) rfl ?_
  refine zG_s rfl rfl ?_
  refine zG_s rfl rfl ?_
  refine zG_s rfl rfl ?_
  refine zN_add rfl ?_
  refine zN_ald rfl h0 (by omega) (by omega) rfl ?_
  refine zG_cQV rfl rfl hJ.2.1.ob rfl rfl (co_taken hJ.2.1 hJ.2.2.1) (fun h1 hB => ?_)
  obtain ⟨hF, hI1⟩ := hB
  obtain ⟨S, e1, hR, h01⟩ := zJ_a hJ hF
  rw [e1]
  refine zG_s rfl rfl ?_
  refine zG_s rfl rfl ?_
  refine zG_s rfl rfl ?_
  refine zG_s rfl rfl ?_
  refine zN_add rfl ?_
  refine zN_ald rfl h01 (by omega) (by omega) rfl ?_
  refine zG_s rfl rfl ?_
  refine zG_s rfl rfl ?_
  refine zG_s rfl rfl ?_
  refine zN_add rfl ?_
  refine zN_ald rfl h01 (by omega) (by omega) rfl ?_
  refine zG_cQV rfl rfl zRh_o rfl rfl (cr_taken (by decide) hR hJ.2.2.1) (fun h2 hB => ?_)
  obtain ⟨S1, rfl, hR1⟩ := hB
  exact zN_if2 rfl (fun _ => K _ _ (zJ_b hJ hF e1 hI1 (w_taken hJ.2.2.1) hR1)) (fun q => absurd q (by simp [zc2]))
theorem lk_act (hJ : zJ xs L m h s) (hi : i + 6 ≤ L) (hL : L ≤ 3072) (K : ∀ h2 s2, zJ xs L m h2 s2 → zGoP 20 tL_law 2010 [.ref 0, .ref 2, .ref 112, .int (nI i)] [] h2 r) : zGoP 20 tL_law 1895 [.ref 0, .ref 2, .ref 112, .int (nI i)] [] h r := by
  have h0 := hJ.1
  refine zG_s rfl rfl ?_
  refine zG_s rfl rfl ?_
  refine zG_s rfl rfl ?_
  refine zG_s rfl rfl ?_
  refine zN_add rfl ?_
  refine zN_ald rfl h0 (by omega) (by omega) rfl ?_
  refine zG_s rfl rfl ?_
  refine zG_s rfl rfl ?_
  refine zG_s rfl rfl ?_
  refine zN_add rfl ?_
  refine zN_ald rfl h0 (by omega) (by omega) rfl ?_
  refine zG_s rfl rfl ?_
  refine zG_s rfl rfl ?_
  refine zG_s rfl rfl ?_
  refine zN_add rfl ?_
  refine zN_ald rfl h0 (by omega) (by omega) rfl ?_
  refine zG_cQV rfl rfl hJ.2.1.ob rfl rfl (co_act hJ.2.1 hJ.2.2.1) (fun h1 hB => ?_)
  obtain ⟨hF, hI1⟩ := hB
  obtain ⟨S, e1, hR, h01⟩ := zJ_a hJ hF
  rw [e1]
  refine zG_s rfl rfl ?_
  refine zG_s rfl rfl ?_
  refine zG_s rfl rfl ?_
  refine zG_s rfl rfl ?_
  refine zN_add rfl ?_
  refine zN_ald rfl h01 (by omega) (by omega) rfl ?_
  refine zG_s rfl rfl ?_
  refine zG_s rfl rfl ?_
  refine zG_s rfl rfl ?_
  refine zN_add rfl ?_
  refine zN_ald rfl h01 (by omega) (by omega) rfl ?_
  refine zG_s rfl rfl ?_
  refine zG_s rfl rfl ?_
  refine zG_s rfl rfl ?_
  refine zN_add rfl ?_
  refine zN_ald rfl h01 (by omega) (by omega) rfl ?_
  refine zG_cQV rfl rfl zRh_o rfl rfl (cr_act (by decide) hR hJ.2.2.1) (fun h2 hB => ?_)
  obtain ⟨S1, rfl, hR1⟩ := hB
  exact zN_if2 rfl (fun _ => K _ _ (zJ_b hJ hF e1 hI1 (w_act hJ.2.2.1) hR1)) (fun q => absurd q (by simp [zc2]))
theorem lk_trace (hJ : zJ xs L m h s) (hi : i + 6 ≤ L) (hL : L ≤ 3072) (K : ∀ h2 s2, zJ xs L m h2 s2 → zGoP 20 tL_law 2010 [.ref 0, .ref 2, .ref 112, .int (nI i)] [] h2 r) : zGoP 20 tL_law 1938 [.ref 0, .ref 2, .ref 112, .int (nI i)] [] h r := by
  have h0 := hJ.1
  refine zG_s rfl rfl ?_
  refine zG_s rfl rfl ?_
  refine zG_s rfl rfl ?_
  refine zG_s rfl rfl ?_
  refine zN_add rfl ?_
  refine zN_ald rfl h0 (by omega) (by omega) rfl ?_
  refine zG_cQV rfl rfl hJ.2.1.ob rfl rfl (co_trace hJ.2.1 hJ.2.2.1) (fun h1 hB => ?_)
  obtain ⟨hF, hI1⟩ := hB
  obtain ⟨S, e1, hR, h01⟩ := zJ_a hJ hF
  rw [e1]
  refine zG_s rfl rfl ?_
  refine zG_s rfl rfl ?_
  refine zG_s rfl rfl ?_
  refine zG_s rfl rfl ?_
  refine zN_add rfl ?_
  refine zN_ald rfl h01 (by omega) (by omega) rfl ?_
  refine zG_cQV rfl rfl zRh_o rfl rfl (cr_trace (by decide) hR hJ.2.2.1) (fun h2 hB => ?_)
  obtain ⟨S1, rfl, hR1⟩ := hB
  exact zN_if2 rfl (fun _ => K _ _ (zJ_b hJ hF e1 hI1 (w_trace hJ.2.2.1) hR1)) (fun q => absurd q (by simp [zc2]))
theorem lk_many (hJ : zJ xs L m h s) (hi : i + 6 ≤ L) (hL : L ≤ 3072) (K : ∀ h2 s2, zJ xs L m h2 s2 → zGoP 20 tL_law 2010 [.ref 0, .ref 2, .ref 112, .int (nI i)] [] h2 r) : zGoP 20 tL_law 1961 [.ref 0, .ref 2, .ref 112, .int (nI i)] [] h r := by
  have h0 := hJ.1
  refine zG_s rfl rfl ?_
  refine zG_s rfl rfl ?_
  refine zG_s rfl rfl ?_
  refine zG_s rfl rfl ?_
  refine zN_add rfl ?_
  refine zN_ald rfl h0 (by omega) (by omega) rfl ?_
  refine zG_cQV rfl rfl hJ.2.1.ob rfl rfl (co_many hJ.2.1 hJ.2.2.1) (fun h1 hB => ?_)
  obtain ⟨hF, hI1⟩ := hB
  obtain ⟨S, e1, hR, h01⟩ := zJ_a hJ hF
  rw [e1]
  refine zG_s rfl rfl ?_
  refine zG_s rfl rfl ?_
  refine zG_s rfl rfl ?_
  refine zG_s rfl rfl ?_
  refine zN_add rfl ?_
  refine zN_ald rfl h01 (by omega) (by omega) rfl ?_
  refine zG_cQV rfl rfl zRh_o rfl rfl (cr_many (by decide) hR hJ.2.2.1) (fun h2 hB => ?_)
  obtain ⟨S1, rfl, hR1⟩ := hB
  exact zN_if2 rfl (fun _ => K _ _ (zJ_b hJ hF e1 hI1 (w_many hJ.2.2.1) hR1)) (fun q => absurd q (by simp [zc2]))
theorem lk_keep (hJ : zJ xs L m h s) (hi : i + 6 ≤ L) (hL : L ≤ 3072) (K : ∀ h2 s2, zJ xs L m h2 s2 → zGoP 20 tL_law 2010 [.ref 0, .ref 2, .ref 112, .int (nI i)] [] h2 r) : zGoP 20 tL_law 1984 [.ref 0, .ref 2, .ref 112, .int (nI i)] [] h r := by
  have h0 := hJ.1
  refine zG_s rfl rfl ?_
  refine zG_cQV rfl rfl hJ.2.1.ob rfl rfl (co_keep hJ.2.1 hJ.2.2.1) (fun h1 hB => ?_)
  obtain ⟨hF, hI1⟩ := hB
  obtain ⟨S, e1, hR, h01⟩ := zJ_a hJ hF
  rw [e1]
  refine zG_s rfl rfl ?_
  refine zG_cQV rfl rfl zRh_o rfl rfl (cr_keep (by decide) hR hJ.2.2.1) (fun h2 hB => ?_)
  obtain ⟨S1, rfl, hR1⟩ := hB
  exact zN_if2 rfl (fun _ => K _ _ (zJ_b hJ hF e1 hI1 (w_keep hJ.2.2.1) hR1)) (fun q => absurd q (by simp [zc2]))
theorem lk_again (hJ : zJ xs L m h s) (hi : i + 6 ≤ L) (hL : L ≤ 3072) (K : ∀ h2 s2, zJ xs L m h2 s2 → zGoP 20 tL_law 2010 [.ref 0, .ref 2, .ref 112, .int (nI i)] [] h2 r) : zGoP 20 tL_law 1997 [.ref 0, .ref 2, .ref 112, .int (nI i)] [] h r := by
  have h0 := hJ.1
  refine zG_s rfl rfl ?_
  refine zG_cQV rfl rfl hJ.2.1.ob rfl rfl (co_again hJ.2.1 hJ.2.2.1) (fun h1 hB => ?_)
  obtain ⟨hF, hI1⟩ := hB
  obtain ⟨S, e1, hR, h01⟩ := zJ_a hJ hF
  rw [e1]
  refine zG_s rfl rfl ?_
  refine zG_cQV rfl rfl zRh_o rfl rfl (cr_again (by decide) hR hJ.2.2.1) (fun h2 hB => ?_)
  obtain ⟨S1, rfl, hR1⟩ := hB
  exact zN_if2 rfl (fun _ => K _ _ (zJ_b hJ hF e1 hI1 (w_again hJ.2.2.1) hR1)) (fun q => absurd q (by simp [zc2]))
end ZCASES
