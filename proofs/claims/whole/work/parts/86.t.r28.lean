theorem zcut1 (w : Int32) : w.toInt64 &&& 65535 = ((w.toUInt32 % 65536).toInt32).toInt64 := by
  apply Int64.toBitVec_inj.mp
  apply BitVec.eq_of_getLsbD_eq
  intro i hi
  have e : (w.toUInt32 % 65536).toInt32.toBitVec = w.toBitVec &&& 65535 := by
    apply BitVec.eq_of_toNat_eq
    show w.toBitVec.toNat % 65536 = (w.toBitVec &&& 65535).toNat
    rw [BitVec.toNat_and]
    exact (Nat.and_two_pow_sub_one_eq_mod w.toBitVec.toNat 16).symm
  have h1 : ((w.toUInt32 % 65536).toInt32).toInt64.toBitVec = (w.toBitVec &&& 65535).signExtend 64 := by rw [← e]; rfl
  have h2 : (w.toInt64 &&& 65535).toBitVec = w.toBitVec.signExtend 64 &&& 65535 := rfl
  rw [h1, h2, BitVec.getLsbD_and, BitVec.getLsbD_signExtend, BitVec.getLsbD_signExtend]
  have key : ∀ i, i < 64 → (65535 : BitVec 64).getLsbD i = decide (i < 16) := by decide +kernel
  have key2 : ∀ i, i < 32 → (65535 : BitVec 32).getLsbD i = decide (i < 16) := by decide +kernel
  rw [key i hi]
  by_cases h : i < 16
  · rw [if_pos (by omega), if_pos (by omega), BitVec.getLsbD_and, key2 i (by omega), decide_eq_true h, Bool.and_true, Bool.and_true]
  · rw [decide_eq_false h, Bool.and_false]
    by_cases h32 : i < 32
    · rw [if_pos h32, BitVec.getLsbD_and, key2 i h32, decide_eq_false h, Bool.and_false, Bool.and_false]
    · rw [if_neg h32, BitVec.msb_and, show (65535 : BitVec 32).msb = false by decide, Bool.and_false, Bool.and_false]
theorem zti (w : Int32) : w.toInt64.toInt32 = w := by simp
/-- cut -/
theorem cr_cut0 {d : Nat} {h : zH} {w : Int32} : zCall (d + 1) 269 [.int (nI 0), .long w.toInt64] h (some (.long (zNar 1 w).toInt64), h) := by
  refine zG_m (t := tX10_cut) (ls0 := [.int (nI 0), .long w.toInt64, .null]) rfl rfl (zdnI (zdnL zdn0)) rfl ?_
  refine zG_s rfl rfl ?_
  refine zN_ne0 rfl (by omega) (fun c => absurd c (by omega)) (fun _ => ?_)
  refine zG_s rfl rfl ?_
  refine zG_s (st' := [.int w]) rfl (by rw [show (.int w : Value) = .int (w.toInt64.toInt32) from by rw [zti]]; rfl) ?_
  refine zG_s rfl rfl ?_
  refine zG_s rfl rfl ?_
  refine zG_s rfl rfl ?_
  -- leaf 1
  exact zG_ret rfl rfl rfl
theorem cr_cut1 {d : Nat} {h : zH} {w : Int32} : zCall (d + 1) 269 [.int (nI 1), .long w.toInt64] h (some (.long (zNar 2 w).toInt64), h) := by
  refine zG_m (t := tX10_cut) (ls0 := [.int (nI 1), .long w.toInt64, .null]) rfl rfl (zdnI (zdnL zdn0)) rfl ?_
  refine zG_s rfl rfl ?_
  refine zN_ne0 rfl (by omega) (fun _ => ?_) (fun c => absurd c (by omega))
  refine zG_s rfl rfl ?_
  refine zG_s rfl rfl ?_
  refine zN_ine rfl (by omega) (by omega) (fun c => absurd rfl c) (fun _ => ?_)
  refine zG_s rfl rfl ?_
  refine zG_s rfl rfl ?_
  refine zG_s (st' := [.long (zNar 2 w).toInt64]) rfl (by rw [show (zNar 2 w).toInt64 = w.toInt64 &&& 65535 from (zcut1 w).symm]; rfl) ?_
  refine zG_s rfl rfl ?_
  -- leaf 1
  exact zG_ret rfl rfl rfl
theorem cr_cut2 {d k : Nat} {h : zH} {w : Int32} (hk : 2 ≤ k) (hk2 : k < 2 ^ 31) : zCall (d + 1) 269 [.int (nI k), .long w.toInt64] h (some (.long w.toInt64), h) := by
  refine zG_m (t := tX10_cut) (ls0 := [.int (nI k), .long w.toInt64, .null]) rfl rfl (zdnI (zdnL zdn0)) rfl ?_
  refine zG_s rfl rfl ?_
  refine zN_ne0 rfl (by omega) (fun _ => ?_) (fun c => absurd c (by omega))
  refine zG_s rfl rfl ?_
  refine zG_s rfl rfl ?_
  refine zN_ine rfl (by omega) (by omega) (fun _ => ?_) (fun c => absurd c (by omega))
  refine zG_s rfl rfl ?_
  -- leaf 1
  exact zG_ret rfl rfl rfl
/-- what is put, by the sort (and 1) of the sheet -/
theorem cr_cut {d st : Nat} {h : zH} {w : Int32} (h1 : 0 < st) (h3 : st ≤ 3) : zCall (d + 1) 269 [.int (zbv st), .long w.toInt64] h (some (.long (zNar st w).toInt64), h) := by
  rcases (by omega : st = 1 ∨ st = 2 ∨ st = 3) with rfl | rfl | rfl
  · exact cr_cut0
  · exact cr_cut1
  · exact cr_cut2 (k := 2) (by omega) (by omega)
