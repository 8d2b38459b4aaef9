/-! chains: what their rows need -/
theorem zCS.ca {h : zH} {o : Nat} {C : Nat → Nat} (hC : zCS h o C) : zCa h o := by
  obtain ⟨ct, pl, bs, ch, hC, -⟩ := hC
  exact ⟨ct, pl, bs, ch, hC⟩
theorem zChn_sub {n : Nat} {lo hi : Nat → Nat} {s t : Nat} (h : zChn n lo hi s = true) (ht : ∀ i, t.testBit i = true → s.testBit i = true) : zChn n lo hi t = true := by
  unfold zChn at h ⊢
  rw [Bool.and_eq_true, decide_eq_true_eq] at h ⊢
  refine ⟨zan_0.mpr (fun i hi => zan_0.mp h.1 i (ht i hi)), zAl_iff.mpr (fun x hx => ?_)⟩
  have h2 := zAl_iff.mp h.2 x hx
  unfold zIc at h2 ⊢
  rw [Bool.or_eq_true, decide_eq_true_eq] at h2 ⊢
  rcases h2 with h2 | h2
  · left
    cases e : t.testBit x with
    | false => rfl
    | true => rw [ht x e] at h2; cases h2
  · exact Or.inr (zan_0.mpr (fun i hi => zan_0.mp h2 i (ht i hi)))
theorem zcnt_0 : ∀ s, s < 256 → (zcnt s = 0 ↔ s = 0) := by decide +kernel
theorem zCc_clo {n : Nat} {lo hi : Nat → Nat} {k : Nat} (hk : 1 ≤ k) : zClo (zCc n lo hi) k := by
  intro s hs hC x hx
  have hch : zChn n lo hi s = true := by
    unfold zCc at hC
    split at hC
    · assumption
    · omega
  have hcn : zcnt s = k + 1 := by
    unfold zCc at hC
    rw [if_pos hch] at hC
    exact hC
  have hx8 := zbit_lt8 hs hx
  obtain ⟨h1, h2, h3⟩ := zcnt_more s hs x hx8 hx
  have h4 : zChn n lo hi (zan s (1 <<< x)) = true := zChn_sub hch (fun i hi => by
    rw [zan_bit, Bool.and_eq_true] at hi
    exact hi.1)
  refine ⟨hx8, ?_, by omega, ?_⟩
  · rcases Nat.eq_zero_or_pos (zan s (1 <<< x)) with e | e
    · rw [e] at h1
      have : zcnt 0 = 0 := by decide
      omega
    · exact e
  · unfold zCc
    rw [if_pos h4, h1, hcn]
    omega
theorem zcn35 : ∀ k, k < 10 → zct (fun s => decide (s < 128) && decide (zcnt s = k)) 256 ≤ 35 := by decide +kernel
theorem zCc_num {n : Nat} {lo hi : Nat → Nat} {k : Nat} (hn : n ≤ 7) (hk : 1 ≤ k) (hk9 : k < 10) : zNum (zCc n lo hi) k ≤ 63 := by
  have h1 : zNum (zCc n lo hi) k ≤ zct (fun s => decide (s < 128) && decide (zcnt s = k)) 256 := zct_mono (fun s hs h => by
    rw [Bool.and_eq_true, decide_eq_true_eq, decide_eq_true_eq] at h ⊢
    have hch : zChn n lo hi s = true := by
      have := h.2
      unfold zCc at this
      split at this
      · assumption
      · omega
    refine ⟨?_, ?_⟩
    · unfold zChn at hch
      rw [Bool.and_eq_true, decide_eq_true_eq] at hch
      have h2 : s < 1 <<< 7 := zlt_of_bits (fun i hi => by
        have := zan_0.mp hch.1 i hi
        unfold zFst at this
        rw [zbits_bit, Bool.and_eq_true, decide_eq_true_eq] at this
        omega)
      exact h2
    · have := h.2
      unfold zCc at this
      rw [if_pos hch] at this
      exact this)
  have := zcn35 k hk9
  omega
/-- ranks, of nothing too -/
theorem zRkC_0 (C : Nat → Nat) : zRkC C 0 = 0 := rfl
theorem zRkC_p {C : Nat → Nat} {k : Nat} (h : 1 ≤ k) : zRkC C k = (zRk C k 256).1 := if_neg (by omega)
theorem zFcC_le {F : Nat → Nat} {n s : Nat} : zFcC F n s ≤ 8 := by
  unfold zFcC
  split
  · exact zcnt_le s
  · omega
def zMd (w m m2 : Nat) : Nat := if w = 1 ∨ w = 2 then m + m2 else if w = 3 then m * m2 else if w = 4 then m + 1 else if w = 5 then m + 2 else m
/-- what is made of one space, or of two -/
def zMk (w : Nat) (n : Nat) (lo : Nat → Nat) (n2 : Nat) (lo2 : Nat → Nat) : Nat × (Nat → Nat) :=
  if w = 0 then (n, zTr n lo) else if w = 1 then (n + n2, zSumL n lo lo2 (if false then 1 <<< n - 1 else 0)) else if w = 2 then (n + n2, zSumL n lo lo2 (if true then 1 <<< n - 1 else 0))
  else if w = 3 then (n * n2, zProL n n2 lo lo2) else if w = 4 then (n + 1, zTopL n lo) else if w = 5 then (n + 2, zTopL n lo) else (zPos (zFst n lo (zTr n lo)) n, zPl lo (zFst n lo (zTr n lo)))
def zMade (s : zST) (w i k j : Nat) : Int32 × zST := if 8 < zMd w (s.1 i).1 (s.1 k).1 then (-2, s) else (nI (zMk w (s.1 i).1 (s.1 i).2 (s.1 k).1 (s.1 k).2).1, zsSp s j (zMk w (s.1 i).1 (s.1 i).2 (s.1 k).1 (s.1 k).2).1 (zMk w (s.1 i).1 (s.1 i).2 (s.1 k).1 (s.1 k).2).2)
def zo_made (s : zST) (a b c e : Int32) : Int32 × zST := zb s (zn a 7) fun w => zb s (zn b 6) fun i => zb s (zn e 6) fun j => if 1 ≤ w ∧ w ≤ 3 then zb s (zn c 6) fun k => zMade s w i k j else zMade s w i i j
def zo_part (s : zST) (a b c : Int32) : Int32 × zST := zb s (zn a 6) fun i => zb s (zn b (1 <<< (s.1 i).1)) fun p => zb s (zn c 6) fun j => (nI (zPos p (s.1 i).1), zsSp s j (zPos p (s.1 i).1) (zPl (s.1 i).2 p))
theorem zFst_lt {n : Nat} {lo hi : Nat → Nat} : zFst n lo hi < 1 <<< n := zlt_of_bits (fun i hi => by
  unfold zFst at hi
  rw [zbits_bit, Bool.and_eq_true, decide_eq_true_eq] at hi
  exact hi.1)
theorem zPre.mk {w n n2 : Nat} {lo lo2 : Nat → Nat} (h1 : zPre n lo) (h2 : zPre n2 lo2) (hm : zMd w n n2 ≤ 8) : zPre (zMk w n lo n2 lo2).1 (zMk w n lo n2 lo2).2 := by
  unfold zMd at hm
  unfold zMk
  by_cases e0 : w = 0
  · rw [if_pos e0]; exact h1.tr
  · rw [if_neg e0]
    by_cases e1 : w = 1
    · rw [if_pos e1]; rw [if_pos (Or.inl e1)] at hm; exact h1.sum (jn := false) h2 hm
    · rw [if_neg e1]
      by_cases e2 : w = 2
      · rw [if_pos e2]; rw [if_pos (Or.inr e2)] at hm; exact h1.sum (jn := true) h2 hm
      · rw [if_neg e2]
        rw [if_neg (by omega)] at hm
        by_cases e3 : w = 3
        · rw [if_pos e3] at hm ⊢; exact h1.prod h2 hm
        · rw [if_neg e3] at hm ⊢
          by_cases e4 : w = 4
          · rw [if_pos e4] at hm ⊢; exact h1.top hm
          · rw [if_neg e4] at hm ⊢
            by_cases e5 : w = 5
            · rw [if_pos e5] at hm ⊢; exact h1.top hm
            · rw [if_neg e5]; exact h1.part zFst_lt
