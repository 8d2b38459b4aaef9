/-! told sets in their order -/
section ZTOLD
variable {C : Nat → Nat}
/-- taken before set s of those that count as k -/
def zTkn9 (C : Nat → Nat) (k s t : Nat) : Bool := decide (1 ≤ t) && (decide (1 ≤ C t ∧ C t < k) || (decide (C t = k) && decide (t < s)))
theorem zTkn9_ne {k s t : Nat} (h : t ≠ s ∨ C s ≠ k ∨ s = 0) : zTkn9 C k (s + 1) t = zTkn9 C k s t := by
  unfold zTkn9
  by_cases e : t = s
  · rw [e]
    rcases h with h | h | h
    · exact absurd e h
    · rw [decide_eq_false h]; rfl
    · rw [h]; rfl
  · rw [show decide (t < s + 1) = decide (t < s) from decide_eq_decide.mpr (by omega)]
theorem zTkn9_at {k s : Nat} (hk : 1 ≤ k) (h1 : 1 ≤ s) (h : C s = k) : zTkn9 C k s s = false ∧ zTkn9 C k (s + 1) s = true := by
  unfold zTkn9
  rw [h, decide_eq_true h1, decide_eq_false (show ¬ (1 ≤ k ∧ k < k) by omega), decide_eq_false (show ¬ s < s by omega), decide_eq_true (show s < s + 1 by omega), decide_eq_true (rfl : k = k)]
  exact ⟨rfl, rfl⟩
theorem zTkn9_tot {k s t : Nat} (hk : 1 ≤ k) (h : zTkn9 C k s t = true) : (decide (1 ≤ t) && decide (0 < C t)) = true := by
  unfold zTkn9 at h
  rw [Bool.and_eq_true, Bool.or_eq_true, Bool.and_eq_true, decide_eq_true_eq, decide_eq_true_eq, decide_eq_true_eq, decide_eq_true_eq] at h
  rw [Bool.and_eq_true, decide_eq_true_eq, decide_eq_true_eq]
  omega
theorem zFs_num {k n0 : Nat} {c0 : Nat → Nat} (hT : zTot C ≤ 8) (hk : 1 ≤ k) (h0 : n0 = zct (zTkn9 C k 0) 256) : ∀ s, s ≤ 256 → (zFs C k n0 c0 s).1 = zct (zTkn9 C k s) 256 ∧ (s < 256 → 1 ≤ s → C s = k → (zFs C k n0 c0 s).1 < 8)
  | 0, _ => ⟨h0, fun _ h => absurd h (by omega)⟩
  | s + 1, hs => by
    obtain ⟨h1, h2⟩ := zFs_num (c0 := c0) hT hk h0 s (by omega)
    have e : (zFs C k n0 c0 (s + 1)).1 = zct (zTkn9 C k (s + 1)) 256 := by
      rw [zFs]
      by_cases g : 1 ≤ s ∧ C s = k
      · have g8 := h2 (by omega) g.1 g.2
        rw [if_pos ⟨g.1, g.2, g8⟩]
        show (zFs C k n0 c0 s).1 + 1 = _
        obtain ⟨a1, a2⟩ := zTkn9_at hk g.1 g.2
        rw [zct_flip (show s < 256 by omega) (fun v _ hv => (zTkn9_ne (Or.inl hv)).symm) a1 a2, h1]
      · rw [if_neg (fun q => g ⟨q.1, q.2.1⟩), h1]
        exact zct_cong (fun t _ => (zTkn9_ne (by
          by_cases g1 : 1 ≤ s
          · exact Or.inr (Or.inl (fun q => g ⟨g1, q⟩))
          · exact Or.inr (Or.inr (by omega)))).symm)
    refine ⟨e, fun hs2 g1 g2 => ?_⟩
    rw [e]
    obtain ⟨a1, -⟩ := zTkn9_at hk g1 g2
    have := zct_lt (c := zTkn9 C k (s + 1)) (c' := fun t => decide (1 ≤ t) && decide (0 < C t)) hs2 (fun t _ ht => zTkn9_tot hk ht) a1 (by rw [decide_eq_true g1, decide_eq_true (show 0 < C (s + 1) by omega)]; rfl)
    unfold zTot at hT
    omega
theorem zFk_num (hT : zTot C ≤ 8) : ∀ k, (zFk C k).1 = zct (zTkn9 C (k + 1) 0) 256
  | 0 => by
    have : ∀ n, zct (zTkn9 C (0 + 1) 0) n = 0 := fun n => by
      induction n with
      | zero => rfl
      | succ n ih =>
        rw [zct_no, ih]
        unfold zTkn9
        rw [decide_eq_false (show ¬ (1 ≤ C n ∧ C n < 0 + 1) by omega), decide_eq_false (Nat.not_lt_zero n), Bool.and_false]
        simp
    exact (this 256).symm
  | k + 1 => by
    show (zFs C (k + 1) (zFk C k).1 (zFk C k).2 256).1 = _
    rw [(zFs_num hT (by omega) (zFk_num hT k) 256 (Nat.le_refl _)).1]
    refine zct_cong (fun t ht => ?_)
    unfold zTkn9
    rw [decide_eq_true ht, decide_eq_false (Nat.not_lt_zero t), Bool.and_true, Bool.and_false, Bool.or_false]
    congr 1
    by_cases g : C t = k + 1
    · rw [decide_eq_true g, Bool.or_true, decide_eq_true (show 1 ≤ C t ∧ C t < k + 1 + 1 by omega)]
    · rw [decide_eq_false g, Bool.or_false, decide_eq_decide]
      omega
theorem zFs_1 {k n0 : Nat} {c0 : Nat → Nat} : zFs C k n0 c0 1 = (n0, c0) := by
  rw [show (1 : Nat) = 0 + 1 from rfl, zFs, if_neg (fun g => absurd g.1 (by omega))]
  rfl
theorem zFs_y {k n0 s : Nat} {c0 : Nat → Nat} (h : 1 ≤ s ∧ C s = k ∧ (zFs C k n0 c0 s).1 < 8) : zFs C k n0 c0 (s + 1) = ((zFs C k n0 c0 s).1 + 1, zupd (zFs C k n0 c0 s).2 (zFs C k n0 c0 s).1 s) := if_pos h
theorem zFs_n {k n0 s : Nat} {c0 : Nat → Nat} (h : C s ≠ k) : zFs C k n0 c0 (s + 1) = zFs C k n0 c0 s := if_neg (fun g => h g.2.1)
end ZTOLD
/-- row x of sets, half made -/
def zSubP (c : Nat → Nat) (x y : Nat) : Nat := 1 <<< x ||| zbits (fun y => decide (zan (c y) (c x) = 0)) y
theorem zSubP_n {n x : Nat} {c : Nat → Nat} (hx : x < n) : zSubP c x n = zSubL n c x := zext (fun i => by
  unfold zSubP zSubL
  rw [Nat.testBit_or, z1bit]
  by_cases e : i = x
  · rw [e, zbits_bit, decide_eq_true hx, decide_eq_true (show zan (c x) (c x) = 0 from zan_0.mpr (fun _ h => h))]; simp
  · rw [decide_eq_false e, Bool.false_or])
theorem zSubP_lt {x y : Nat} {c : Nat → Nat} (hx : x < 8) (hy : y ≤ 8) : zSubP c x y < 256 := zor_lt8 (zsh1_lt hx) (zbits_lt8 _ hy)
