/-! the class' Sets -/
def zcS (o : Nat) : Nat → Prop := fun j => o ≤ j ∧ j ≤ o + 4
theorem zcS_in {o k : Nat} (h : k ≤ 4) : zcS o (o + k) := ⟨by omega, by omega⟩
def zC0 (h : zH) (o : Nat) (ct pl : Nat → Int32) (bs : Nat → Int64) (ch : Nat → Int32) : Prop :=
  h.2.2 o = .inr (5, [.ref (o + 1), .ref (o + 2), .ref (o + 3), .ref (o + 4)]) ∧ h.2.2 (o + 1) = .inl (0, 256, .inl ct) ∧ h.2.2 (o + 2) = .inl (0, 256, .inl pl) ∧ h.2.2 (o + 3) = .inl (1, 64, .inr (.inl bs)) ∧ h.2.2 (o + 4) = .inl (0, 8, .inl ch)
section ZC
variable {h h1 : zH} {o : Nat} {ct pl ch q : Nat → Int32} {bs qb : Nat → Int64}
theorem zC0.p_ct (hC : zC0 h o ct pl bs ch) : zC0 (zset h (o + 1) (.inl (0, 256, .inl q))) o q pl bs ch :=
  ⟨by rw [zset_ne _ _ (by omega)]; exact hC.1, zset_eq _ _ _, by rw [zset_ne _ _ (by omega)]; exact hC.2.2.1, by rw [zset_ne _ _ (by omega)]; exact hC.2.2.2.1, by rw [zset_ne _ _ (by omega)]; exact hC.2.2.2.2⟩
theorem zC0.p_pl (hC : zC0 h o ct pl bs ch) : zC0 (zset h (o + 2) (.inl (0, 256, .inl q))) o ct q bs ch :=
  ⟨by rw [zset_ne _ _ (by omega)]; exact hC.1, by rw [zset_ne _ _ (by omega)]; exact hC.2.1, zset_eq _ _ _, by rw [zset_ne _ _ (by omega)]; exact hC.2.2.2.1, by rw [zset_ne _ _ (by omega)]; exact hC.2.2.2.2⟩
theorem zC0.p_bs (hC : zC0 h o ct pl bs ch) : zC0 (zset h (o + 3) (.inl (1, 64, .inr (.inl qb)))) o ct pl qb ch :=
  ⟨by rw [zset_ne _ _ (by omega)]; exact hC.1, by rw [zset_ne _ _ (by omega)]; exact hC.2.1, by rw [zset_ne _ _ (by omega)]; exact hC.2.2.1, zset_eq _ _ _, by rw [zset_ne _ _ (by omega)]; exact hC.2.2.2.2⟩
theorem zC0.p_ch (hC : zC0 h o ct pl bs ch) : zC0 (zset h (o + 4) (.inl (0, 8, .inl q))) o ct pl bs q :=
  ⟨by rw [zset_ne _ _ (by omega)]; exact hC.1, by rw [zset_ne _ _ (by omega)]; exact hC.2.1, by rw [zset_ne _ _ (by omega)]; exact hC.2.2.1, by rw [zset_ne _ _ (by omega)]; exact hC.2.2.2.1, zset_eq _ _ _⟩
theorem zC0.fr {S : Nat → Prop} (hC : zC0 h o ct pl bs ch) (hF : zFr S h h1) (hS : ∀ j, zcS o j → ¬ S j) : zC0 h1 o ct pl bs ch :=
  ⟨hF.eq (hS _ (zcS_in (k := 0) (by omega))) hC.1, hF.eq (hS _ (zcS_in (by omega))) hC.2.1, hF.eq (hS _ (zcS_in (by omega))) hC.2.2.1, hF.eq (hS _ (zcS_in (by omega))) hC.2.2.2.1, hF.eq (hS _ (zcS_in (by omega))) hC.2.2.2.2⟩
end ZC
/-- Sets hold of each set how much it counts -/
def zCS (h : zH) (o : Nat) (C : Nat → Nat) : Prop := ∃ ct pl bs ch, zC0 h o ct pl bs ch ∧ ∀ s, s < 256 → ct s = nI (C s)
def zCa (h : zH) (o : Nat) : Prop := ∃ ct pl bs ch, zC0 h o ct pl bs ch
def zcN (o q : Nat) : Prop := q + 2 < o ∨ o + 4 < q
theorem zSp.fc {h h1 : zH} {o q n : Nat} {lo hi : Nat → Nat} (hF : zFr (zcS o) h h1) (ha : zcN o q) (hS : zSp h q n lo hi) : zSp h1 q n lo hi := by
  unfold zcN at ha
  exact zSp.fr hF (by unfold zcS; omega) (by unfold zcS; omega) (by unfold zcS; omega) hS
/-- is it one of a chain: by its points -/
def zIc (lo hi : Nat → Nat) (s x : Nat) : Bool := !s.testBit x || decide (zan s (lo x ||| hi x) = 0)
def zChn (n : Nat) (lo hi : Nat → Nat) (s : Nat) : Bool := decide (zan s (zFst n lo hi) = 0) && zAl (zIc lo hi s) n
def zCc (n : Nat) (lo hi : Nat → Nat) (s : Nat) : Nat := if zChn n lo hi s then zcnt s else 0
theorem zCc_le (n : Nat) (lo hi : Nat → Nat) (s : Nat) : zCc n lo hi s ≤ 8 := by
  unfold zCc
  split
  · exact zcnt_le s
  · omega
def zNum (C : Nat → Nat) (k : Nat) : Nat := zct (fun s => decide (1 ≤ s) && decide (C s = k)) 256
def zTot (C : Nat → Nat) : Nat := zct (fun s => decide (1 ≤ s) && decide (0 < C s)) 256
/-- the counted sets in their order: by how much they count, then by number; behind round k and set s -/
def zFs (C : Nat → Nat) (k : Nat) (n0 : Nat) (c0 : Nat → Nat) : Nat → Nat × (Nat → Nat)
  | 0 => (n0, c0)
  | s + 1 => let q := zFs C k n0 c0 s; if 1 ≤ s ∧ C s = k ∧ q.1 < 8 then (q.1 + 1, zupd q.2 q.1 s) else q
def zFk (C : Nat → Nat) : Nat → Nat × (Nat → Nat)
  | 0 => (0, fun _ => 0)
  | k + 1 => zFs C (k + 1) (zFk C k).1 (zFk C k).2 256
theorem zFs_le {C : Nat → Nat} {k n0 : Nat} {c0 : Nat → Nat} (h : n0 ≤ 8) : ∀ s, (zFs C k n0 c0 s).1 ≤ 8
  | 0 => h
  | s + 1 => by
    have := zFs_le (C := C) (k := k) (c0 := c0) h s
    rw [zFs]
    split
    · next g => have := g.2.2; show _ + 1 ≤ 8; omega
    · exact this
theorem zFk_le (C : Nat → Nat) : ∀ k, (zFk C k).1 ≤ 8
  | 0 => Nat.zero_le _
  | k + 1 => zFs_le (zFk_le C k) 256
theorem zFs_ch {C : Nat → Nat} {k n0 : Nat} {c0 : Nat → Nat} (h : ∀ i, c0 i < 256) : ∀ {s}, s ≤ 256 → ∀ i, (zFs C k n0 c0 s).2 i < 256
  | 0, _, i => h i
  | s + 1, hs, i => by
    have ih := zFs_ch (C := C) (k := k) (n0 := n0) h (s := s) (by omega)
    rw [zFs]
    split
    · show (if _ then _ else _) < 256
      split
      · omega
      · exact ih i
    · exact ih i
theorem zFk_ch (C : Nat → Nat) : ∀ k i, (zFk C k).2 i < 256
  | 0, i => by show 0 < 256; decide
  | k + 1, i => zFs_ch (zFk_ch C k) (Nat.le_refl 256) i
/-- the space of the counted sets -/
def zSubL (n : Nat) (c : Nat → Nat) (x : Nat) : Nat := zbits (fun y => decide (zan (c y) (c x) = 0)) n
