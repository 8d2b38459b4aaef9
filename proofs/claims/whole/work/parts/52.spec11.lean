/-! the lists of Codes -/
def zEt (L : List (Nat × Nat × Nat)) (R S P : Nat → Int32) : Prop := ∀ i, i < L.length → R i = nI (L.getD i (0, 0, 0)).1 ∧ S i = nI (L.getD i (0, 0, 0)).2.1 ∧ P i = nI (L.getD i (0, 0, 0)).2.2
theorem zEt.push {L : List (Nat × Nat × Nat)} {R S P : Nat → Int32} {a b c : Nat} (h : zEt L R S P) : zEt (L ++ [(a, b, c)]) (upd R L.length (nI a)) (upd S L.length (nI b)) (upd P L.length (nI c)) := by
  intro i hi
  rw [List.length_append] at hi
  have hi : i < L.length + 1 := hi
  by_cases e : i = L.length
  · subst e
    rw [upd_at, upd_at, upd_at, List.getD_eq_getElem?_getD, List.getElem?_append_right (Nat.le_refl _), Nat.sub_self]
    exact ⟨rfl, rfl, rfl⟩
  · rw [upd_ne _ _ e, upd_ne _ _ e, upd_ne _ _ e, List.getD_eq_getElem?_getD, List.getElem?_append_left (by omega), ← List.getD_eq_getElem?_getD]
    exact h i (by omega)
def zRowC (n c : Nat) (al pl fo : Nat → Int32) (R S P : Nat → Nat → Int32) : Prop := al n = nI (zLs n c).1 ∧ pl n = nI (zLs n c).2.1 ∧ fo n = nI (zLs n c).2.2.length ∧ zEt (zLs n c).2.2 (R n) (S n) (P n)
/-- Codes: which rows are listed, and how far -/
def zCG (h : zH) (o : Nat) (b : Nat → Bool) (cc : Nat → Nat) : Prop := ∃ ht od il al pl fo R S P, zCo0 h o ht od il al pl fo R S P ∧ (∃ m lo hi, zSp h (o + 1) m lo hi) ∧ ∀ m, m < 5 → il m = nI (b2n (b m)) ∧ zRowC m (cc m) al pl fo R S P
def zE9 (n : Nat) : Nat := 1 <<< (n * (n - 1))
def zCL (h : zH) (o : Nat) (b : Nat → Bool) : Prop := zCG h o b (fun m => if b m then zE9 m else 0)
theorem zE9_le : ∀ n, n < 5 → zE9 n ≤ 4096 := by decide
def zEnl (n c : Nat) (L : List (Nat × Nat × Nat)) : List (Nat × Nat × Nat) := if (zFm n (zDl n c) (zFac n)).1 = c ∧ L.length < 33 ∧ 0 < (zFm n (zDl n c) (zFac n)).2 then L ++ [(c, zFac n / (zFm n (zDl n c) (zFac n)).2, b2n (zPln n c))] else L
theorem zLs_y {n c : Nat} (h : zVal n c = true) : zLs n (c + 1) = ((zLs n c).1 + 1, (zLs n c).2.1 + b2n (zPln n c), zEnl n c (zLs n c).2.2) := if_pos h
theorem zLs_n {n c : Nat} (h : zVal n c = false) : zLs n (c + 1) = zLs n c := if_neg (by rw [h]; simp)
theorem zS_ne {o k : Nat} (h : k < 1 ∨ 3 < k) : ¬ zsS (o + 1) (o + k) := by unfold zsS; omega
def zPlP (L : List (Nat × Nat × Nat)) (i : Nat) : Nat := (L.getD i (0, 0, 0)).2.2
def zPlSum (L : List (Nat × Nat × Nat)) : Nat := zsm (zPlP L) L.length
def zPlAt (L : List (Nat × Nat × Nat)) (plain i : Nat) : Nat := zfs (fun k => decide (plain ≤ zPlP L k) && decide (zct (fun j => decide (plain ≤ zPlP L j)) k = i)) L.length
theorem zLs_pl {n : Nat} : ∀ c i, zPlP (zLs n c).2.2 i ≤ 1
  | 0, i => by show zPlP [] i ≤ 1; unfold zPlP; simp
  | c + 1, i => by
    have ih := zLs_pl (n := n) c i
    cases e : zVal n c with
    | false => rw [zLs_n e]; exact ih
    | true =>
      rw [zLs_y e]
      show zPlP (zEnl n c (zLs n c).2.2) i ≤ 1
      unfold zEnl
      split
      · unfold zPlP at ih ⊢
        rw [List.getD_eq_getElem?_getD] at ih ⊢
        rcases Nat.lt_trichotomy i (zLs n c).2.2.length with g | g | g
        · rw [List.getElem?_append_left g]; exact ih
        · rw [g, List.getElem?_append_right (Nat.le_refl _), Nat.sub_self]
          exact b2n_le _
        · rw [List.getElem?_eq_none (by rw [List.length_append]; show _ + 1 ≤ _; omega)]
          show 0 ≤ 1
          omega
      · exact ih
theorem zSp_ne {h : zH} {o n j : Nat} {lo hi : Nat → Nat} {c : zC} (hS : zSp h o n lo hi) (h0 : o ≠ j) (h1 : o + 1 ≠ j) (h2 : o + 2 ≠ j) : zSp (zset h j c) o n lo hi := by
  obtain ⟨a, fl, fh, b, c', e⟩ := hS
  exact ⟨by rw [zset_ne _ _ h0]; exact a, fl, fh, by rw [zset_ne _ _ h1]; exact b, by rw [zset_ne _ _ h2]; exact c', e⟩
theorem zEnl_n {n c : Nat} {L : List (Nat × Nat × Nat)} (h : ¬ ((zFm n (zDl n c) (zFac n)).1 = c ∧ L.length < 33 ∧ 0 < (zFm n (zDl n c) (zFac n)).2)) : zEnl n c L = L := if_neg h
theorem zEnl_y {n c : Nat} {L : List (Nat × Nat × Nat)} (h : (zFm n (zDl n c) (zFac n)).1 = c ∧ L.length < 33 ∧ 0 < (zFm n (zDl n c) (zFac n)).2) : zEnl n c L = L ++ [(c, zFac n / (zFm n (zDl n c) (zFac n)).2, b2n (zPln n c))] := if_pos h
theorem zCG.cc {h : zH} {o : Nat} {b : Nat → Bool} {c1 c2 : Nat → Nat} (hC : zCG h o b c1) (e : ∀ m, m < 5 → c1 m = c2 m) : zCG h o b c2 := by
  obtain ⟨ht, od, il, al, pl, fo, R, S, P, hK, hS, hR⟩ := hC
  exact ⟨ht, od, il, al, pl, fo, R, S, P, hK, hS, fun m hm => by rw [← e m hm]; exact hR m hm⟩
theorem zCG_mk {h : zH} {o n c : Nat} {b : Nat → Bool} {cc : Nat → Nat} {ht : Int32} {od il al pl fo : Nat → Int32} {R S P : Nat → Nat → Int32} (hK : zCo0 h o ht od il al pl fo R S P) (hS : ∃ m lo hi, zSp h (o + 1) m lo hi) (h1 : ∀ m, m < 5 → m ≠ n → il m = nI (b2n (b m)) ∧ zRowC m (cc m) al pl fo R S P) (h2 : il n = nI (b2n (b n)) ∧ zRowC n c al pl fo R S P) : zCG h o b (fun m => if m = n then c else cc m) :=
  ⟨ht, od, il, al, pl, fo, R, S, P, hK, hS, fun m hm => by
    by_cases e : m = n
    · subst e
      simp only [↓reduceIte]
      exact h2
    · simp only [e, ↓reduceIte]
      exact h1 m hm e⟩
/-- one row that is listed -/
theorem zCL.at {h : zH} {o n : Nat} {b : Nat → Bool} (hC : zCL h o b) (hb : b n = true) : ∃ cc, zCG h o b cc ∧ cc n = zE9 n := ⟨_, hC, if_pos hb⟩
theorem zE9_b {n : Nat} (hn : n < 6) : zE9 n ≤ 2 ^ 20 := by
  unfold zE9
  rw [Nat.one_shiftLeft]
  exact Nat.pow_le_pow_right (by decide) (zn20 n hn)
