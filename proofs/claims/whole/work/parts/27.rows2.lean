/-! ends told by what holds: the answer, and of the heap -/
def zRV (v : Value) (P : zH → Prop) : zR → Prop := fun q => q.1 = some v ∧ P q.2
def zRN (P : zH → Prop) : zR → Prop := fun q => q.1 = none ∧ P q.2
section ZV
variable {d : Nat} {t : Nat → Option zI} {pc : Nat} {ls st : List Value} {h : zH} {r : zR → Prop} {nx a b c pc' : Nat} {v : Value}
theorem zCall.rv {mi : Nat} {as : List Value} {w : Value} {h1 : zH} {P : zH → Prop} (hc : zCall d mi as h (some w, h1)) (hP : P h1) : zCallP d mi as h (zRV w P) := ⟨_, hc, rfl, hP⟩
theorem zCall.rn {mi : Nat} {as : List Value} {h1 : zH} {P : zH → Prop} (hc : zCall d mi as h (none, h1)) (hP : P h1) : zCallP d mi as h (zRN P) := ⟨_, hc, rfl, hP⟩
theorem zG_cQV {x mi n ci nx q : Nat} {fs st' as : List Value} {w : Value} {P : zH → Prop} (hai : t pc = some (.invokevirtual x, nx, mi, n, ci, v)) (hd : st.drop n = .ref q :: st') (ho : h.2.2 q = .inr (ci, fs)) (ha : (st.take n).reverse = as) (hn : (Nat.beq (st.take n).length n && zrl st') = true) (hc : zCallP d mi (.ref q :: as) h (zRV w P)) (K : ∀ h1 : zH, P h1 → zGoP d t nx ls (w :: st') h1 r) : zGoP d t pc ls st h r := by
  obtain ⟨⟨w1, h1⟩, hc, hr, hP⟩ := hc
  subst hr
  exact zG_call hai (zcallV_eq hd ho ha hn) hc (K h1 hP)
theorem zG_cQN {x mi n ci nx q : Nat} {fs st' as : List Value} {P : zH → Prop} (hai : t pc = some (.invokevirtual x, nx, mi, n, ci, v)) (hd : st.drop n = .ref q :: st') (ho : h.2.2 q = .inr (ci, fs)) (ha : (st.take n).reverse = as) (hn : (Nat.beq (st.take n).length n && zrl st') = true) (hc : zCallP d mi (.ref q :: as) h (zRN P)) (K : ∀ h1 : zH, P h1 → zGoP d t nx ls st' h1 r) : zGoP d t pc ls st h r := by
  obtain ⟨⟨w1, h1⟩, hc, hr, hP⟩ := hc
  subst hr
  exact zG_call hai (zcallV_eq hd ho ha hn) hc (K h1 hP)
theorem zG_cqV {ai : zI} {mi : Nat} {as st' : List Value} {w : Value} {P : zH → Prop} (hai : t pc = some ai) (hs : zstep ai ls st h = .inr (.inr (.inl (true, mi, as, pc', st')))) (hc : zCallP d mi as h (zRV w P)) (K : ∀ h1 : zH, P h1 → zGoP d t pc' ls (w :: st') h1 r) : zGoP d t pc ls st h r := by
  obtain ⟨⟨w1, h1⟩, hc, hr, hP⟩ := hc
  subst hr
  exact zG_call hai hs hc (K h1 hP)
theorem zG_cqN {ai : zI} {mi : Nat} {as st' : List Value} {P : zH → Prop} (hai : t pc = some ai) (hs : zstep ai ls st h = .inr (.inr (.inl (true, mi, as, pc', st')))) (hc : zCallP d mi as h (zRN P)) (K : ∀ h1 : zH, P h1 → zGoP d t pc' ls st' h1 r) : zGoP d t pc ls st h r := by
  obtain ⟨⟨w1, h1⟩, hc, hr, hP⟩ := hc
  subst hr
  exact zG_call hai hs hc (K h1 hP)
theorem zG_retb {ai : zI} {k : Bool} {st' : List Value} (hai : t pc = some ai) (hs : ∀ k : Bool, zstep ai ls (.int (nI (b2n k)) :: st') h = .inr (.inr (.inr (.inl (true, some (.int (nI (b2n k)))))))) (e : r (some (.int (nI (b2n k))), h)) : zGoP d t pc ls (.int (nI (b2n k)) :: st') h r := zG_ret hai (hs k) e
theorem zN_le0 {z : Int} {x : Nat} (hai : t pc = some (.ifCond .le z, nx, a, b, c, v)) (hx : x < 2 ^ 31) (K1 : x = 0 → zGoP d t a ls st h r) (K2 : 0 < x → zGoP d t nx ls st h r) : zGoP d t pc ls (.int (nI x) :: st) h r := by
  refine zG_br hai rfl (fun q => K1 ?_) (fun q => K2 ?_)
  · have q : nI x ≤ nI 0 := of_decide_eq_true q
    have := (nI_leI hx (by decide)).mp q
    omega
  · rcases Nat.eq_zero_or_pos x with e | e
    · subst e; exact absurd q (by decide)
    · exact e
theorem zN_tsd {dd lo hi : Int} {offs : Array Int} {x : Int32} {p2 : Nat} (hai : t pc = some (.tableswitch dd lo hi offs, nx, a, b, c, v)) (hx : x.toInt < lo ∨ hi < x.toInt) (hp : (decide (0 ≤ (a : Int) + dd) && Nat.beq ((a : Int) + dd).toNat p2) = true) (K : zGoP d t p2 ls st h r) : zGoP d t pc ls (.int x :: st) h r := by
  rw [Bool.and_eq_true] at hp
  refine zG_s hai (pc' := p2) (ls' := ls) (st' := st) (h' := h) ?_ K
  show ztsw dd lo hi offs a ls (.int x :: st) h = _
  have e : ztoff dd lo hi offs x = some dd := if_pos hx
  simp only [ztsw, e, hp.1]
  rw [Nat.eq_of_beq_eq_true hp.2]
theorem zin_out {x : Int32} {n : Nat} (hn : n < 2 ^ 31) (h : zin x n = false) : x.toInt < 0 ∨ (n : Int) ≤ x.toInt := by
  by_cases g : x.toInt < 0
  · exact Or.inl g
  · right
    refine Classical.byContradiction (fun q => ?_)
    have hx : ¬ x < 0 := fun g2 => by
      have := Int32.lt_iff_toInt_lt.mp g2
      simp at this
      omega
    obtain ⟨j, hj, rfl⟩ := nI_of hx
    have e : (nI j).toInt = (j : Int) := by
      have : (nI j).toInt = ((BitVec.ofNat 32 j).toInt) := rfl
      have e2 : (BitVec.ofNat 32 j).toNat = j := by rw [BitVec.toNat_ofNat]; omega
      rw [this, BitVec.toInt_eq_toNat_of_lt (by rw [e2]; omega), e2]
    rw [e] at q
    have := zin_n (k := j) (n := n) (by omega) hn
    rw [h] at this
    cases this
theorem zCallP.vm {mi : Nat} {as : List Value} {w w' : Value} {P P' : zH → Prop} (hc : zCallP d mi as h (zRV w P)) (e : w = w') (hP : ∀ h1, P h1 → P' h1) : zCallP d mi as h (zRV w' P') := by
  subst e
  exact hc.mono (fun q ⟨h1, h2⟩ => ⟨h1, hP _ h2⟩)
theorem zCallP.nm {mi : Nat} {as : List Value} {P P' : zH → Prop} (hc : zCallP d mi as h (zRN P)) (hP : ∀ h1, P h1 → P' h1) : zCallP d mi as h (zRN P') :=
  hc.mono (fun q ⟨h1, h2⟩ => ⟨h1, hP _ h2⟩)
end ZV
/-- Going stands for a space, and nothing but its cells is another since h0 -/
def zGA (h0 : zH) (g n : Nat) (lo hi : Nat → Nat) (ec : Int32) (rw en im : Nat → Int32) (h : zH) : Prop := zFr (zgS g) h0 h ∧ ∃ fl fh fb fa ft sh : Nat → Int32, zG0 h g n ec fl fh fb fa ft sh rw en im ∧ zGv n lo hi fl fh fb fa ft ∧ zMemo n lo hi sh
theorem zGq.ga {h0 h : zH} {g n : Nat} {lo hi : Nat → Nat} {ec : Int32} {fl fh fb fa ft rw en im : Nat → Int32} {w : Value} (hF : zFr (zgS g) h0 h) (hV : zGv n lo hi fl fh fb fa ft) : ∀ q, zGq h g n lo hi ec fl fh fb fa ft rw en im (some w) q → zRV w (zGA h0 g n lo hi ec rw en im) q := by
  rintro q ⟨h1, h2, sh2, h3, h4⟩
  exact ⟨h1, hF.tr h2, fl, fh, fb, fa, ft, sh2, h3, hV, h4⟩
/-- may it go, by kinds -/
def zMay (n : Nat) (lo hi : Nat → Nat) (k x s : Nat) : Bool :=
  if k = 0 then zLk lo hi x s else if k = 1 then zDn n lo hi x s else if k = 2 then zUp n lo hi x s else if k = 3 then zBt n lo hi x s
  else if k = 4 then zBt n lo hi x s || (zShr n lo hi (zBw lo hi x &&& s) || zShr n lo hi (zAb lo hi x &&& s)) else decide (zBw lo hi x &&& s ≠ 0) && zUp n lo hi x s
def zGoers (n : Nat) (lo hi : Nat → Nat) (k s : Nat) : Nat := zbits (fun x => s.testBit x && zMay n lo hi k x s) n
def zPri (lo hi : Nat → Nat) (k x s : Nat) : Nat :=
  if k = 0 then 1 else if k = 2 then 1 + zcnt (zAb lo hi x &&& s) else if k = 5 then zcnt (zAb lo hi x &&& s) else if k = 4 then 2 * (1 + zcnt (zBw lo hi x &&& s)) + 1 else 1 + zcnt (zBw lo hi x &&& s)
/-- the one chosen (behind 0: none), and its price -/
def zCh (p : Nat → Nat) (o G : Nat) : Nat → Nat × Nat
  | 0 => (0, 0)
  | x + 1 => if G.testBit x && (decide ((zCh p o G x).1 = 0) || (decide (o = 1) || (decide (o = 2) && decide (p x < (zCh p o G x).2)) || (decide (o = 3) && decide ((zCh p o G x).2 < p x)))) then (x + 1, p x) else zCh p o G x
def zbv (b : Nat) : Int32 := if b = 0 then -1 else nI (b - 1)
theorem zbv_0 : zbv 0 = -1 := rfl
theorem zbv_s (b : Nat) : zbv (b + 1) = nI b := rfl
theorem zbv_lt {b : Nat} (hb : b < 2 ^ 31) : zc1 .lt (zbv b) = decide (b = 0) := by
  unfold zbv
  by_cases e : b = 0
  · rw [if_pos e, decide_eq_true e]; rfl
  · rw [if_neg e, decide_eq_false e]
    exact decide_eq_false (nI_pos (by omega))
theorem zN_ifbv {d : Nat} {t : Nat → Option zI} {pc : Nat} {ls st : List Value} {h : zH} {r : zR → Prop} {nx a b c : Nat} {v : Value} {z : Int} {x : Nat} (hai : t pc = some (.ifCond .lt z, nx, a, b, c, v)) (hx : x < 2 ^ 31) (K1 : x = 0 → zGoP d t a ls st h r) (K2 : x ≠ 0 → zGoP d t nx ls st h r) : zGoP d t pc ls (.int (zbv x) :: st) h r := by
  refine zN_if hai (fun q => K1 ?_) (fun q => K2 ?_)
  · rw [zbv_lt hx] at q; exact of_decide_eq_true q
  · rw [zbv_lt hx] at q; exact of_decide_eq_false q
theorem zCh_yes {p : Nat → Nat} {o G x : Nat} (hb : G.testBit x = true) (h : (zCh p o G x).1 = 0 ∨ o = 1 ∨ (o = 2 ∧ p x < (zCh p o G x).2) ∨ (o = 3 ∧ (zCh p o G x).2 < p x)) : zCh p o G (x + 1) = (x + 1, p x) := by
  simp only [zCh]
  rw [hb, if_pos]
  simp only [Bool.true_and, Bool.or_eq_true, Bool.and_eq_true, decide_eq_true_eq]
  rcases h with h | h | h | h
  · exact Or.inl h
  · exact Or.inr (Or.inl (Or.inl h))
  · exact Or.inr (Or.inl (Or.inr h))
  · exact Or.inr (Or.inr h)
theorem zCh_no {p : Nat → Nat} {o G x : Nat} (h : ¬ ((zCh p o G x).1 = 0 ∨ o = 1 ∨ (o = 2 ∧ p x < (zCh p o G x).2) ∨ (o = 3 ∧ (zCh p o G x).2 < p x))) : zCh p o G (x + 1) = zCh p o G x := by
  simp only [zCh]
  rw [if_neg]
  simp only [Bool.and_eq_true, Bool.or_eq_true, decide_eq_true_eq]
  rintro ⟨-, g | (g | g) | g⟩
  · exact h (Or.inl g)
  · exact h (Or.inr (Or.inl g))
  · exact h (Or.inr (Or.inr (Or.inl g)))
  · exact h (Or.inr (Or.inr (Or.inr g)))
theorem zCh_nb {p : Nat → Nat} {o G x : Nat} (h : G.testBit x = false) : zCh p o G (x + 1) = zCh p o G x := by
  simp only [zCh, h, Bool.false_and, Bool.false_eq_true, if_false]
theorem zCh_le (p : Nat → Nat) (o G : Nat) : ∀ n, (zCh p o G n).1 ≤ n
  | 0 => Nat.le_refl _
  | n + 1 => by
    have := zCh_le p o G n
    simp only [zCh]
    split
    · exact Nat.le_refl _
    · omega
theorem zCh_pr {p : Nat → Nat} {o G B : Nat} : ∀ {n}, (∀ x, x < n → p x ≤ B) → (zCh p o G n).2 ≤ B
  | 0, _ => Nat.zero_le _
  | n + 1, h => by
    have := zCh_pr (o := o) (G := G) (n := n) (fun x hx => h x (by omega))
    simp only [zCh]
    split
    · exact h n (by omega)
    · exact this
theorem zCh_pos {p : Nat → Nat} {o G : Nat} : ∀ {n x : Nat}, x < n → G.testBit x = true → (zCh p o G n).1 ≠ 0
  | 0, x, h, _ => absurd h (Nat.not_lt_zero _)
  | n + 1, x, h, hx => by
    simp only [zCh]
    by_cases e : x = n
    · subst e
      rw [hx]
      by_cases e0 : (zCh p o G x).1 = 0
      · rw [decide_eq_true e0]; simp
      · split
        · simp
        · exact e0
    · have := zCh_pos (p := p) (o := o) (n := n) (by omega) hx
      split
      · simp
      · exact this
/-- the one chosen is of those that may go -/
theorem zCh_in {p : Nat → Nat} {o G : Nat} : ∀ {n : Nat}, (zCh p o G n).1 ≠ 0 → G.testBit ((zCh p o G n).1 - 1) = true
  | 0, h => absurd rfl h
  | n + 1, h => by
    simp only [zCh] at h ⊢
    split at h
    · next q =>
      rw [if_pos q]
      rw [Bool.and_eq_true] at q
      exact q.1
    · next q =>
      rw [if_neg q]
      exact zCh_in h
theorem zPri_le (lo hi : Nat → Nat) (k x s : Nat) : zPri lo hi k x s ≤ 19 := by
  have h1 := zcnt_le (zAb lo hi x &&& s)
  have h2 := zcnt_le (zBw lo hi x &&& s)
  unfold zPri
  repeat (first | split | omega)
/-- what is left: a step, and in the end -/
def zLS (n : Nat) (lo hi : Nat → Nat) (k o s : Nat) : Nat := if zGoers n lo hi k s = 0 then s else zan s (1 <<< ((zCh (fun x => zPri lo hi k x s) o (zGoers n lo hi k s) n).1 - 1))
def zLeft (n : Nat) (lo hi : Nat → Nat) (k o : Nat) : Nat := zit (zLS n lo hi k o) 8 (1 <<< n - 1)
theorem zLS_le (n : Nat) (lo hi : Nat → Nat) (k o s : Nat) : zLS n lo hi k o s ≤ s := by
  unfold zLS
  split
  · exact Nat.le_refl _
  · exact zan_le _ _
theorem zLSs_le (n : Nat) (lo hi : Nat → Nat) (k o s : Nat) : ∀ i, zit (zLS n lo hi k o) i s ≤ s
  | 0 => Nat.le_refl _
  | i + 1 => Nat.le_trans (zLS_le ..) (zLSs_le n lo hi k o s i)
theorem zSp.fr {S : Nat → Prop} {h h1 : zH} {o n : Nat} {lo hi : Nat → Nat} (hF : zFr S h h1) (h0 : ¬ S o) (h2 : ¬ S (o + 1)) (h3 : ¬ S (o + 2)) (hS : zSp h o n lo hi) : zSp h1 o n lo hi := by
  obtain ⟨a, fl, fh, b, c, e⟩ := hS
  exact ⟨hF.eq h0 a, fl, fh, hF.eq h2 b, hF.eq h3 c, e⟩
theorem zSx.fr {S : Nat → Prop} {h h1 : zH} {o n : Nat} {fl fh : Nat → Int32} (hF : zFr S h h1) (h0 : ¬ S o) (h2 : ¬ S (o + 1)) (h3 : ¬ S (o + 2)) (hS : zSx h o n fl fh) : zSx h1 o n fl fh := ⟨hF.eq h0 hS.1, hF.eq h2 hS.2.1, hF.eq h3 hS.2.2⟩
/-- apart from Going -/
def zgN (g o : Nat) : Prop := o + 2 < g ∨ g + 9 < o
theorem zgN.fr {g o : Nat} (h : zgN g o) : ¬ zgS g o ∧ ¬ zgS g (o + 1) ∧ ¬ zgS g (o + 2) := by
  unfold zgN at h
  unfold zgS
  omega
