/-! texts -/
def zRy (B : Nat → Nat) (ln n x : Nat) (eq : Bool) : Nat → Nat → (Nat → Nat) → Bool × Nat × (Nat → Nat)
  | 0, p, lo => (true, p, lo)
  | f + 1, p, lo =>
    if zDgv B ln n (x + 1) p = 0 then (false, zDge B ln n (x + 1) p, lo)
    else if eq then (true, zDge B ln n (x + 1) p, zNst (zNst lo x (zDgv B ln n (x + 1) p - 1)) (zDgv B ln n (x + 1) p - 1) x)
    else if zIsn B ln (zDge B ln n (x + 1) p) 44 then zRy B ln n x eq f (zSk B ln (zDge B ln n (x + 1) p) + 1) (zNst lo x (zDgv B ln n (x + 1) p - 1))
    else (true, zSk B ln (zDge B ln n (x + 1) p), zNst lo x (zDgv B ln n (x + 1) p - 1))
def zRp (B : Nat → Nat) (ln n p : Nat) (lo : Nat → Nat) : Bool × Nat × (Nat → Nat) :=
  if zDgv B ln n 0 p = 0 then (false, zDge B ln n 0 p, lo)
  else if zIsn B ln (zDge B ln n 0 p) 61 then zRy B ln n (zDgv B ln n 0 p - 1) true 100 (zSk B ln (zDge B ln n 0 p) + 1) lo
  else if zIsn B ln (zSk B ln (zDge B ln n 0 p)) 62 then zRy B ln n (zDgv B ln n 0 p - 1) false 100 (zSk B ln (zSk B ln (zDge B ln n 0 p)) + 1) lo
  else (false, zSk B ln (zSk B ln (zDge B ln n 0 p)), lo)
def zRd (B : Nat → Nat) (ln n : Nat) : Nat → Nat → (Nat → Nat) → Bool × Nat × (Nat → Nat)
  | 0, p, lo => (true, p, lo)
  | f + 1, p, lo =>
    if zSk B ln p = ln then (true, zSk B ln p, lo)
    else if zIsn B ln (zSk B ln p) 59 then
      if (zRp B ln n (zSk B ln (zSk B ln p) + 1) lo).1 then zRd B ln n f (zRp B ln n (zSk B ln (zSk B ln p) + 1) lo).2.1 (zRp B ln n (zSk B ln (zSk B ln p) + 1) lo).2.2
      else zRp B ln n (zSk B ln (zSk B ln p) + 1) lo
    else (false, zSk B ln (zSk B ln p), lo)
/-- what a text tells: whether it is one, where its reading ends, how many points, what is below them -/
def zRead (B : Nat → Nat) (ln : Nat) : Bool × Nat × Nat × (Nat → Nat) :=
  if zDgv B ln 9 0 0 = 0 then (false, zDge B ln 9 0 0, 0, zDisc)
  else ((zRd B ln (zDgv B ln 9 0 0 - 1) 100 (zDge B ln 9 0 0) zDisc).1, (zRd B ln (zDgv B ln 9 0 0 - 1) 100 (zDge B ln 9 0 0) zDisc).2.1, zDgv B ln 9 0 0 - 1, (zRd B ln (zDgv B ln 9 0 0 - 1) 100 (zDge B ln 9 0 0) zDisc).2.2)
section ZT
variable {B : Nat → Nat} {ln n : Nat}
theorem zDgv_lt {lim bb p : Nat} : zDgv B ln lim bb p ≤ lim := by
  unfold zDgv
  split
  · next h => omega
  · omega
theorem zDge_le {lim bb p : Nat} (hp : p ≤ ln) : p ≤ zDge B ln lim bb p ∧ zDge B ln lim bb p ≤ ln := by
  have h := zSk_le (B := B) hp
  unfold zDge
  split
  · exact h
  · next g =>
    unfold zDgv at g
    split at g
    · next q => omega
    · exact absurd rfl g
theorem zIsn_lt {p c : Nat} (h : zIsn B ln p c = true) : zSk B ln p + 1 ≤ ln := by
  unfold zIsn at h
  rw [Bool.and_eq_true, decide_eq_true_eq] at h
  exact h.1
theorem zSk_b {p c : Nat} (hp : p ≤ ln) : zSk B ln p + b2n (zIsn B ln p c) ≤ ln := by
  have h := zSk_le (B := B) hp
  cases e : zIsn B ln p c with
  | false => exact h.2
  | true => exact zIsn_lt e
theorem zRy_ok {x : Nat} {eq : Bool} (hx : x < n) : ∀ {f p : Nat} {lo : Nat → Nat}, p ≤ ln → zPre n lo → (zRy B ln n x eq f p lo).2.1 ≤ ln ∧ zPre n (zRy B ln n x eq f p lo).2.2
  | 0, p, lo, hp, hP => ⟨hp, hP⟩
  | f + 1, p, lo, hp, hP => by
    have h1 := zDge_le (B := B) (lim := n) (bb := x + 1) hp
    have h2 := zDgv_lt (B := B) (ln := ln) (lim := n) (bb := x + 1) (p := p)
    rw [zRy]
    split
    · exact ⟨h1.2, hP⟩
    · next g =>
      split
      · exact ⟨h1.2, (hP.nst (by omega)).nst hx⟩
      · split
        · next q => exact zRy_ok hx (zIsn_lt q) (hP.nst (by omega))
        · exact ⟨(zSk_le h1.2).2, hP.nst (by omega)⟩
theorem zRp_ok {p : Nat} {lo : Nat → Nat} (hp : p ≤ ln) (hP : zPre n lo) : (zRp B ln n p lo).2.1 ≤ ln ∧ zPre n (zRp B ln n p lo).2.2 := by
  have h1 := zDge_le (B := B) (lim := n) (bb := 0) hp
  have h2 := zDgv_lt (B := B) (ln := ln) (lim := n) (bb := 0) (p := p)
  have h3 := zSk_le (B := B) h1.2
  unfold zRp
  split
  · exact ⟨h1.2, hP⟩
  · next g =>
    split
    · next q => exact zRy_ok (by omega) (zIsn_lt q) hP
    · split
      · next q => exact zRy_ok (by omega) (zIsn_lt q) hP
      · exact ⟨(zSk_le h3.2).2, hP⟩
theorem zRd_ok : ∀ {f p : Nat} {lo : Nat → Nat}, p ≤ ln → zPre n lo → (zRd B ln n f p lo).2.1 ≤ ln ∧ zPre n (zRd B ln n f p lo).2.2
  | 0, p, lo, hp, hP => ⟨hp, hP⟩
  | f + 1, p, lo, hp, hP => by
    have h3 := zSk_le (B := B) hp
    rw [zRd]
    split
    · exact ⟨h3.2, hP⟩
    · split
      · next q =>
        have h4 := zRp_ok (B := B) (zIsn_lt q) hP
        split
        · exact zRd_ok h4.1 h4.2
        · exact h4
      · exact ⟨(zSk_le h3.2).2, hP⟩
end ZT
section ZN
variable {d : Nat} {t : Nat → Option zI} {pc : Nat} {ls st : List Value} {h : zH} {r : zR → Prop} {nx a b c : Nat} {v : Value}
theorem zN_gebv {z : Int} {x : Nat} (hai : t pc = some (.ifCond .ge z, nx, a, b, c, v)) (hx : x < 2 ^ 31) (K1 : x ≠ 0 → zGoP d t a ls st h r) (K2 : x = 0 → zGoP d t nx ls st h r) : zGoP d t pc ls (.int (zbv x) :: st) h r := by
  refine zN_if hai (fun q => K1 ?_) (fun q => K2 ?_)
  · intro e
    subst e
    exact absurd q (by decide)
  · unfold zbv at q
    split at q
    · assumption
    · exact absurd (Int32.not_lt.mp (nI_pos (by omega))) (of_decide_eq_false q)
end ZN
theorem zAt8_lt {B : Nat → Nat} {ln p : Nat} (hB : ∀ i, i < ln → B i < 256) : zc1 .lt (zAt8 B ln p) = !decide (zSk B ln p < ln) := by
  unfold zAt8
  split
  · next h =>
    rw [decide_eq_true h]
    exact decide_eq_false (nI_pos (by have := hB _ h; omega))
  · next h => rw [decide_eq_false h]; rfl
theorem zRead_le {B : Nat → Nat} {ln : Nat} : (zRead B ln).2.1 ≤ ln := by
  unfold zRead
  split
  · exact (zDge_le (Nat.zero_le _)).2
  · exact (zRd_ok (zDge_le (Nat.zero_le _)).2 (zPre_disc (by have := zDgv_lt (B := B) (ln := ln) (lim := 9) (bb := 0) (p := 0); omega))).1
theorem zRead_pre {B : Nat → Nat} {ln : Nat} (h : (zRead B ln).1 = true) : zPre (zRead B ln).2.2.1 (zRead B ln).2.2.2 := by
  unfold zRead at h ⊢
  split
  · next g => rw [if_pos g] at h; cases h
  · show zPre (zDgv B ln 9 0 0 - 1) (zRd B ln (zDgv B ln 9 0 0 - 1) 100 (zDge B ln 9 0 0) zDisc).2.2
    exact (zRd_ok (zDge_le (Nat.zero_le _)).2 (zPre_disc (by have := zDgv_lt (B := B) (ln := ln) (lim := 9) (bb := 0) (p := 0); omega))).2
