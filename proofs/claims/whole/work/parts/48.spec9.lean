/-! fences: how far one map is from another one -/
def zFnM (n : Nat) (f : Nat → Nat) (u v : Nat) (x : Nat) : Bool := (f (zDig u x)).testBit (zDig v x)
def zNr (n : Nat) (lb hb : Nat → Nat) (u v : Nat) : Bool := zAl (zFnM n lb u v) n || zAl (zFnM n hb u v) n
/-- is there one below n with p -/
def zEx (p : Nat → Bool) (n : Nat) : Bool := !zAl (fun i => !p i) n
theorem zEx_iff {p : Nat → Bool} {n : Nat} : zEx p n = true ↔ ∃ i, i < n ∧ p i = true := by
  unfold zEx
  constructor
  · intro h
    refine Classical.byContradiction (fun q => ?_)
    have : zAl (fun i => !p i) n = true := zAl_iff.mpr (fun i hi => by
      cases e : p i with
      | false => rfl
      | true => exact absurd ⟨i, hi, e⟩ q)
    rw [this] at h
    cases h
  · rintro ⟨i, hi, e⟩
    rw [zAl_no hi (by rw [e]; rfl)]
    rfl
theorem zEx_no {p : Nat → Bool} {n : Nat} : zEx p n = false ↔ ∀ i, i < n → p i = false := by
  constructor
  · intro h i hi
    cases e : p i with
    | false => rfl
    | true => rw [zEx_iff.mpr ⟨i, hi, e⟩] at h; cases h
  · intro h
    cases e : zEx p n with
    | false => rfl
    | true =>
      obtain ⟨i, hi, e2⟩ := zEx_iff.mp e
      rw [h i hi] at e2
      cases e2
section ZF
variable {M a : Nat} {g : Nat → Bool} {nr : Nat → Nat → Bool}
/-- in k steps at most -/
def zLv (M a : Nat) (g : Nat → Bool) (nr : Nat → Nat → Bool) : Nat → Nat → Bool
  | 0, v => decide (v = a)
  | k + 1, v => zLv M a g nr k v || (g v && zEx (fun u => zLv M a g nr k u && nr u v) M)
/-- in k steps, and in no fewer -/
def zMn (M a : Nat) (g : Nat → Bool) (nr : Nat → Nat → Bool) (k v : Nat) : Prop := zLv M a g nr k v = true ∧ ∀ j, j < k → zLv M a g nr j v = false
theorem zLv_s {k v : Nat} (h : zLv M a g nr k v = true) : zLv M a g nr (k + 1) v = true := by rw [zLv, h]; rfl
theorem zLv_up {k v : Nat} (h : zLv M a g nr k v = true) : ∀ j, zLv M a g nr (k + j) v = true
  | 0 => h
  | j + 1 => zLv_s (zLv_up h j)
theorem zLv_le {k j v : Nat} (h : zLv M a g nr k v = true) (hj : k ≤ j) : zLv M a g nr j v = true := by
  have := zLv_up h (j - k)
  rwa [show k + (j - k) = j by omega] at this
theorem zMn_un {i j v : Nat} (h1 : zMn M a g nr i v) (h2 : zMn M a g nr j v) : i = j := by
  rcases Nat.lt_trichotomy i j with e | e | e
  · have := h2.2 i e; rw [h1.1] at this; cases this
  · exact e
  · have := h1.2 j e; rw [h2.1] at this; cases this
/-- the answer: by steps, or below 0 -/
def zFd (M a : Nat) (g : Nat → Bool) (nr : Nat → Nat → Bool) (b : Nat) (w : Int32) : Prop := (∃ k, zMn M a g nr k b ∧ w = nI k) ∨ ((∀ k, zLv M a g nr k b = false) ∧ w = -3)
theorem zFd_un {b : Nat} {w1 w2 : Int32} (h1 : zFd M a g nr b w1) (h2 : zFd M a g nr b w2) : w1 = w2 := by
  rcases h1 with ⟨k, hk, rfl⟩ | ⟨hk, rfl⟩ <;> rcases h2 with ⟨j, hj, rfl⟩ | ⟨hj, rfl⟩
  · rw [zMn_un hk hj]
  · have := hj k; rw [hk.1] at this; cases this
  · have := hk j; rw [hj.1] at this; cases this
  · rfl
theorem zLv_new {k v : Nat} (h : zLv M a g nr k v = false) (hg : g v = true) {u : Nat} (hu : u < M) (h1 : zLv M a g nr k u = true) (h2 : nr u v = true) : zMn M a g nr (k + 1) v := by
  refine ⟨?_, fun j hj => ?_⟩
  · rw [zLv, hg, zEx_iff.mpr ⟨u, hu, by rw [h1, h2]; rfl⟩]
    simp
  · cases e : zLv M a g nr j v with
    | false => rfl
    | true => rw [zLv_le e (by omega)] at h; cases h
/-- no more come: all is reached -/
theorem zLv_stop {k : Nat} (h : ∀ v, v < M → zLv M a g nr (k + 1) v = true → zLv M a g nr k v = true) {b : Nat} (hb : b < M) (hk : zLv M a g nr k b = false) : ∀ j, zLv M a g nr j b = false := by
  have key : ∀ j, ∀ v, v < M → zLv M a g nr (k + j) v = true → zLv M a g nr k v = true := by
    intro j
    induction j with
    | zero => intro v _ h; exact h
    | succ j ih =>
      intro v hv h9
      rw [show k + (j + 1) = (k + j) + 1 by omega, zLv] at h9
      rw [Bool.or_eq_true, Bool.and_eq_true] at h9
      rcases h9 with h9 | ⟨h1, h2⟩
      · exact ih v hv h9
      · obtain ⟨u, hu, e⟩ := zEx_iff.mp h2
        rw [Bool.and_eq_true] at e
        refine h v hv ?_
        rw [zLv, h1, zEx_iff.mpr ⟨u, hu, by rw [ih u hu e.1, e.2]; rfl⟩]
        simp
  intro j
  cases e : zLv M a g nr j b with
  | false => rfl
  | true =>
    have h2 := zLv_le e (show j ≤ k + j by omega)
    rw [key j b hb h2] at hk
    cases hk
/-- what has been found while the ones at k steps are gone through: q j for j from s to i -/
def zPn (nr : Nat → Nat → Bool) (q : Nat → Nat) (s i v : Nat) : Bool := zEx (fun j => decide (s ≤ j) && nr (q j) v) i
theorem zPn_s {q : Nat → Nat} {s i v : Nat} (h : s ≤ i) : zPn nr q s (i + 1) v = (zPn nr q s i v || nr (q i) v) := by
  unfold zPn zEx
  show (!(zAl (fun i => !(decide (s ≤ i) && nr (q i) v)) i && !(decide (s ≤ i) && nr (q i) v))) = _
  rw [decide_eq_true h, Bool.true_and]
  cases zAl (fun i => !(decide (s ≤ i) && nr (q i) v)) i <;> cases nr (q i) v <;> rfl
/-- found, behind the first i ones; of those at hand the ones below m -/
def zFo (M a : Nat) (g : Nat → Bool) (nr : Nat → Nat → Bool) (q : Nat → Nat) (k s i m v : Nat) : Bool := g v && (zPn nr q s i v || (decide (v < m) && nr (q i) v))
/-- the far row -/
def zFar (M a : Nat) (g : Nat → Bool) (nr : Nat → Nat → Bool) (q : Nat → Nat) (k s i m : Nat) (far : Nat → Int32) : Prop :=
  ∀ v, v < M → (zLv M a g nr k v = true → ∃ j, j ≤ k ∧ zMn M a g nr j v ∧ far v = nI j) ∧ (zLv M a g nr k v = false → far v = if g v then (if zFo M a g nr q k s i m v then nI (k + 1) else -1) else -2)
/-- the queue -/
def zQue (M a : Nat) (g : Nat → Bool) (nr : Nat → Nat → Bool) (q : Nat → Nat) (k s e i m w : Nat) : Prop :=
  s ≤ i ∧ i ≤ e ∧ e ≤ w ∧ (∀ j, j < w → q j < M ∧ g (q j) = true) ∧ (∀ j, s ≤ j → j < e → zMn M a g nr k (q j)) ∧ (∀ v, v < M → zMn M a g nr k v → ∃ j, s ≤ j ∧ j < e ∧ q j = v) ∧ (∀ j, e ≤ j → j < w → zLv M a g nr k (q j) = false ∧ zFo M a g nr q k s i m (q j) = true) ∧ (∀ v, v < M → zLv M a g nr k v = false → zFo M a g nr q k s i m v = true → ∃ j, e ≤ j ∧ j < w ∧ q j = v) ∧ w = zct (fun v => zLv M a g nr k v || zFo M a g nr q k s i m v) M
theorem zct_flip {c c' : Nat → Bool} {m : Nat} : ∀ {n : Nat}, m < n → (∀ v, v < n → v ≠ m → c v = c' v) → c m = false → c' m = true → zct c' n = zct c n + 1
  | 0, h, _, _, _ => absurd h (Nat.not_lt_zero _)
  | n + 1, h, he, h0, h1 => by
    by_cases e : m = n
    · subst e
      rw [zct, zct, h0, h1, zct_cong (fun i hi => he i (by omega) (by omega))]
      rfl
    · have ih := zct_flip (n := n) (by omega) (fun v hv hne => he v (by omega) hne) h0 h1
      rw [zct, zct, he n (by omega) (fun q => e q.symm), ih]
      omega
theorem zFo_q {q q' : Nat → Nat} {k s i m v : Nat} (h : ∀ j, j ≤ i → q j = q' j) : zFo M a g nr q k s i m v = zFo M a g nr q' k s i m v := by
  unfold zFo zPn zEx
  have e : zAl (fun j => !(decide (s ≤ j) && nr (q j) v)) i = zAl (fun j => !(decide (s ≤ j) && nr (q' j) v)) i := zAl_cong (fun j hj => by
    show (!(decide (s ≤ j) && nr (q j) v)) = (!(decide (s ≤ j) && nr (q' j) v))
    rw [h j (by omega)])
  rw [h i (Nat.le_refl i), e]
theorem zFo_m {q : Nat → Nat} {k s i m v : Nat} (h : v ≠ m) : zFo M a g nr q k s i (m + 1) v = zFo M a g nr q k s i m v := by
  unfold zFo
  rw [show decide (v < m + 1) = decide (v < m) from by rw [decide_eq_decide]; omega]
theorem zFo_at {q : Nat → Nat} {k s i m : Nat} : zFo M a g nr q k s i m m = (g m && zPn nr q s i m) := by
  unfold zFo
  rw [decide_eq_false (Nat.lt_irrefl m), Bool.false_and, Bool.or_false]
theorem zFo_at1 {q : Nat → Nat} {k s i m : Nat} : zFo M a g nr q k s i (m + 1) m = (g m && (zPn nr q s i m || nr (q i) m)) := by
  unfold zFo
  rw [decide_eq_true (Nat.lt_succ_self m), Bool.true_and]
/-- the invariants depend on who is found alone -/
theorem zF_cg {q : Nat → Nat} {k s e i i' m m' w : Nat} {far : Nat → Int32} (hE : ∀ v, v < M → zLv M a g nr k v = false → zFo M a g nr q k s i m v = zFo M a g nr q k s i' m' v) (hs : s ≤ i') (he : i' ≤ e) (h1 : zFar M a g nr q k s i m far) (h2 : zQue M a g nr q k s e i m w) : zFar M a g nr q k s i' m' far ∧ zQue M a g nr q k s e i' m' w := by
  obtain ⟨a1, a2, a3, a4, a5, a6, a7, a8, a9⟩ := h2
  refine ⟨fun v hv => ⟨(h1 v hv).1, fun hl => by rw [← hE v hv hl]; exact (h1 v hv).2 hl⟩, hs, he, a3, a4, a5, a6, fun j hj1 hj2 => ⟨(a7 j hj1 hj2).1, by rw [← hE _ (a4 j hj2).1 (a7 j hj1 hj2).1]; exact (a7 j hj1 hj2).2⟩, fun v hv hl hf => a8 v hv hl (by rw [hE v hv hl]; exact hf), ?_⟩
  rw [a9]
  refine zct_cong (fun v hv => ?_)
  cases hl : zLv M a g nr k v with
  | true => rfl
  | false => rw [hE v hv hl]
theorem zF_no {q : Nat → Nat} {k s e i m w : Nat} {far : Nat → Int32} (hm : m < M) (hn : far m = -1 → nr (q i) m = false) (h1 : zFar M a g nr q k s i m far) (h2 : zQue M a g nr q k s e i m w) : zFar M a g nr q k s i (m + 1) far ∧ zQue M a g nr q k s e i (m + 1) w := by
  refine zF_cg (fun v hv hl => ?_) h2.1 h2.2.1 h1 h2
  by_cases ev : v = m
  · subst ev
    have h3 := (h1 v hm).2 hl
    rw [zFo_at] at h3 ⊢
    rw [zFo_at1]
    cases hg : g v with
    | false => rfl
    | true =>
      rw [hg] at h3
      cases hp : zPn nr q s i v with
      | true => rfl
      | false =>
        rw [hp] at h3
        rw [hn (by simpa using h3)]
        rfl
  · exact (zFo_m ev).symm
theorem zF_yes {q : Nat → Nat} {k s e i m w : Nat} {far : Nat → Int32} (hk : k < 2 ^ 30) (hm : m < M) (hi : i < e) (hfm : far m = -1) (hn : nr (q i) m = true) (h1 : zFar M a g nr q k s i m far) (h2 : zQue M a g nr q k s e i m w) : zFar M a g nr (zupd q w m) k s i (m + 1) (upd far m (nI (k + 1))) ∧ zQue M a g nr (zupd q w m) k s e i (m + 1) (w + 1) := by
  obtain ⟨a1, a2, a3, a4, a5, a6, a7, a8, a9⟩ := h2
  have hq : ∀ j, j < w → q j = zupd q w m j := fun j hj => (zupd_ne _ _ (by omega)).symm
  have hfo : ∀ v m2, zFo M a g nr (zupd q w m) k s i m2 v = zFo M a g nr q k s i m2 v := fun v m2 => (zFo_q (fun j hj => hq j (by omega))).symm
  have hl : zLv M a g nr k m = false := by
    cases e1 : zLv M a g nr k m with
    | false => rfl
    | true =>
      obtain ⟨j, hj, -, e2⟩ := (h1 m hm).1 e1
      rw [hfm] at e2
      exact absurd (e2 ▸ nI_pos (by omega) : ¬ (-1 : Int32) < 0) (by decide)
  have h3 := (h1 m hm).2 hl
  rw [hfm] at h3
  have hg : g m = true := by
    cases e1 : g m with
    | true => rfl
    | false => rw [e1] at h3; exact absurd (show (-1 : Int32) = -2 from h3) (by decide)
  have hp : zFo M a g nr q k s i m m = false := by
    cases e1 : zFo M a g nr q k s i m m with
    | false => rfl
    | true =>
      rw [hg, e1, if_pos rfl, if_pos rfl] at h3
      exact absurd (h3 ▸ nI_pos (by omega) : ¬ (-1 : Int32) < 0) (by decide)
  have hy : zFo M a g nr q k s i (m + 1) m = true := by
    rw [zFo_at1, hg, hn, Bool.or_true]
    rfl
  constructor
  · intro v hv
    rw [hfo]
    by_cases ev : v = m
    · subst ev
      refine ⟨fun q9 => by (rw [hl] at q9; cases q9), fun _ => ?_⟩
      rw [upd_at, hg, hy, if_pos rfl, if_pos rfl]
    · rw [upd_ne _ _ ev, zFo_m ev]
      exact h1 v hv
  · refine ⟨a1, a2, by omega, fun j hj => ?_, fun j hj1 hj2 => ?_, fun v hv hz => ?_, fun j hj1 hj2 => ?_, fun v hv hz hf => ?_, ?_⟩
    · by_cases ej : j = w
      · subst ej; rw [zupd_at]; exact ⟨hm, hg⟩
      · rw [zupd_ne _ _ ej]; exact a4 j (by omega)
    · rw [zupd_ne _ _ (by omega)]; exact a5 j hj1 hj2
    · obtain ⟨j, j1, j2, j3⟩ := a6 v hv hz
      exact ⟨j, j1, j2, by rw [zupd_ne _ _ (by omega)]; exact j3⟩
    · rw [hfo]
      by_cases ej : j = w
      · subst ej; rw [zupd_at]; exact ⟨hl, hy⟩
      · rw [zupd_ne _ _ ej]
        obtain ⟨b1, b2⟩ := a7 j hj1 (by omega)
        refine ⟨b1, ?_⟩
        by_cases em : q j = m
        · rw [em]; exact hy
        · rw [zFo_m em]; exact b2
    · rw [hfo] at hf
      by_cases ev : v = m
      · subst ev
        exact ⟨w, a3, by omega, zupd_at _ _ _⟩
      · rw [zFo_m ev] at hf
        obtain ⟨j, j1, j2, j3⟩ := a8 v hv hz hf
        exact ⟨j, j1, by omega, by rw [zupd_ne _ _ (by omega)]; exact j3⟩
    · have := zct_flip (c := fun v => zLv M a g nr k v || zFo M a g nr q k s i m v) (c' := fun v => zLv M a g nr k v || zFo M a g nr (zupd q w m) k s i (m + 1) v) (m := m) (n := M) hm (fun v hv hne => by
        show (_ || _) = (_ || _)
        rw [hfo, zFo_m hne]) (by show (_ || _) = false; rw [hl, hp]; rfl) (by show (_ || _) = true; rw [hfo, hy, Bool.or_true])
      rw [this, ← a9]
theorem zF_next {q : Nat → Nat} {k s e i w : Nat} {far : Nat → Int32} (hi : i < e) (h1 : zFar M a g nr q k s i M far) (h2 : zQue M a g nr q k s e i M w) : zFar M a g nr q k s (i + 1) 0 far ∧ zQue M a g nr q k s e (i + 1) 0 w := by
  refine zF_cg (fun v hv hl => ?_) (by have := h2.1; omega) (by omega) h1 h2
  unfold zFo
  rw [zPn_s h2.1, decide_eq_true hv, Bool.true_and, decide_eq_false (Nat.not_lt_zero v), Bool.false_and, Bool.or_false]
/-- behind the last of those at k steps: who is found is who comes next -/
theorem zF_key {q : Nat → Nat} {k s e w : Nat} (h2 : zQue M a g nr q k s e e 0 w) {v : Nat} (hl : zLv M a g nr k v = false) : zLv M a g nr (k + 1) v = zFo M a g nr q k s e 0 v := by
  obtain ⟨a1, a2, a3, a4, a5, a6, a7, a8, a9⟩ := h2
  have mn : ∀ j u, zLv M a g nr j u = true → ∃ i, i ≤ j ∧ zMn M a g nr i u := by
    intro j u
    induction j with
    | zero => exact fun h => ⟨0, Nat.le_refl 0, h, fun i hi => absurd hi (Nat.not_lt_zero i)⟩
    | succ j ih =>
      intro h
      cases e1 : zLv M a g nr j u with
      | true =>
        obtain ⟨i, hi, h3⟩ := ih e1
        exact ⟨i, by omega, h3⟩
      | false =>
        refine ⟨j + 1, Nat.le_refl _, h, fun i hi => ?_⟩
        cases e2 : zLv M a g nr i u with
        | false => rfl
        | true => rw [zLv_le e2 (show i ≤ j by omega)] at e1; cases e1
  rw [zLv, hl, Bool.false_or]
  unfold zFo
  rw [decide_eq_false (Nat.not_lt_zero v), Bool.false_and, Bool.or_false]
  cases hg : g v with
  | false => rfl
  | true =>
    rw [Bool.true_and, Bool.true_and]
    cases hp : zPn nr q s e v with
    | true =>
      obtain ⟨j, hj, h3⟩ := zEx_iff.mp hp
      rw [Bool.and_eq_true] at h3
      have h4 := a5 j (of_decide_eq_true h3.1) hj
      exact zEx_iff.mpr ⟨q j, (a4 j (by omega)).1, by rw [h4.1, h3.2]; rfl⟩
    | false =>
      refine zEx_no.mpr (fun u hu => ?_)
      cases h5 : zLv M a g nr k u with
      | false => rfl
      | true =>
        cases h6 : nr u v with
        | false => rfl
        | true =>
          obtain ⟨j, hj, h7⟩ := mn k u h5
          rcases Nat.lt_or_ge j k with h8 | h8
          · have : zLv M a g nr (j + 1) v = true := by
              rw [zLv, hg, zEx_iff.mpr ⟨u, hu, by rw [h7.1, h6]; rfl⟩]
              simp
            rw [zLv_le this (by omega)] at hl
            cases hl
          · have : j = k := by omega
            subst this
            obtain ⟨i, i1, i2, i3⟩ := a6 u hu h7
            have := zEx_no.mp hp i i2
            rw [decide_eq_true i1, i3, h6] at this
            cases this
theorem zF_re {q : Nat → Nat} {k s e w : Nat} {far : Nat → Int32} (h1 : zFar M a g nr q k s e 0 far) (h2 : zQue M a g nr q k s e e 0 w) : zFar M a g nr q (k + 1) e e 0 far ∧ zQue M a g nr q (k + 1) e w e 0 w := by
  have key := fun v => zF_key (v := v) h2
  obtain ⟨a1, a2, a3, a4, a5, a6, a7, a8, a9⟩ := h2
  have hno : ∀ v, zFo M a g nr q (k + 1) e e 0 v = false := fun v => by
    unfold zFo
    rw [decide_eq_false (Nat.not_lt_zero v), Bool.false_and, Bool.or_false, show zPn nr q e e v = false from zEx_no.mpr (fun j hj => by rw [decide_eq_false (show ¬ e ≤ j by omega)]; rfl), Bool.and_false]
  have mk : ∀ v, zLv M a g nr k v = false → zLv M a g nr (k + 1) v = true → zMn M a g nr (k + 1) v := fun v h3 h4 => ⟨h4, fun i hi => by
    cases e2 : zLv M a g nr i v with
    | false => rfl
    | true => rw [zLv_le e2 (show i ≤ k by omega)] at h3; cases h3⟩
  constructor
  · intro v hv
    rw [hno]
    constructor
    · intro h4
      cases h3 : zLv M a g nr k v with
      | true =>
        obtain ⟨j, j1, j2, j3⟩ := (h1 v hv).1 h3
        exact ⟨j, by omega, j2, j3⟩
      | false =>
        have h5 := (h1 v hv).2 h3
        have h6 := key v h3
        rw [h4] at h6
        rw [← h6, if_pos rfl] at h5
        have hg : g v = true := by
          cases hg : g v with
          | true => rfl
          | false => unfold zFo at h6; rw [hg] at h6; cases h6
        rw [hg, if_pos rfl] at h5
        exact ⟨k + 1, Nat.le_refl _, mk v h3 h4, h5⟩
    · intro h4
      cases h3 : zLv M a g nr k v with
      | true => rw [zLv_s h3] at h4; cases h4
      | false =>
        have h5 := (h1 v hv).2 h3
        rw [← key v h3, h4] at h5
        exact h5
  · refine ⟨Nat.le_refl e, a3, Nat.le_refl w, a4, fun j hj1 hj2 => ?_, fun v hv hz => ?_, fun j hj1 hj2 => absurd hj2 (by omega), fun v hv hz hf => ?_, ?_⟩
    · obtain ⟨b1, b2⟩ := a7 j hj1 hj2
      exact mk _ b1 (by rw [key _ b1]; exact b2)
    · have h3 := hz.2 k (by omega)
      exact a8 v hv h3 (by rw [← key v h3]; exact hz.1)
    · rw [hno] at hf; cases hf
    · rw [a9]
      refine zct_cong (fun v hv => ?_)
      rw [hno, Bool.or_false]
      cases h3 : zLv M a g nr k v with
      | true => rw [zLv_s h3]; rfl
      | false => rw [key v h3, Bool.false_or]
/-- at the end of the queue: nobody else is reached -/
theorem zF_end {q : Nat → Nat} {k s e b : Nat} {far : Nat → Int32} (hb : b < M) (h1 : zFar M a g nr q k s e 0 far) (h2 : zQue M a g nr q k s e e 0 e) : (∃ j, zMn M a g nr j b ∧ j ≤ k ∧ far b = nI j) ∨ ((∀ j, zLv M a g nr j b = false) ∧ (far b = -1 ∨ far b = -2)) := by
  have key := fun v => zF_key (v := v) h2
  obtain ⟨a1, a2, a3, a4, a5, a6, a7, a8, a9⟩ := h2
  have hno : ∀ v, v < M → zLv M a g nr k v = false → zFo M a g nr q k s e 0 v = false := fun v hv h3 => by
    cases h4 : zFo M a g nr q k s e 0 v with
    | false => rfl
    | true =>
      obtain ⟨j, j1, j2, -⟩ := a8 v hv h3 h4
      omega
  cases h3 : zLv M a g nr k b with
  | true =>
    obtain ⟨j, j1, j2, j3⟩ := (h1 b hb).1 h3
    exact Or.inl ⟨j, j2, j1, j3⟩
  | false =>
    right
    refine ⟨zLv_stop (fun v hv h4 => ?_) hb h3, ?_⟩
    · cases h5 : zLv M a g nr k v with
      | true => rfl
      | false => rw [key v h5, hno v hv h5] at h4; cases h4
    · have h5 := (h1 b hb).2 h3
      rw [hno b hb h3] at h5
      cases hg : g b with
      | true => rw [hg] at h5; exact Or.inl h5
      | false => rw [hg] at h5; exact Or.inr h5
/-- one that has been told a number of steps has it -/
theorem zF_got {q : Nat → Nat} {k s e i m w b : Nat} {far : Nat → Int32} (hb : b < M) (hi : i < e) (h1 : zFar M a g nr q k s i m far) (h2 : zQue M a g nr q k s e i m w) (h0 : ¬ far b < 0) : ∃ j, zMn M a g nr j b ∧ j ≤ k + 1 ∧ far b = nI j := by
  obtain ⟨a1, a2, a3, a4, a5, a6, a7, a8, a9⟩ := h2
  cases h3 : zLv M a g nr k b with
  | true =>
    obtain ⟨j, j1, j2, j3⟩ := (h1 b hb).1 h3
    exact ⟨j, j2, by omega, j3⟩
  | false =>
    have h5 := (h1 b hb).2 h3
    cases hg : g b with
    | false => rw [hg] at h5; rw [show far b = -2 from h5] at h0; exact absurd (by decide) h0
    | true =>
      rw [hg, if_pos rfl] at h5
      cases hf : zFo M a g nr q k s i m b with
      | false => rw [hf] at h5; rw [show far b = -1 from h5] at h0; exact absurd (by decide) h0
      | true =>
        rw [hf, if_pos rfl] at h5
        unfold zFo at hf
        rw [hg, Bool.true_and, Bool.or_eq_true] at hf
        refine ⟨k + 1, ?_, Nat.le_refl _, h5⟩
        rcases hf with hf | hf
        · obtain ⟨j, hj, h7⟩ := zEx_iff.mp hf
          rw [Bool.and_eq_true] at h7
          have h8 := a5 j (of_decide_eq_true h7.1) (by omega)
          exact zLv_new h3 hg (a4 j (by omega)).1 h8.1 h7.2
        · rw [Bool.and_eq_true] at hf
          exact zLv_new h3 hg (a4 i (by omega)).1 (a5 i a1 hi).1 hf.2
theorem zct_one {a9 : Nat} : ∀ {n : Nat}, a9 < n → zct (fun v => decide (v = a9)) n = 1
  | 0, h => absurd h (Nat.not_lt_zero _)
  | n + 1, h => by
    rw [zct]
    by_cases e : a9 = n
    · subst e
      rw [zct_cong (c' := fun _ => false) (fun i hi => decide_eq_false (by omega)), decide_eq_true rfl]
      have : ∀ k, zct (fun _ => false) k = 0 := fun k => by
        induction k with
        | zero => rfl
        | succ k ih => rw [zct, ih]; rfl
      rw [this]; rfl
    · rw [zct_one (by omega), decide_eq_false (fun q => e q.symm)]; rfl
theorem zF_0 {q : Nat → Nat} {far : Nat → Int32} (ha : a < M) (hg : g a = true) (hq : q 0 = a) (h0 : far a = nI 0) (hf : ∀ v, v < M → v ≠ a → far v = if g v then -1 else -2) : zFar M a g nr q 0 0 0 0 far ∧ zQue M a g nr q 0 0 1 0 0 1 := by
  have hno : ∀ v, zFo M a g nr q 0 0 0 0 v = false := fun v => by
    unfold zFo
    rw [decide_eq_false (Nat.not_lt_zero v), Bool.false_and, Bool.or_false, show zPn nr q 0 0 v = false from rfl, Bool.and_false]
  have ha0 : zMn M a g nr 0 a := ⟨decide_eq_true rfl, fun j hj => absurd hj (Nat.not_lt_zero j)⟩
  constructor
  · intro v hv
    rw [hno]
    constructor
    · intro h
      have : v = a := of_decide_eq_true h
      subst this
      exact ⟨0, Nat.le_refl 0, ha0, h0⟩
    · intro h
      rw [hf v hv (of_decide_eq_false h)]
      rfl
  · refine ⟨Nat.le_refl 0, by omega, by omega, fun j hj => ?_, fun j _ hj => ?_, fun v hv hz => ⟨0, Nat.le_refl 0, by omega, ?_⟩, fun j h1 h2 => absurd h1 (by omega), fun v hv hz hf => ?_, ?_⟩
    · have : j = 0 := by omega
      subst this; rw [hq]; exact ⟨ha, hg⟩
    · have : j = 0 := by omega
      subst this; rw [hq]; exact ha0
    · rw [hq]; exact (of_decide_eq_true hz.1).symm
    · rw [hno] at hf; cases hf
    · rw [zct_cong (c' := fun v => decide (v = a)) (fun v hv => by rw [hno, Bool.or_false]; rfl), zct_one ha]
end ZF
/-- the class' Fences -/
def zfS (o : Nat) : Nat → Prop := fun j => o ≤ j ∧ j ≤ o + 2
def zF0 (h : zH) (o : Nat) (fr qu : Nat → Int32) : Prop := h.2.2 o = .inr (2, [.ref (o + 1), .ref (o + 2)]) ∧ h.2.2 (o + 1) = .inl (0, 512, .inl fr) ∧ h.2.2 (o + 2) = .inl (0, 512, .inl qu)
theorem zfS_in {o k : Nat} (h : k ≤ 2) : zfS o (o + k) := ⟨by omega, by omega⟩
theorem zF0.p_fr {h : zH} {o : Nat} {fr qu q : Nat → Int32} (hF : zF0 h o fr qu) : zF0 (zset h (o + 1) (.inl (0, 512, .inl q))) o q qu := ⟨by rw [zset_ne _ _ (by omega)]; exact hF.1, zset_eq _ _ _, by rw [zset_ne _ _ (by omega)]; exact hF.2.2⟩
theorem zF0.p_qu {h : zH} {o : Nat} {fr qu q : Nat → Int32} (hF : zF0 h o fr qu) : zF0 (zset h (o + 2) (.inl (0, 512, .inl q))) o fr q := ⟨by rw [zset_ne _ _ (by omega)]; exact hF.1, by rw [zset_ne _ _ (by omega)]; exact hF.2.1, zset_eq _ _ _⟩
def zfN (o q : Nat) : Prop := q + 2 < o ∨ o + 2 < q
theorem zSp.ff {h h1 : zH} {o q n : Nat} {lo hi : Nat → Nat} (hF : zFr (zfS o) h h1) (ha : zfN o q) (hS : zSp h q n lo hi) : zSp h1 q n lo hi := by
  unfold zfN at ha
  exact zSp.fr hF (by unfold zfS; omega) (by unfold zfS; omega) (by unfold zfS; omega) hS
/-- which maps are good, and which are beside one another -/
def zGd (na nb : Nat) (la lb : Nat → Nat) (v : Nat) : Bool := zWh na nb la lb (nI v)
theorem zGd_d {na nb v : Nat} {la lb : Nat → Nat} (hn : na ≤ 8) (hv : v < 2 ^ 31) (h : zGd na nb la lb v = true) : v < 2 ^ 24 ∧ ∀ i, i < na → zDig v i < nb := by
  unfold zGd zWh at h
  rw [Bool.and_eq_true] at h
  obtain ⟨w, -, h2, h3, -, h5⟩ := zMp_w hn h.1
  have := nI_inj32 (by omega) (by omega) h3
  subst this
  exact ⟨h2, h5⟩
theorem zF_at {M a : Nat} {g : Nat → Bool} {nr : Nat → Nat → Bool} {q : Nat → Nat} {k s e i m w : Nat} {far : Nat → Int32} (hi : i < e) (h1 : zFar M a g nr q k s i m far) (h2 : zQue M a g nr q k s e i m w) : far (q i) = nI k := by
  obtain ⟨a1, a2, a3, a4, a5, a6, a7, a8, a9⟩ := h2
  have h3 := a5 i a1 hi
  obtain ⟨j, -, h5, h6⟩ := (h1 (q i) (a4 i (by omega)).1).1 h3.1
  rw [h6, zMn_un h5 h3]
theorem zF_w {M a : Nat} {g : Nat → Bool} {nr : Nat → Nat → Bool} {q : Nat → Nat} {k s e i m w : Nat} (h2 : zQue M a g nr q k s e i m w) : w ≤ M := by
  rw [h2.2.2.2.2.2.2.2.2]
  exact zct_le _ _
theorem zF_any {M a : Nat} {g : Nat → Bool} {nr : Nat → Nat → Bool} {q : Nat → Nat} {k s e i w : Nat} {far : Nat → Int32} (hiw : i < w) (hks : k ≤ s) (h1 : zFar M a g nr q k s i 0 far) (h2 : zQue M a g nr q k s e i 0 w) (hse : s < e) : ∃ k s e, zFar M a g nr q k s i 0 far ∧ zQue M a g nr q k s e i 0 w ∧ i < e ∧ k ≤ s ∧ s < e := by
  rcases Nat.lt_or_ge i e with c | c
  · exact ⟨k, s, e, h1, h2, c, hks, hse⟩
  · have : i = e := Nat.le_antisymm h2.2.1 c
    subst this
    obtain ⟨h3, h4⟩ := zF_re h1 h2
    exact ⟨k + 1, i, w, h3, h4, hiw, by omega, hiw⟩
theorem zF_fin {M a : Nat} {g : Nat → Bool} {nr : Nat → Nat → Bool} {q : Nat → Nat} {k s e i w b : Nat} {far : Nat → Int32} (hb : b < M) (hiw : w ≤ i) (hks : k ≤ s) (h1 : zFar M a g nr q k s i 0 far) (h2 : zQue M a g nr q k s e i 0 w) : (∃ j, zMn M a g nr j b ∧ j ≤ i ∧ far b = nI j) ∨ ((∀ j, zLv M a g nr j b = false) ∧ (far b = -1 ∨ far b = -2)) := by
  have e1 : i = e := Nat.le_antisymm h2.2.1 (Nat.le_trans h2.2.2.1 hiw)
  have e2 : w = e := Nat.le_antisymm (e1 ▸ hiw) h2.2.2.1
  have h3 := h2.1
  subst e1 e2
  rcases zF_end hb h1 h2 with ⟨j, j1, j2, j3⟩ | h
  · exact Or.inl ⟨j, j1, by omega, j3⟩
  · exact Or.inr h
