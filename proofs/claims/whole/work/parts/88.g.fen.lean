/-! fences: the reference's rounds -/
section ZFR
variable {M a : Nat} {g : Nat → Bool} {nr : Nat → Nat → Bool}
/-- in just n steps -/
def zMb (M a : Nat) (g : Nat → Bool) (nr : Nat → Nat → Bool) (n u : Nat) : Bool := zLv M a g nr n u && (decide (n = 0) || !zLv M a g nr (n - 1) u)
theorem zMb_iff {n u : Nat} : zMb M a g nr n u = true ↔ zMn M a g nr n u := by
  unfold zMb zMn
  rw [Bool.and_eq_true, Bool.or_eq_true, decide_eq_true_eq, Bool.not_eq_true']
  refine and_congr Iff.rfl ⟨fun h j hj => ?_, fun h => ?_⟩
  · rcases h with h | h
    · omega
    · cases e : zLv M a g nr j u with
      | false => rfl
      | true => rw [zLv_le e (show j ≤ n - 1 by omega)] at h; cases h
  · by_cases e : n = 0
    · exact Or.inl e
    · exact Or.inr (h (n - 1) (by omega))
/-- found in round n, behind all below k, and of k's own those below i -/
def zRq (M a : Nat) (g : Nat → Bool) (nr : Nat → Nat → Bool) (n k i v : Nat) : Bool := g v && (zEx (fun u => zMb M a g nr n u && nr u v) k || (decide (v < i) && (zMb M a g nr n k && nr k v)))
theorem zRq_ne {n k i v : Nat} (h : v ≠ i) : zRq M a g nr n k (i + 1) v = zRq M a g nr n k i v := by
  unfold zRq
  rw [show decide (v < i + 1) = decide (v < i) from decide_eq_decide.mpr (by omega)]
theorem zRq_at {n k i : Nat} : zRq M a g nr n k (i + 1) i = (zRq M a g nr n k i i || (g i && (zMb M a g nr n k && nr k i))) := by
  unfold zRq
  rw [decide_eq_true (show i < i + 1 by omega), decide_eq_false (show ¬ i < i by omega)]
  cases g i <;> cases zEx (fun u => zMb M a g nr n u && nr u i) k <;> rfl
theorem zEx_s {p : Nat → Bool} {n : Nat} : zEx p (n + 1) = (zEx p n || p n) := by
  unfold zEx
  rw [zAl]
  cases zAl (fun i => !p i) n <;> cases p n <;> rfl
theorem zRq_no {n k i v : Nat} (h : zMb M a g nr n k = false) : zRq M a g nr n (k + 1) 0 v = zRq M a g nr n k i v := by
  unfold zRq
  rw [zEx_s, h, decide_eq_false (Nat.not_lt_zero v)]
  simp
theorem zRq_M {n k v : Nat} (h : v < M) : zRq M a g nr n (k + 1) 0 v = zRq M a g nr n k M v := by
  unfold zRq
  rw [zEx_s, decide_eq_true h, decide_eq_false (Nat.not_lt_zero v)]
  simp
theorem zRq_0 {n v : Nat} : zRq M a g nr n 0 0 v = false := by
  unfold zRq
  rw [decide_eq_false (Nat.not_lt_zero v), show zEx (fun u => zMb M a g nr n u && nr u v) 0 = false from rfl]
  simp
theorem zLv_mn {n u : Nat} : zLv M a g nr n u = true → ∃ j, j ≤ n ∧ zMn M a g nr j u := by
  induction n with
  | zero => exact fun h => ⟨0, Nat.le_refl 0, h, fun j hj => absurd hj (Nat.not_lt_zero j)⟩
  | succ n ih =>
    intro h
    cases e : zLv M a g nr n u with
    | true =>
      obtain ⟨j, h1, h2⟩ := ih e
      exact ⟨j, by omega, h2⟩
    | false =>
      refine ⟨n + 1, Nat.le_refl _, h, fun j hj => ?_⟩
      cases e2 : zLv M a g nr j u with
      | false => rfl
      | true => rw [zLv_le e2 (show j ≤ n by omega)] at e; cases e
/-- a round's finds are those that are new -/
theorem zRq_all {n v : Nat} (h : zLv M a g nr n v = false) : zRq M a g nr n M 0 v = zLv M a g nr (n + 1) v := by
  have key : zRq M a g nr n M 0 v = true ↔ zLv M a g nr (n + 1) v = true := by
    unfold zRq
    rw [decide_eq_false (Nat.not_lt_zero v), Bool.false_and, Bool.or_false, Bool.and_eq_true, zLv, h, Bool.false_or, Bool.and_eq_true, zEx_iff, zEx_iff]
    refine and_congr_right (fun hg => ⟨fun ⟨u, hu, e⟩ => ?_, fun ⟨u, hu, e⟩ => ?_⟩)
    · rw [Bool.and_eq_true] at e
      exact ⟨u, hu, by rw [(zMb_iff.mp e.1).1, e.2]; rfl⟩
    · rw [Bool.and_eq_true] at e
      obtain ⟨j, h1, h2⟩ := zLv_mn e.1
      refine ⟨u, hu, ?_⟩
      rw [Bool.and_eq_true]
      refine ⟨?_, e.2⟩
      by_cases ej : j = n
      · rw [← ej]; exact zMb_iff.mpr h2
      · have : zLv M a g nr (j + 1) v = true := by
          rw [zLv, hg, zEx_iff.mpr ⟨u, hu, by rw [h2.1, e.2]; rfl⟩]; simp
        rw [zLv_le this (show j + 1 ≤ n by omega)] at h
        cases h
  cases e1 : zRq M a g nr n M 0 v with
  | true => exact (key.mp e1).symm
  | false =>
    cases e2 : zLv M a g nr (n + 1) v with
    | false => rfl
    | true => rw [key.mpr e2] at e1; cases e1
/-- the far row in round n -/
def zFq (M a : Nat) (g : Nat → Bool) (nr : Nat → Nat → Bool) (n k i : Nat) (far : Nat → Int32) : Prop := ∀ v, v < M → (∀ j, j ≤ n → zMn M a g nr j v → far v = nI j) ∧ (zLv M a g nr n v = false → far v = if zRq M a g nr n k i v then nI (n + 1) else if g v then -1 else -2)
/-- whether something has been found -/
def zFm9 (M a : Nat) (g : Nat → Bool) (nr : Nat → Nat → Bool) (n k i mo : Nat) : Prop := mo ≤ 1 ∧ (0 < mo ↔ ∃ v, v < M ∧ zLv M a g nr n v = false ∧ zRq M a g nr n k i v = true)
theorem zFq.cg {n k i k2 i2 : Nat} {far : Nat → Int32} (h : zFq M a g nr n k i far) (e : ∀ v, v < M → zRq M a g nr n k2 i2 v = zRq M a g nr n k i v) : zFq M a g nr n k2 i2 far := fun v hv => ⟨(h v hv).1, fun hl => by rw [e v hv]; exact (h v hv).2 hl⟩
theorem zFm9.cg {n k i k2 i2 mo : Nat} (h : zFm9 M a g nr n k i mo) (e : ∀ v, v < M → zRq M a g nr n k2 i2 v = zRq M a g nr n k i v) : zFm9 M a g nr n k2 i2 mo := ⟨h.1, h.2.trans ⟨fun ⟨v, h1, h2, h3⟩ => ⟨v, h1, h2, by rw [e v h1]; exact h3⟩, fun ⟨v, h1, h2, h3⟩ => ⟨v, h1, h2, by rw [← e v h1]; exact h3⟩⟩⟩
theorem zFq_n {n k i u : Nat} {far : Nat → Int32} (hn : n + 1 < 2 ^ 31) (h : zFq M a g nr n k i far) (hu : u < M) : far u = nI n ↔ zMb M a g nr n u = true := by
  constructor
  · intro e
    cases e2 : zLv M a g nr n u with
    | true =>
      obtain ⟨j, h1, h2⟩ := zLv_mn e2
      have := (h u hu).1 j h1 h2
      rw [e] at this
      rw [(nI_inj (by omega) (by omega)).mp this]
      exact zMb_iff.mpr h2
    | false =>
      have := (h u hu).2 e2
      rw [e] at this
      split at this
      · exact absurd ((nI_inj (by omega) (by omega)).mp this) (by omega)
      · split at this
        · exact absurd (this ▸ nI_pos (show n < 2 ^ 31 by omega) : ¬ (-1 : Int32) < 0) (by decide)
        · exact absurd (this ▸ nI_pos (show n < 2 ^ 31 by omega) : ¬ (-2 : Int32) < 0) (by decide)
  · intro e
    exact (h u hu).1 n (Nat.le_refl n) (zMb_iff.mp e)
/-- one that has not been found, and may be -/
theorem zFq_m1 {n k i u : Nat} {far : Nat → Int32} (hn : n + 1 < 2 ^ 31) (h : zFq M a g nr n k i far) (hu : u < M) : far u = -1 ↔ zLv M a g nr n u = false ∧ zRq M a g nr n k i u = false ∧ g u = true := by
  constructor
  · intro e
    cases e2 : zLv M a g nr n u with
    | true =>
      obtain ⟨j, h1, h2⟩ := zLv_mn e2
      have := (h u hu).1 j h1 h2
      rw [e] at this
      exact absurd (this ▸ nI_pos (show j < 2 ^ 31 by omega) : ¬ (-1 : Int32) < 0) (by decide)
    | false =>
      have := (h u hu).2 e2
      rw [e] at this
      split at this
      · exact absurd (this ▸ nI_pos (show n + 1 < 2 ^ 31 by omega) : ¬ (-1 : Int32) < 0) (by decide)
      · next g1 =>
        split at this
        · next g2 => exact ⟨rfl, by simpa using g1, g2⟩
        · exact absurd this (by decide)
  · rintro ⟨e1, e2, e3⟩
    rw [(h u hu).2 e1, e2, e3]; rfl
/-- the next one of k's own, not new -/
theorem zFq.no {n k i mo : Nat} {far : Nat → Int32} (h : zFq M a g nr n k i far) (h2 : zFm9 M a g nr n k i mo) (hi : i < M) (e : zLv M a g nr n i = false → zRq M a g nr n k (i + 1) i = zRq M a g nr n k i i) : zFq M a g nr n k (i + 1) far ∧ zFm9 M a g nr n k (i + 1) mo := by
  have e9 : ∀ v, zLv M a g nr n v = false → zRq M a g nr n k (i + 1) v = zRq M a g nr n k i v := fun v hl => by
    by_cases g9 : v = i
    · rw [g9] at hl ⊢; exact e hl
    · exact zRq_ne g9
  exact ⟨fun v hv => ⟨(h v hv).1, fun hl => by rw [e9 v hl]; exact (h v hv).2 hl⟩, h2.1, h2.2.trans ⟨fun ⟨v, a1, a2, a3⟩ => ⟨v, a1, a2, by rw [e9 v a2]; exact a3⟩, fun ⟨v, a1, a2, a3⟩ => ⟨v, a1, a2, by rw [← e9 v a2]; exact a3⟩⟩⟩
theorem zFq.yes {n k i mo : Nat} {far : Nat → Int32} (h : zFq M a g nr n k i far) (hi : i < M) (h1 : zLv M a g nr n i = false) (hg : g i = true) (hk : zMb M a g nr n k = true) (hnr : nr k i = true) : zFq M a g nr n k (i + 1) (upd far i (nI (n + 1))) ∧ zFm9 M a g nr n k (i + 1) 1 := by
  have e : zRq M a g nr n k (i + 1) i = true := by rw [zRq_at, hg, hk, hnr]; simp
  refine ⟨fun v hv => ?_, Nat.le_refl 1, fun _ => ⟨i, hi, h1, e⟩, fun _ => Nat.one_pos⟩
  by_cases g9 : v = i
  · rw [g9, upd_at, e]
    refine ⟨fun j hj hm => ?_, fun _ => rfl⟩
    rw [zLv_le hm.1 hj] at h1
    cases h1
  · rw [upd_ne _ _ g9, zRq_ne g9]
    exact h v hv
/-- the next round -/
theorem zFq.next {n mo : Nat} {far : Nat → Int32} (h : zFq M a g nr n M 0 far) (h2 : zFm9 M a g nr n M 0 mo) : zFq M a g nr (n + 1) 0 0 far ∧ (0 < mo → zct (zLv M a g nr n) M + 1 ≤ zct (zLv M a g nr (n + 1)) M) ∧ (mo = 0 → ∀ v, v < M → zLv M a g nr (n + 1) v = true → zLv M a g nr n v = true) := by
  refine ⟨fun v hv => ⟨fun j hj hm => ?_, fun hl => ?_⟩, fun h0 => ?_, fun h0 v hv hl => ?_⟩
  · by_cases e : j = n + 1
    · rw [e] at hm
      have hl := hm.2 n (by omega)
      have := (h v hv).2 hl
      rw [zRq_all hl, hm.1] at this
      rw [this, e]; rfl
    · exact (h v hv).1 j (by omega) hm
  · rw [zRq_0]
    have hl2 : zLv M a g nr n v = false := by
      cases e : zLv M a g nr n v with
      | false => rfl
      | true => rw [zLv_s e] at hl; cases hl
    have := (h v hv).2 hl2
    rw [zRq_all hl2, hl] at this
    exact this
  · obtain ⟨v, a1, a2, a3⟩ := h2.2.mp h0
    rw [zRq_all a2] at a3
    exact zct_lt a1 (fun u _ hu => zLv_s hu) a2 a3
  · cases e : zLv M a g nr n v with
    | true => rfl
    | false => exact absurd (h2.2.mpr ⟨v, hv, e, by rw [zRq_all e]; exact hl⟩) (by omega)
theorem zFq_start {far : Nat → Int32} (h : ∀ v, v < M → far v = if v = a then nI 0 else if g v then -1 else -2) : zFq M a g nr 0 0 0 far := fun v hv => by
  refine ⟨fun j hj hm => ?_, fun hl => ?_⟩
  · have hj : j = 0 := by omega
    rw [hj] at hm ⊢
    rw [h v hv, if_pos (of_decide_eq_true hm.1)]
  · rw [zRq_0, h v hv, if_neg (of_decide_eq_false hl)]; rfl
theorem zLv_cnt0 (ha : a < M) : 1 ≤ zct (zLv M a g nr 0) M := by
  have h := zct_lt (c := fun _ => false) (c' := zLv M a g nr 0) (n := M) ha (fun i _ h => by cases h) rfl (decide_eq_true rfl)
  omega
/-- how it ends -/
theorem zFq_end {n b : Nat} {far : Nat → Int32} (h : zFq M a g nr n 0 0 far) (hb : b < M) (hn : n + 1 < 2 ^ 31) (he : zc1 .ge (far b) = false → ∃ m, n = m + 1 ∧ ∀ v, v < M → zLv M a g nr (m + 1) v = true → zLv M a g nr m v = true) : zFd M a g nr b (if zc1 .ge (far b) then far b else -3) := by
  cases e : zLv M a g nr n b with
  | true =>
    obtain ⟨j, h1, h2⟩ := zLv_mn e
    have h3 := (h b hb).1 j h1 h2
    rw [h3, if_pos (show zc1 .ge (nI j) = true from decide_eq_true (nI_pos' (by omega)))]
    exact Or.inl ⟨j, h2, rfl⟩
  | false =>
    have h3 := (h b hb).2 e
    rw [zRq_0] at h3
    have h4 : zc1 .ge (far b) = false := by
      rw [h3]
      cases g b
      · show zc1 .ge (-2) = false
        decide
      · show zc1 .ge (-1) = false
        decide
    rw [h4]
    obtain ⟨m, rfl, h5⟩ := he h4
    have h6 : zLv M a g nr m b = false := by
      cases e2 : zLv M a g nr m b with
      | false => rfl
      | true => rw [zLv_s e2] at e; cases e
    exact Or.inr ⟨zLv_stop h5 hb h6, rfl⟩
end ZFR
