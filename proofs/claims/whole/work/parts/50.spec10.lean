/-! the class' Codes -/
def zkoS (o : Nat) : Nat → Prop := fun j => o ≤ j ∧ j ≤ o + 26
theorem zkoS_in {o k : Nat} (h : k ≤ 26) : zkoS o (o + k) := ⟨by omega, by omega⟩
def zupR (R : Nat → Nat → Int32) (k : Nat) (q : Nat → Int32) : Nat → Nat → Int32 := fun i => if i = k then q else R i
theorem zupR_at (R : Nat → Nat → Int32) (k : Nat) (q : Nat → Int32) : zupR R k q k = q := if_pos rfl
theorem zupR_ne (R : Nat → Nat → Int32) {k i : Nat} (q : Nat → Int32) (h : i ≠ k) : zupR R k q i = R i := if_neg h
/-- a row of five rows -/
def zRw5 (h : zH) (o : Nat) (R : Nat → Nat → Int32) : Prop := (∃ f : Nat → Option Nat, h.2.2 o = .inl (6, 5, .inr (.inr f)) ∧ ∀ i, i < 5 → f i = some (o + 1 + i)) ∧ ∀ i, i < 5 → h.2.2 (o + 1 + i) = .inl (0, 33, .inl (R i))
theorem zRw5.set {h : zH} {o k j : Nat} {R : Nat → Nat → Int32} {f : Nat → Int32} (hR : zRw5 h o R) (hk : k < 5) (hj : j = o + 1 + k) : zRw5 (zset h j (.inl (0, 33, .inl f))) o (zupR R k f) := by
  subst hj
  obtain ⟨⟨g, h1, h2⟩, h3⟩ := hR
  refine ⟨⟨g, by rw [zset_ne _ _ (by omega)]; exact h1, h2⟩, fun i hi => ?_⟩
  by_cases e : i = k
  · subst e
    rw [zset_eq]
    rw [zupR_at]
  · rw [zset_ne _ _ (by omega)]
    rw [zupR_ne _ _ e]
    exact h3 i hi
theorem zRw5.ne {h : zH} {o j : Nat} {R : Nat → Nat → Int32} {c : zC} (hR : zRw5 h o R) (hj : j < o ∨ o + 5 < j) : zRw5 (zset h j c) o R := by
  obtain ⟨⟨g, h1, h2⟩, h3⟩ := hR
  exact ⟨⟨g, by rw [zset_ne _ _ (by omega)]; exact h1, h2⟩, fun i hi => by rw [zset_ne _ _ (by omega)]; exact h3 i hi⟩
theorem zRw5.fr {S : Nat → Prop} {h h1 : zH} {o : Nat} {R : Nat → Nat → Int32} (hR : zRw5 h o R) (hF : zFr S h h1) (hS : ∀ k, k ≤ 5 → ¬ S (o + k)) : zRw5 h1 o R := by
  obtain ⟨⟨g, e1, e2⟩, e3⟩ := hR
  exact ⟨⟨g, hF.eq (hS 0 (by omega)) e1, e2⟩, fun i hi => hF.eq (by have := hS (1 + i) (by omega); rwa [← Nat.add_assoc] at this) (e3 i hi)⟩
def zCo0 (h : zH) (o : Nat) (ht : Int32) (od il al pl fo : Nat → Int32) (R S P : Nat → Nat → Int32) : Prop :=
  h.2.2 o = .inr (1, [.ref (o + 1), .ref (o + 4), .int ht, .ref (o + 5), .ref (o + 6), .ref (o + 7), .ref (o + 8), .ref (o + 9), .ref (o + 15), .ref (o + 21)]) ∧ h.2.2 (o + 4) = .inl (0, 5, .inl od) ∧ h.2.2 (o + 5) = .inl (3, 5, .inl il) ∧ h.2.2 (o + 6) = .inl (0, 5, .inl al) ∧ h.2.2 (o + 7) = .inl (0, 5, .inl pl) ∧ h.2.2 (o + 8) = .inl (0, 5, .inl fo) ∧ zRw5 h (o + 9) R ∧ zRw5 h (o + 15) S ∧ zRw5 h (o + 21) P
theorem zCo0.p_ht {h : zH} {o : Nat} {ht : Int32} {od il al pl fo : Nat → Int32} {R S P : Nat → Nat → Int32} {q : Int32} (hK : zCo0 h o ht od il al pl fo R S P) : zCo0 (zset h o (.inr (1, [.ref (o + 1), .ref (o + 4), .int q, .ref (o + 5), .ref (o + 6), .ref (o + 7), .ref (o + 8), .ref (o + 9), .ref (o + 15), .ref (o + 21)]))) o q od il al pl fo R S P := ⟨zset_eq _ _ _, (by rw [zset_ne _ _ (by omega)]; exact hK.2.1), (by rw [zset_ne _ _ (by omega)]; exact hK.2.2.1), (by rw [zset_ne _ _ (by omega)]; exact hK.2.2.2.1), (by rw [zset_ne _ _ (by omega)]; exact hK.2.2.2.2.1), (by rw [zset_ne _ _ (by omega)]; exact hK.2.2.2.2.2.1), hK.2.2.2.2.2.2.1.ne (by omega), hK.2.2.2.2.2.2.2.1.ne (by omega), hK.2.2.2.2.2.2.2.2.ne (by omega)⟩
theorem zCo0.p_od {h : zH} {o : Nat} {ht : Int32} {od il al pl fo : Nat → Int32} {R S P : Nat → Nat → Int32} {q : Nat → Int32} (hK : zCo0 h o ht od il al pl fo R S P) : zCo0 (zset h (o + 4) (.inl (0, 5, .inl q))) o ht q il al pl fo R S P := ⟨(by rw [zset_ne _ _ (by omega)]; exact hK.1), zset_eq _ _ _, (by rw [zset_ne _ _ (by omega)]; exact hK.2.2.1), (by rw [zset_ne _ _ (by omega)]; exact hK.2.2.2.1), (by rw [zset_ne _ _ (by omega)]; exact hK.2.2.2.2.1), (by rw [zset_ne _ _ (by omega)]; exact hK.2.2.2.2.2.1), hK.2.2.2.2.2.2.1.ne (by omega), hK.2.2.2.2.2.2.2.1.ne (by omega), hK.2.2.2.2.2.2.2.2.ne (by omega)⟩
theorem zCo0.p_il {h : zH} {o : Nat} {ht : Int32} {od il al pl fo : Nat → Int32} {R S P : Nat → Nat → Int32} {q : Nat → Int32} (hK : zCo0 h o ht od il al pl fo R S P) : zCo0 (zset h (o + 5) (.inl (3, 5, .inl q))) o ht od q al pl fo R S P := ⟨(by rw [zset_ne _ _ (by omega)]; exact hK.1), (by rw [zset_ne _ _ (by omega)]; exact hK.2.1), zset_eq _ _ _, (by rw [zset_ne _ _ (by omega)]; exact hK.2.2.2.1), (by rw [zset_ne _ _ (by omega)]; exact hK.2.2.2.2.1), (by rw [zset_ne _ _ (by omega)]; exact hK.2.2.2.2.2.1), hK.2.2.2.2.2.2.1.ne (by omega), hK.2.2.2.2.2.2.2.1.ne (by omega), hK.2.2.2.2.2.2.2.2.ne (by omega)⟩
theorem zCo0.p_al {h : zH} {o : Nat} {ht : Int32} {od il al pl fo : Nat → Int32} {R S P : Nat → Nat → Int32} {q : Nat → Int32} (hK : zCo0 h o ht od il al pl fo R S P) : zCo0 (zset h (o + 6) (.inl (0, 5, .inl q))) o ht od il q pl fo R S P := ⟨(by rw [zset_ne _ _ (by omega)]; exact hK.1), (by rw [zset_ne _ _ (by omega)]; exact hK.2.1), (by rw [zset_ne _ _ (by omega)]; exact hK.2.2.1), zset_eq _ _ _, (by rw [zset_ne _ _ (by omega)]; exact hK.2.2.2.2.1), (by rw [zset_ne _ _ (by omega)]; exact hK.2.2.2.2.2.1), hK.2.2.2.2.2.2.1.ne (by omega), hK.2.2.2.2.2.2.2.1.ne (by omega), hK.2.2.2.2.2.2.2.2.ne (by omega)⟩
theorem zCo0.p_pl {h : zH} {o : Nat} {ht : Int32} {od il al pl fo : Nat → Int32} {R S P : Nat → Nat → Int32} {q : Nat → Int32} (hK : zCo0 h o ht od il al pl fo R S P) : zCo0 (zset h (o + 7) (.inl (0, 5, .inl q))) o ht od il al q fo R S P := ⟨(by rw [zset_ne _ _ (by omega)]; exact hK.1), (by rw [zset_ne _ _ (by omega)]; exact hK.2.1), (by rw [zset_ne _ _ (by omega)]; exact hK.2.2.1), (by rw [zset_ne _ _ (by omega)]; exact hK.2.2.2.1), zset_eq _ _ _, (by rw [zset_ne _ _ (by omega)]; exact hK.2.2.2.2.2.1), hK.2.2.2.2.2.2.1.ne (by omega), hK.2.2.2.2.2.2.2.1.ne (by omega), hK.2.2.2.2.2.2.2.2.ne (by omega)⟩
theorem zCo0.p_fo {h : zH} {o : Nat} {ht : Int32} {od il al pl fo : Nat → Int32} {R S P : Nat → Nat → Int32} {q : Nat → Int32} (hK : zCo0 h o ht od il al pl fo R S P) : zCo0 (zset h (o + 8) (.inl (0, 5, .inl q))) o ht od il al pl q R S P := ⟨(by rw [zset_ne _ _ (by omega)]; exact hK.1), (by rw [zset_ne _ _ (by omega)]; exact hK.2.1), (by rw [zset_ne _ _ (by omega)]; exact hK.2.2.1), (by rw [zset_ne _ _ (by omega)]; exact hK.2.2.2.1), (by rw [zset_ne _ _ (by omega)]; exact hK.2.2.2.2.1), zset_eq _ _ _, hK.2.2.2.2.2.2.1.ne (by omega), hK.2.2.2.2.2.2.2.1.ne (by omega), hK.2.2.2.2.2.2.2.2.ne (by omega)⟩
theorem zCo0.p_R {h : zH} {o : Nat} {ht : Int32} {od il al pl fo : Nat → Int32} {R S P : Nat → Nat → Int32} {q : Nat → Int32} {k : Nat} (hk : k < 5) (hK : zCo0 h o ht od il al pl fo R S P) : zCo0 (zset h (o + 9 + 1 + k) (.inl (0, 33, .inl q))) o ht od il al pl fo (zupR R k q) S P := ⟨(by rw [zset_ne _ _ (by omega)]; exact hK.1), (by rw [zset_ne _ _ (by omega)]; exact hK.2.1), (by rw [zset_ne _ _ (by omega)]; exact hK.2.2.1), (by rw [zset_ne _ _ (by omega)]; exact hK.2.2.2.1), (by rw [zset_ne _ _ (by omega)]; exact hK.2.2.2.2.1), (by rw [zset_ne _ _ (by omega)]; exact hK.2.2.2.2.2.1), hK.2.2.2.2.2.2.1.set hk (by omega), hK.2.2.2.2.2.2.2.1.ne (by omega), hK.2.2.2.2.2.2.2.2.ne (by omega)⟩
theorem zCo0.p_S {h : zH} {o : Nat} {ht : Int32} {od il al pl fo : Nat → Int32} {R S P : Nat → Nat → Int32} {q : Nat → Int32} {k : Nat} (hk : k < 5) (hK : zCo0 h o ht od il al pl fo R S P) : zCo0 (zset h (o + 15 + 1 + k) (.inl (0, 33, .inl q))) o ht od il al pl fo R (zupR S k q) P := ⟨(by rw [zset_ne _ _ (by omega)]; exact hK.1), (by rw [zset_ne _ _ (by omega)]; exact hK.2.1), (by rw [zset_ne _ _ (by omega)]; exact hK.2.2.1), (by rw [zset_ne _ _ (by omega)]; exact hK.2.2.2.1), (by rw [zset_ne _ _ (by omega)]; exact hK.2.2.2.2.1), (by rw [zset_ne _ _ (by omega)]; exact hK.2.2.2.2.2.1), hK.2.2.2.2.2.2.1.ne (by omega), hK.2.2.2.2.2.2.2.1.set hk (by omega), hK.2.2.2.2.2.2.2.2.ne (by omega)⟩
theorem zCo0.p_P {h : zH} {o : Nat} {ht : Int32} {od il al pl fo : Nat → Int32} {R S P : Nat → Nat → Int32} {q : Nat → Int32} {k : Nat} (hk : k < 5) (hK : zCo0 h o ht od il al pl fo R S P) : zCo0 (zset h (o + 21 + 1 + k) (.inl (0, 33, .inl q))) o ht od il al pl fo R S (zupR P k q) := ⟨(by rw [zset_ne _ _ (by omega)]; exact hK.1), (by rw [zset_ne _ _ (by omega)]; exact hK.2.1), (by rw [zset_ne _ _ (by omega)]; exact hK.2.2.1), (by rw [zset_ne _ _ (by omega)]; exact hK.2.2.2.1), (by rw [zset_ne _ _ (by omega)]; exact hK.2.2.2.2.1), (by rw [zset_ne _ _ (by omega)]; exact hK.2.2.2.2.2.1), hK.2.2.2.2.2.2.1.ne (by omega), hK.2.2.2.2.2.2.2.1.ne (by omega), hK.2.2.2.2.2.2.2.2.set hk (by omega)⟩
theorem zCo0.Rr {h : zH} {o : Nat} {ht : Int32} {od il al pl fo : Nat → Int32} {R S P : Nat → Nat → Int32} (hK : zCo0 h o ht od il al pl fo R S P) : zRw5 h (o + 9) R := hK.2.2.2.2.2.2.1
theorem zCo0.Sr {h : zH} {o : Nat} {ht : Int32} {od il al pl fo : Nat → Int32} {R S P : Nat → Nat → Int32} (hK : zCo0 h o ht od il al pl fo R S P) : zRw5 h (o + 15) S := hK.2.2.2.2.2.2.2.1
theorem zCo0.Pr {h : zH} {o : Nat} {ht : Int32} {od il al pl fo : Nat → Int32} {R S P : Nat → Nat → Int32} (hK : zCo0 h o ht od il al pl fo R S P) : zRw5 h (o + 21) P := hK.2.2.2.2.2.2.2.2
theorem zCo0.fr {T : Nat → Prop} {h : zH} {o : Nat} {ht : Int32} {od il al pl fo : Nat → Int32} {R S P : Nat → Nat → Int32} {h1 : zH} (hK : zCo0 h o ht od il al pl fo R S P) (hF : zFr T h h1) (hS : ∀ k, k ≤ 26 → (k < 1 ∨ 3 < k) → ¬ T (o + k)) : zCo0 h1 o ht od il al pl fo R S P := ⟨hF.eq (hS 0 (by omega) (by omega)) hK.1, hF.eq (hS 4 (by omega) (by omega)) hK.2.1, hF.eq (hS 5 (by omega) (by omega)) hK.2.2.1, hF.eq (hS 6 (by omega) (by omega)) hK.2.2.2.1, hF.eq (hS 7 (by omega) (by omega)) hK.2.2.2.2.1, hF.eq (hS 8 (by omega) (by omega)) hK.2.2.2.2.2.1, hK.2.2.2.2.2.2.1.fr hF (fun k hk => by rw [Nat.add_assoc]; exact hS (9 + k) (by omega) (by omega)), hK.2.2.2.2.2.2.2.1.fr hF (fun k hk => by rw [Nat.add_assoc]; exact hS (15 + k) (by omega) (by omega)), hK.2.2.2.2.2.2.2.2.fr hF (fun k hk => by rw [Nat.add_assoc]; exact hS (21 + k) (by omega) (by omega))⟩
/-! numberings, codes, forms -/
def zFac : Nat → Nat
  | 0 => 1
  | n + 1 => (n + 1) * zFac n
def zKth (n op s : Nat) : Nat := zfs (fun x => op.testBit x && decide (zct (fun y => op.testBit y) x = s)) n
/-- the p-th numbering: what is open, what is left of p, which points have come -/
def zOrS (n p : Nat) : Nat → Nat × Nat × (Nat → Nat)
  | 0 => (1 <<< n - 1, p, fun _ => 0)
  | k + 1 => (zan (zOrS n p k).1 (1 <<< zKth n (zOrS n p k).1 ((zOrS n p k).2.1 % (n - k))), (zOrS n p k).2.1 / (n - k), zupd (zOrS n p k).2.2 k (zKth n (zOrS n p k).1 ((zOrS n p k).2.1 % (n - k))))
def zOrd (n p : Nat) : Nat → Nat := (zOrS n p n).2.2
theorem zOrS_ok : ∀ n, n < 6 → ∀ p, p < zFac n → ∀ k, k < n → zKth n (zOrS n p k).1 ((zOrS n p k).2.1 % (n - k)) < n ∧ (zOrS n p k).1 < 256 := by decide +kernel
theorem zOrS_p (n p : Nat) : ∀ k, (zOrS n p k).2.1 ≤ p
  | 0 => Nat.le_refl _
  | k + 1 => Nat.le_trans (Nat.div_le_self _ _) (zOrS_p n p k)
theorem zOrS_q {n p : Nat} : ∀ {k j : Nat}, j < k → k ≤ n → (zOrS n p k).2.2 j = (zOrS n p n).2.2 j := by
  intro k j hj hk
  have : ∀ m, (zOrS n p (k + m)).2.2 j = (zOrS n p k).2.2 j := by
    intro m
    induction m with
    | zero => rfl
    | succ m ih =>
      show zupd (zOrS n p (k + m)).2.2 (k + m) _ j = _
      rw [zupd_ne _ _ (by omega)]
      exact ih
  have := this (n - k)
  rw [show k + (n - k) = n by omega] at this
  exact this.symm
theorem zOrd_at {n p k : Nat} (hk : k < n) : zOrd n p k = zKth n (zOrS n p k).1 ((zOrS n p k).2.1 % (n - k)) := by
  unfold zOrd
  rw [← zOrS_q (k := k + 1) (by omega) (by omega)]
  exact zupd_at _ _ _
theorem zOrd_lt {n p k : Nat} (hn : n < 6) (hp : p < zFac n) (hk : k < n) : zOrd n p k < n := by
  rw [zOrd_at hk]
  exact (zOrS_ok n hn p hp k hk).1
def zBo (n i j : Nat) : Nat := i * (n - 1) + (if j < i then j else j - 1)
def zBc (n i j : Nat) : Nat := i * (n - 1) + (if j ≤ i then j else j - 1)
def zCdf (n : Nat) (lo Q : Nat → Nat) (i j : Nat) : Nat := if j ≠ i ∧ (lo (Q i)).testBit (Q j) = true then 1 <<< zBo n i j else 0
def zCode (n : Nat) (lo Q : Nat → Nat) : Nat := zor (fun i => zor (zCdf n lo Q i) n) n
theorem zBc_b {n i j : Nat} (h : j ≠ i) : zBc n i j = zBo n i j := by
  unfold zBc zBo
  by_cases e : j < i
  · rw [if_pos e, if_pos (by omega)]
  · rw [if_neg e, if_neg (by omega)]
theorem zBc_s {n i j : Nat} (h : j ≠ i) : zBc n i (j + 1) = zBc n i j + 1 := by
  unfold zBc
  by_cases e : j < i
  · rw [if_pos (by omega), if_pos (by omega)]; omega
  · rw [if_neg (by omega), if_neg (by omega)]; omega
theorem zBc_i {n i : Nat} : zBc n i (i + 1) = zBc n i i := by
  unfold zBc
  rw [if_neg (by omega), if_pos (Nat.le_refl i)]
  omega
theorem zBc_n {n i : Nat} (h : i < n) : zBc n i n = zBc n (i + 1) 0 := by
  unfold zBc
  rw [if_neg (by omega), if_pos (Nat.zero_le _), Nat.succ_mul]
  omega
theorem zBo_lt : ∀ n, n < 6 → ∀ i, i < n → ∀ j, j < n → j ≠ i → zBo n i j < n * (n - 1) := by decide
theorem zn20 : ∀ n, n < 6 → n * (n - 1) ≤ 20 := by decide
theorem zCdf_lt {n i j : Nat} {lo Q : Nat → Nat} (hn : n < 6) (hi : i < n) (hj : j < n) : zCdf n lo Q i j < 2 ^ 20 := by
  unfold zCdf
  split
  · next h =>
    have h1 := zBo_lt n hn i hi j hj h.1
    have h2 := zn20 n hn
    rw [Nat.one_shiftLeft]
    exact Nat.pow_lt_pow_right (by decide) (by omega)
  · exact Nat.two_pow_pos 20
theorem zCode_lt {n : Nat} {lo Q : Nat → Nat} (hn : n < 6) : zCode n lo Q < 2 ^ 20 := zor_ltb (fun i hi => zor_ltb (fun j hj => zCdf_lt hn hi hj))
theorem zCode_cong {n : Nat} {lo Q Q' : Nat → Nat} (h : ∀ i, i < n → Q i = Q' i) : zCode n lo Q = zCode n lo Q' := by
  have hc : ∀ (f g : Nat → Nat) m, (∀ i, i < m → f i = g i) → zor f m = zor g m := fun f g m => by
    induction m with
    | zero => intro _; rfl
    | succ m ih => intro hh; rw [zor, zor, ih (fun i hi => hh i (by omega)), hh m (by omega)]
  exact hc _ _ n (fun i hi => hc _ _ n (fun j hj => by unfold zCdf; rw [h i hi, h j hj]))
/-- the form: the least code so far, and how many have it -/
def zFm (n : Nat) (lo : Nat → Nat) : Nat → Nat × Nat
  | 0 => (0, 0)
  | p + 1 => let q := zFm n lo p; let c := zCode n lo (zOrd n p); if p = 0 ∨ c < q.1 then (c, 1) else (q.1, q.2 + b2n (decide (c = q.1)))
theorem zFm_lt {n : Nat} {lo : Nat → Nat} (hn : n < 6) : ∀ p, (zFm n lo p).1 < 2 ^ 20
  | 0 => Nat.two_pow_pos 20
  | p + 1 => by
    have := zFm_lt (lo := lo) hn p
    rw [zFm]
    split
    · exact zCode_lt hn
    · exact this
theorem zFm_hl {n : Nat} {lo : Nat → Nat} : ∀ p, (zFm n lo p).2 ≤ p
  | 0 => Nat.le_refl 0
  | p + 1 => by
    have := zFm_hl (n := n) (lo := lo) p
    rw [zFm]
    split
    · show 1 ≤ p + 1; omega
    · show _ + _ ≤ p + 1
      have := b2n_le (decide (zCode n lo (zOrd n p) = (zFm n lo p).1))
      omega
theorem zFac_le : ∀ n, n < 6 → zFac n ≤ 120 ∧ 1 ≤ zFac n := by decide
/-- the space of a code -/
def zDlf (n c x y : Nat) : Nat := if y ≠ x ∧ c.testBit (zBo n x y) = true then 1 <<< y else 0
def zDl (n c x : Nat) : Nat := 1 <<< x ||| zor (zDlf n c x) n
def zVal (n c : Nat) : Bool := zAl (fun x => zAl (fun y => !(zDl n c x).testBit y || decide (zan (zDl n c y) (zDl n c x) = 0)) n) n
theorem zDl_lt {n c x : Nat} (hn : n ≤ 8) (hx : x < 8) : zDl n c x < 256 := zor_lt8 (zsh1_lt hx) (zor_lt (fun y hy => by
  unfold zDlf
  split
  · exact zsh1_lt (by omega)
  · decide))
/-- all codes below c: how many are spaces, plain ones, and the rows of those that are their own form -/
def zPln (n c : Nat) : Bool := decide (zFst n (zDl n c) (zTr n (zDl n c)) = 1 <<< n - 1)
def zLs (n : Nat) : Nat → Nat × Nat × List (Nat × Nat × Nat)
  | 0 => (0, 0, [])
  | c + 1 => let q := zLs n c; if zVal n c then (q.1 + 1, q.2.1 + b2n (zPln n c), if (zFm n (zDl n c) (zFac n)).1 = c ∧ q.2.2.length < 33 ∧ 0 < (zFm n (zDl n c) (zFac n)).2 then q.2.2 ++ [(c, zFac n / (zFm n (zDl n c) (zFac n)).2, b2n (zPln n c))] else q.2.2) else q
theorem zLs_le (n : Nat) : ∀ c, (zLs n c).1 ≤ c ∧ (zLs n c).2.1 ≤ c ∧ (zLs n c).2.2.length ≤ 33
  | 0 => ⟨Nat.le_refl 0, Nat.le_refl 0, Nat.zero_le _⟩
  | c + 1 => by
    obtain ⟨h1, h2, h3⟩ := zLs_le n c
    rw [zLs]
    split
    · refine ⟨Nat.succ_le_succ h1, ?_, ?_⟩
      · have := b2n_le (zPln n c)
        show _ + _ ≤ _
        omega
      · show (if _ then _ else _ : List (Nat × Nat × Nat)).length ≤ 33
        split
        · next g => rw [List.length_append]; exact g.2.1
        · exact h3
    · exact ⟨by omega, by omega, h3⟩
theorem zsubn {a c : Nat} (ha : a < 2 ^ 31) (hc : c < 2 ^ 31) : nI a - nI c = 0 ↔ a = c := by
  constructor
  · intro h
    have : nI a = nI c := by
      have := congrArg (fun z => z + nI c) h
      simpa [Int32.sub_add_cancel] using this
    exact (nI_inj ha hc).mp this
  · intro h; rw [h, Int32.sub_self]
theorem zsubs (x : Int32) (c : Nat) : x - nI c + (-1) = x - nI (c + 1) := by
  have e : -(nI 1) = (-1 : Int32) := by decide
  rw [← nI_add, Int32.sub_eq_add_neg, Int32.sub_eq_add_neg, Int32.neg_add, Int32.sub_eq_add_neg, e, Int32.add_assoc]
theorem zKth_spec {n op s : Nat} (h : zKth n op s < n) : op.testBit (zKth n op s) = true ∧ zct (fun y => op.testBit y) (zKth n op s) = s ∧ ∀ x, x < n → op.testBit x = true → zct (fun y => op.testBit y) x = s → x = zKth n op s := by
  obtain ⟨h1, h2⟩ := zfs_spec h
  change (op.testBit (zKth n op s) && decide (zct (fun y => op.testBit y) (zKth n op s) = s)) = true at h1
  rw [Bool.and_eq_true, decide_eq_true_eq] at h1
  refine ⟨h1.1, h1.2, fun x hx h3 h4 => ?_⟩
  rcases Nat.lt_trichotomy x (zKth n op s) with g | g | g
  · have := h2 x g
    change (op.testBit x && decide (zct (fun y => op.testBit y) x = s)) = false at this
    rw [h3, decide_eq_true h4] at this
    cases this
  · exact g
  · have := zct_up (fun y => op.testBit y) (show zKth n op s + 1 ≤ x by omega)
    have h5 : zct (fun y => op.testBit y) (zKth n op s) = s := h1.2
    rw [zct_yes (c := fun y => op.testBit y) h1.1, h5] at this
    omega
theorem zFm_y {n p : Nat} {lo : Nat → Nat} (h : p = 0 ∨ zCode n lo (zOrd n p) < (zFm n lo p).1) : zFm n lo (p + 1) = (zCode n lo (zOrd n p), 1) := if_pos h
theorem zFm_n {n p : Nat} {lo : Nat → Nat} (h : ¬ (p = 0 ∨ zCode n lo (zOrd n p) < (zFm n lo p).1)) : zFm n lo (p + 1) = ((zFm n lo p).1, (zFm n lo p).2 + b2n (decide (zCode n lo (zOrd n p) = (zFm n lo p).1))) := if_neg h
theorem zVal_y {n c : Nat} (h : ∀ x, x < n → ∀ y, y < n → (zDl n c x).testBit y = true → zan (zDl n c y) (zDl n c x) = 0) : zVal n c = true :=
  zAl_iff.mpr (fun x hx => zAl_iff.mpr (fun y hy => by
    cases e : (zDl n c x).testBit y with
    | false => rfl
    | true => rw [h x hx y hy e]; rfl))
theorem zVal_n {n c x y : Nat} (hx : x < n) (hy : y < n) (h1 : (zDl n c x).testBit y = true) (h2 : zan (zDl n c y) (zDl n c x) ≠ 0) : zVal n c = false :=
  zAl_no hx (zAl_no hy (by rw [h1, decide_eq_false h2]; rfl))
