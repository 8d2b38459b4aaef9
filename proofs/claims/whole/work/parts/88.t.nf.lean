/-! the least code as the reference finds it -/
def zNxf (g : Nat → Nat → Nat) : Nat → Nat → Nat
  | 0, c => c
  | x + 1, c => g x (zNxf g x c)
def zNf (n : Nat) (lo : Nat → Nat) : Nat → Nat → Nat → (Nat → Nat) → Nat → Nat
  | 0, _, _, Q, c => if zCode n lo Q < c then zCode n lo Q else c
  | q + 1, k, f, Q, c => zNxf (fun x c => if f.testBit x then zNf n lo q (k + 1) (zan f (1 <<< x)) (zupd Q k x) c else c) n c
def zPm (n : Nat) : Nat → Nat → List (List Nat)
  | 0, _ => [[]]
  | q + 1, f => (List.range n).flatMap (fun x => if f.testBit x then (zPm n q (zan f (1 <<< x))).map (fun L => x :: L) else [])
def zApp (Q : Nat → Nat) (k : Nat) (L : List Nat) : Nat → Nat := fun j => if j < k then Q j else L.getD (j - k) 0
theorem zApp_cons {Q : Nat → Nat} {k x : Nat} {L : List Nat} : zApp (zupd Q k x) (k + 1) L = zApp Q k (x :: L) := by
  funext j
  unfold zApp
  by_cases e : j < k
  · rw [if_pos e, if_pos (by omega), zupd_ne _ _ (by omega)]
  · rw [if_neg e]
    by_cases g : j = k
    · subst g
      rw [if_pos (by omega), zupd_at, Nat.sub_self]
      rfl
    · rw [if_neg (by omega), show j - k = (j - (k + 1)) + 1 by omega]
      rfl
theorem zPm_s {n q f : Nat} {L : List Nat} : L ∈ zPm n (q + 1) f ↔ ∃ x, x < n ∧ f.testBit x = true ∧ ∃ L', L' ∈ zPm n q (zan f (1 <<< x)) ∧ L = x :: L' := by
  rw [zPm, List.mem_flatMap]
  constructor
  · rintro ⟨x, hx, h⟩
    rw [List.mem_range] at hx
    cases e : f.testBit x with
    | false => rw [e] at h; exact absurd h (by simp)
    | true =>
      rw [e, if_pos rfl, List.mem_map] at h
      obtain ⟨L', h1, h2⟩ := h
      exact ⟨x, hx, e, L', h1, h2.symm⟩
  · rintro ⟨x, hx, e, L', h1, h2⟩
    refine ⟨x, List.mem_range.mpr hx, ?_⟩
    rw [e, if_pos rfl, List.mem_map]
    exact ⟨L', h1, h2.symm⟩
/-- the least of some numbers and c -/
def zIsM (m c : Nat) (P : Nat → Prop) : Prop := m ≤ c ∧ (∀ v, P v → m ≤ v) ∧ (m = c ∨ P m)
theorem zIsM.cg {m c : Nat} {P Q : Nat → Prop} (h : zIsM m c P) (e : ∀ v, P v ↔ Q v) : zIsM m c Q := ⟨h.1, fun v g => h.2.1 v ((e v).mpr g), h.2.2.imp id (fun g => (e m).mp g)⟩
theorem zIsM.then {m c m2 : Nat} {P Q : Nat → Prop} (h : zIsM m c P) (h2 : zIsM m2 m Q) : zIsM m2 c (fun v => P v ∨ Q v) := by
  refine ⟨Nat.le_trans h2.1 h.1, fun v g => ?_, ?_⟩
  · rcases g with g | g
    · exact Nat.le_trans h2.1 (h.2.1 v g)
    · exact h2.2.1 v g
  · rcases h2.2.2 with g | g
    · rw [g]
      rcases h.2.2 with g2 | g2
      · exact Or.inl g2
      · exact Or.inr (Or.inl g2)
    · exact Or.inr (Or.inr g)
theorem zIsM.no {c : Nat} {P : Nat → Prop} (h : ∀ v, ¬ P v) : zIsM c c P := ⟨Nat.le_refl _, fun v g => absurd g (h v), Or.inl rfl⟩
theorem zNf_is {n : Nat} {lo : Nat → Nat} : ∀ (q k f : Nat) (Q : Nat → Nat) (c : Nat), k + q = n → zIsM (zNf n lo q k f Q c) c (fun v => ∃ L, L ∈ zPm n q f ∧ v = zCode n lo (zApp Q k L))
  | 0, k, f, Q, c, hk => by
    have e : zCode n lo Q = zCode n lo (zApp Q k []) := zCode_cong (fun i hi => by unfold zApp; rw [if_pos (by omega)])
    have hv : ∀ v, (∃ L, L ∈ zPm n 0 f ∧ v = zCode n lo (zApp Q k L)) ↔ v = zCode n lo Q := fun v => by
      constructor
      · rintro ⟨L, hL, h⟩
        rw [zPm, List.mem_singleton] at hL
        rw [h, hL, e]
      · intro h
        exact ⟨[], List.mem_singleton.mpr rfl, by rw [h, e]⟩
    refine zIsM.cg (P := fun v => v = zCode n lo Q) ?_ (fun v => (hv v).symm)
    rw [zNf]
    split
    · next g => exact ⟨by omega, fun v h => by rw [h]; exact Nat.le_refl _, Or.inr rfl⟩
    · next g => exact ⟨Nat.le_refl _, fun v h => by rw [h]; omega, Or.inl rfl⟩
  | q + 1, k, f, Q, c, hk => by
    have key : ∀ x, x ≤ n → zIsM (zNxf (fun x c => if f.testBit x then zNf n lo q (k + 1) (zan f (1 <<< x)) (zupd Q k x) c else c) x c) c (fun v => ∃ y, y < x ∧ f.testBit y = true ∧ ∃ L, L ∈ zPm n q (zan f (1 <<< y)) ∧ v = zCode n lo (zApp Q k (y :: L))) := by
      intro x
      induction x with
      | zero => exact fun _ => zIsM.no (fun v ⟨y, hy, _⟩ => absurd hy (by omega))
      | succ x ih =>
        intro hx
        rw [zNxf]
        generalize zNxf _ x c = m at ih
        have h2 : zIsM (if f.testBit x then zNf n lo q (k + 1) (zan f (1 <<< x)) (zupd Q k x) m else m) m (fun v => f.testBit x = true ∧ ∃ L, L ∈ zPm n q (zan f (1 <<< x)) ∧ v = zCode n lo (zApp Q k (x :: L))) := by
          cases e : f.testBit x with
          | false => exact zIsM.no (fun v h => absurd h.1 (by decide))
          | true =>
            rw [if_pos rfl]
            refine (zNf_is q (k + 1) (zan f (1 <<< x)) (zupd Q k x) m (by omega)).cg (fun v => ?_)
            simp only [zApp_cons, true_and]
        refine ((ih (by omega)).then h2).cg (fun v => ?_)
        constructor
        · rintro (⟨y, hy, g⟩ | g)
          · exact ⟨y, by omega, g⟩
          · exact ⟨x, by omega, g⟩
        · rintro ⟨y, hy, g⟩
          by_cases e : y = x
          · subst e; exact Or.inr g
          · exact Or.inl ⟨y, by omega, g⟩
    rw [zNf]
    refine (key n (Nat.le_refl _)).cg (fun v => ?_)
    constructor
    · rintro ⟨y, hy, hf, L, hL, e⟩
      exact ⟨y :: L, (zPm_s (n := n) (q := q) (f := f)).mpr ⟨y, hy, hf, L, hL, rfl⟩, e⟩
    · rintro ⟨L, hL, e⟩
      obtain ⟨y, hy, hf, L', hL', rfl⟩ := zPm_s.mp hL
      exact ⟨y, hy, hf, L', hL', e⟩
/-- the number of a row of points -/
def zIdx (n : Nat) : Nat → List Nat → Nat
  | _, [] => 0
  | f, x :: L => zct (fun y => f.testBit y) x + (L.length + 1) * zIdx n (zan f (1 <<< x)) L
theorem zPm_o : ∀ n, n < 6 → ∀ L, L ∈ zPm n n (1 <<< n - 1) → zIdx n (1 <<< n - 1) L < zFac n ∧ ∀ i, i < n → zOrd n (zIdx n (1 <<< n - 1) L) i = L.getD i 0 := by decide +kernel
theorem zPm_p : ∀ n, n < 6 → ∀ p, p < zFac n → (List.range n).map (zOrd n p) ∈ zPm n n (1 <<< n - 1) := by decide +kernel
theorem zFm_is {n : Nat} {lo : Nat → Nat} : ∀ p, (∀ i, i < p + 1 → (zFm n lo (p + 1)).1 ≤ zCode n lo (zOrd n i)) ∧ ∃ i, i < p + 1 ∧ (zFm n lo (p + 1)).1 = zCode n lo (zOrd n i)
  | 0 => by
    rw [zFm_y (Or.inl rfl)]
    exact ⟨fun i hi => by rw [show i = 0 by omega]; exact Nat.le_refl _, 0, by omega, rfl⟩
  | p + 1 => by
    obtain ⟨h1, i, h2, h3⟩ := zFm_is (n := n) (lo := lo) p
    by_cases g : p + 1 = 0 ∨ zCode n lo (zOrd n (p + 1)) < (zFm n lo (p + 1)).1
    · rw [zFm_y g]
      refine ⟨fun j hj => ?_, p + 1, by omega, rfl⟩
      show zCode n lo (zOrd n (p + 1)) ≤ _
      by_cases e : j = p + 1
      · rw [e]; exact Nat.le_refl _
      · have := h1 j (by omega)
        omega
    · rw [zFm_n g]
      refine ⟨fun j hj => ?_, i, by omega, h3⟩
      show (zFm n lo (p + 1)).1 ≤ _
      by_cases e : j = p + 1
      · rw [e]; omega
      · exact h1 j (by omega)
theorem zNf_fm {n : Nat} {lo Q : Nat → Nat} (hn : n < 6) : zNf n lo n 0 (1 <<< n - 1) Q (1 <<< 20) = (zFm n lo (zFac n)).1 := by
  have hf := (zFac_le n hn).2
  obtain ⟨h1, i, h2, h3⟩ := zFm_is (n := n) (lo := lo) (zFac n - 1)
  rw [show zFac n - 1 + 1 = zFac n by omega] at h1 h2 h3
  obtain ⟨a1, a2, a3⟩ := zNf_is (n := n) (lo := lo) n 0 (1 <<< n - 1) Q (1 <<< 20) (by omega)
  have hcg : ∀ p, p < zFac n → zCode n lo (zOrd n p) = zCode n lo (zApp Q 0 ((List.range n).map (zOrd n p))) := fun p _ => zCode_cong (fun j hj => by
    unfold zApp
    rw [if_neg (by omega), Nat.sub_zero, List.getD_eq_getElem?_getD, List.getElem?_map, List.getElem?_range hj]
    rfl)
  have hlt := zCode_lt (n := n) (lo := lo) (Q := zOrd n i) hn
  have hle := a2 _ ⟨_, zPm_p n hn i h2, hcg i h2⟩
  have e20 : 1 <<< 20 = 2 ^ 20 := by decide
  rcases a3 with g | ⟨L, hL, g⟩
  · omega
  · obtain ⟨b1, b2⟩ := zPm_o n hn L hL
    have e : zCode n lo (zApp Q 0 L) = zCode n lo (zOrd n (zIdx n (1 <<< n - 1) L)) := zCode_cong (fun j hj => by
      unfold zApp
      rw [if_neg (by omega), Nat.sub_zero, b2 j hj])
    have := h1 _ b1
    omega
