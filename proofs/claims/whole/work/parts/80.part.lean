/-! parts, firsts, chains: as the reference finds them -/
theorem zit_fixu {f : Nat → Nat} (hf : ∀ s, s < 256 → f s < 256 ∧ (f s = s ∨ zcnt s + 1 ≤ zcnt (f s))) : ∀ k s, s < 256 → 8 ≤ zcnt s + k → f (zit f k s) = zit f k s
  | 0, s, hs, hc => by
    rcases (hf s hs).2 with h | h
    · exact h
    · have := zcnt_le (f s)
      omega
  | k + 1, s, hs, hc => by
    rcases (hf s hs).2 with h | h
    · rw [zit_stay h]; exact h
    · rw [show zit f (k + 1) s = zit f k (f s) from zit_add f 1 k s]
      exact zit_fixu hf k (f s) (hf s hs).1 (by omega)
section ZPT
variable {n : Nat} {lo : Nat → Nat}
def zAdj (n : Nat) (lo : Nat → Nat) (x y : Nat) : Bool := (lo x ||| zTr n lo x).testBit y
theorem zAdj_n (hP : zPre n lo) {x y : Nat} (hx : x < n) (h : zAdj n lo x y = true) : y < n := by
  rw [zAdj, Nat.testBit_or, zTr_bit, Bool.or_eq_true, Bool.and_eq_true] at h
  rcases h with h | h
  · exact hP.bn hx h
  · exact of_decide_eq_true h.1
theorem zAdj_s (hP : zPre n lo) {x y : Nat} (hx : x < n) (h : zAdj n lo x y = true) : zAdj n lo y x = true := by
  have hy := zAdj_n hP hx h
  rw [zAdj, Nat.testBit_or, zTr_bit, decide_eq_true hy, Bool.true_and] at h
  rw [zAdj, Nat.testBit_or, zTr_bit, decide_eq_true hx, Bool.true_and, Bool.or_comm]
  exact h
theorem zWid_bit {s i : Nat} : (zWid n lo (zTr n lo) s).testBit i = true ↔ s.testBit i = true ∨ ∃ x, x < n ∧ s.testBit x = true ∧ zAdj n lo x i = true := by
  rw [zWid, Nat.testBit_or, Bool.or_eq_true, zor_bit]
  have e : ∀ x, (if s.testBit x = true then lo x ||| zTr n lo x else 0).testBit i = true ↔ s.testBit x = true ∧ zAdj n lo x i = true := fun x => by
    by_cases c : s.testBit x = true
    · rw [if_pos c]; exact ⟨fun h => ⟨c, h⟩, fun h => h.2⟩
    · rw [if_neg c, Nat.zero_testBit]; exact ⟨fun h => absurd h (by decide), fun h => absurd h.1 c⟩
  constructor
  · rintro (h | ⟨x, hx, h⟩)
    · exact Or.inl h
    · exact Or.inr ⟨x, hx, (e x).mp h⟩
  · rintro (h | ⟨x, hx, h⟩)
    · exact Or.inl h
    · exact Or.inr ⟨x, hx, (e x).mpr h⟩
def zsub (a b : Nat) : Prop := ∀ i, a.testBit i = true → b.testBit i = true
theorem zsub.an {a b : Nat} (h1 : zsub a b) (h2 : zsub b a) : a = b := zext (fun i => by
  cases q : a.testBit i with
  | true => rw [h1 i q]
  | false =>
    cases q2 : b.testBit i with
    | true => rw [h2 i q2] at q; exact absurd q (by decide)
    | false => rfl)
theorem zcnt_up {s t : Nat} (hs : zsub s t) (ht : t < 256) : t = s ∨ zcnt s + 1 ≤ zcnt t := by
  by_cases e : zsub t s
  · exact Or.inl (zsub.an e hs)
  · refine Or.inr ?_
    have : ∃ i, t.testBit i = true ∧ s.testBit i = false := by
      refine Classical.byContradiction (fun c => e (fun i hi => ?_))
      cases q : s.testBit i with
      | true => rfl
      | false => exact absurd ⟨i, hi, q⟩ c
    obtain ⟨i, h1, h2⟩ := this
    exact zct_lt (k := i) (zbit_lt8 ht h1) (fun j _ hj => hs j hj) h2 h1
theorem zWid_sub {s : Nat} : zsub s (zWid n lo (zTr n lo) s) := fun i h => zWid_bit.mpr (Or.inl h)
def zClosed (n : Nat) (lo : Nat → Nat) (C : Nat) : Prop := ∀ x y, x < n → C.testBit x = true → zAdj n lo x y = true → C.testBit y = true
theorem zWid_cl {s C : Nat} (hC : zClosed n lo C) (h : zsub s C) : zsub (zWid n lo (zTr n lo) s) C := fun i hi => by
  rcases zWid_bit.mp hi with h1 | ⟨x, hx, h1, h2⟩
  · exact h i h1
  · exact hC x i hx (h x h1) h2
theorem zWid_mono {s t : Nat} (h : zsub s t) : zsub (zWid n lo (zTr n lo) s) (zWid n lo (zTr n lo) t) := fun i hi => by
  rcases zWid_bit.mp hi with h1 | ⟨x, hx, h1, h2⟩
  · exact zWid_bit.mpr (Or.inl (h i h1))
  · exact zWid_bit.mpr (Or.inr ⟨x, hx, h x h1, h2⟩)
theorem zCmp_fix (hP : zPre n lo) {x : Nat} (hx : x < n) : zWid n lo (zTr n lo) (zCmp n lo (zTr n lo) x) = zCmp n lo (zTr n lo) x :=
  zit_fixu (fun s hs => ⟨zWid_lt hP.ok hs, zcnt_up zWid_sub (zWid_lt hP.ok hs)⟩) 8 (1 <<< x) (zsh1_lt (by have := hP.1; omega)) (by omega)
theorem zCmp_cl (hP : zPre n lo) {x : Nat} (hx : x < n) : zClosed n lo (zCmp n lo (zTr n lo) x) := fun u v hu h1 h2 => by
  rw [← zCmp_fix hP hx]
  exact zWid_bit.mpr (Or.inr ⟨u, hu, h1, h2⟩)
theorem zit_sub {f : Nat → Nat} (hf : ∀ s, zsub s (f s)) (s : Nat) : ∀ k, zsub s (zit f k s)
  | 0 => fun _ h => h
  | k + 1 => fun i h => hf _ i (zit_sub hf s k i h)
theorem zCmp_me {x : Nat} : (zCmp n lo (zTr n lo) x).testBit x = true := zit_sub (fun _ => zWid_sub) (1 <<< x) 8 x (by rw [z1bit]; exact decide_eq_true rfl)
theorem zone_sub {x C : Nat} (h : C.testBit x = true) : zsub (1 <<< x) C := fun i hi => by
  rw [z1bit] at hi
  rw [of_decide_eq_true hi]; exact h
theorem zCmp_min {x C : Nat} (hC : zClosed n lo C) (h : C.testBit x = true) : zsub (zCmp n lo (zTr n lo) x) C := by
  have : ∀ k, zsub (zit (zWid n lo (zTr n lo)) k (1 <<< x)) C := fun k => by
    induction k with
    | zero => exact zone_sub h
    | succ k ih => exact zWid_cl hC ih
  exact this 8
theorem zCmp_n (hP : zPre n lo) {x y : Nat} (hx : x < n) (h : (zCmp n lo (zTr n lo) x).testBit y = true) : y < n := by
  have hC : zClosed n lo (1 <<< n - 1) := fun u v hu _ h2 => by
    rw [Nat.shiftLeft_eq, Nat.one_mul, Nat.testBit_two_pow_sub_one]
    exact decide_eq_true (zAdj_n hP hu h2)
  have h1 := zCmp_min hC (x := x) (by rw [Nat.shiftLeft_eq, Nat.one_mul, Nat.testBit_two_pow_sub_one]; exact decide_eq_true hx) y h
  rw [Nat.shiftLeft_eq, Nat.one_mul, Nat.testBit_two_pow_sub_one] at h1
  exact of_decide_eq_true h1
theorem zCmp_sy (hP : zPre n lo) {x y : Nat} (hx : x < n) (h : (zCmp n lo (zTr n lo) x).testBit y = true) : (zCmp n lo (zTr n lo) y).testBit x = true := by
  have hy := zCmp_n hP hx h
  refine Classical.byContradiction (fun c => ?_)
  have c : (zCmp n lo (zTr n lo) y).testBit x = false := by
    cases q : (zCmp n lo (zTr n lo) y).testBit x with
    | true => exact absurd q c
    | false => rfl
  have hC : zClosed n lo (zan (zCmp n lo (zTr n lo) x) (zCmp n lo (zTr n lo) y)) := fun u v hu h1 h2 => by
    rw [zan_bit, Bool.and_eq_true] at h1
    rw [zan_bit, zCmp_cl hP hx u v hu h1.1 h2]
    cases q : (zCmp n lo (zTr n lo) y).testBit v with
    | false => rfl
    | true =>
      rw [zCmp_cl hP hy v u (zAdj_n hP hu h2) q (zAdj_s hP hu h2)] at h1
      exact absurd h1.2 (by decide)
  have := zCmp_min hC (x := x) (by rw [zan_bit, zCmp_me, c]; rfl) y h
  rw [zan_bit, zCmp_me, Bool.not_true, Bool.and_false] at this
  exact absurd this (by decide)
/-- the reference's round -/
def zIp (n : Nat) (lo : Nat → Nat) (s : Nat) : Nat → Nat
  | 0 => s
  | y + 1 => zIp n lo s y ||| (if (zIp n lo s y).testBit y then lo y ||| zTr n lo y else 0)
theorem zIp_sub {s : Nat} : ∀ y, zsub s (zIp n lo s y)
  | 0 => fun _ h => h
  | y + 1 => fun i h => by
    rw [zIp, Nat.testBit_or, zIp_sub y i h]; rfl
theorem zIp_dn {s : Nat} {y : Nat} : ∀ {k}, zsub (zIp n lo s y) (zIp n lo s (y + k))
  | 0 => fun _ h => h
  | k + 1 => fun i h => by
    show (zIp n lo s (y + k) ||| _).testBit i = true
    rw [Nat.testBit_or, zIp_dn (k := k) i h]; rfl
theorem zIp_cl {s C : Nat} (hC : zClosed n lo C) (h : zsub s C) : ∀ y, y ≤ n → zsub (zIp n lo s y) C
  | 0, _ => h
  | y + 1, hy => fun i hi => by
    rw [zIp, Nat.testBit_or, Bool.or_eq_true] at hi
    rcases hi with hi | hi
    · exact zIp_cl hC h y (by omega) i hi
    · by_cases c : (zIp n lo s y).testBit y = true
      · rw [if_pos c] at hi
        exact hC y i (by omega) (zIp_cl hC h y (by omega) y c) hi
      · rw [if_neg c, Nat.zero_testBit] at hi
        exact absurd hi (by decide)
theorem zIp_wid {s : Nat} : zsub (zWid n lo (zTr n lo) s) (zIp n lo s n) := fun i hi => by
  rcases zWid_bit.mp hi with h1 | ⟨x, hx, h1, h2⟩
  · exact zIp_sub n i h1
  · have h3 : (zIp n lo s (x + 1)).testBit i = true := by
      rw [zIp, Nat.testBit_or, if_pos (zIp_sub x x h1), Bool.or_eq_true]
      exact Or.inr h2
    have := zIp_dn (n := n) (lo := lo) (s := s) (y := x + 1) (k := n - (x + 1)) i h3
    rwa [show x + 1 + (n - (x + 1)) = n by omega] at this
theorem zIp_all (hP : zPre n lo) {x : Nat} (hx : x < n) : zit (fun s => zIp n lo s n) 8 (1 <<< x) = zCmp n lo (zTr n lo) x := by
  have a : ∀ k, zsub (zit (zWid n lo (zTr n lo)) k (1 <<< x)) (zit (fun s => zIp n lo s n) k (1 <<< x)) := fun k => by
    induction k with
    | zero => exact fun _ h => h
    | succ k ih => exact fun i h => zIp_wid i (zWid_mono ih i h)
  have b : ∀ k, zsub (zit (fun s => zIp n lo s n) k (1 <<< x)) (zCmp n lo (zTr n lo) x) := fun k => by
    induction k with
    | zero => exact zone_sub zCmp_me
    | succ k ih => exact zIp_cl (zCmp_cl hP hx) ih n (Nat.le_refl _)
  exact zsub.an (b 8) (a 8)
/-- who has been seen -/
theorem zSeen_bit (hP : zPre n lo) {i : Nat} : ∀ {p : Nat}, p ≤ n → ((zSeen n lo (zTr n lo) p).testBit i = true ↔ ∃ q, q < p ∧ (zCmp n lo (zTr n lo) q).testBit i = true)
  | 0, _ => ⟨fun h => by rw [zSeen, Nat.zero_testBit] at h; exact absurd h (by decide), fun ⟨q, h, _⟩ => absurd h (Nat.not_lt_zero q)⟩
  | p + 1, hp => by
    rw [zSeen]
    by_cases c : (zSeen n lo (zTr n lo) p).testBit p = true
    · rw [if_pos c, zSeen_bit hP (by omega)]
      constructor
      · rintro ⟨q, h1, h2⟩; exact ⟨q, by omega, h2⟩
      · rintro ⟨q, h1, h2⟩
        by_cases e : q = p
        · subst e
          obtain ⟨q2, h3, h4⟩ := (zSeen_bit hP (i := q) (by omega)).mp c
          exact ⟨q2, h3, zCmp_min (zCmp_cl hP (by omega)) h4 i h2⟩
        · exact ⟨q, by omega, h2⟩
    · rw [if_neg c, Nat.testBit_or, Bool.or_eq_true, zSeen_bit hP (by omega)]
      constructor
      · rintro (⟨q, h1, h2⟩ | h)
        · exact ⟨q, by omega, h2⟩
        · exact ⟨p, by omega, h⟩
      · rintro ⟨q, h1, h2⟩
        by_cases e : q = p
        · subst e; exact Or.inr h2
        · exact Or.inl ⟨q, by omega, h2⟩
theorem zLst_le {s i : Nat} (hs : s < 256) (h : s.testBit i = true) : zLst s ≤ i := by
  have h0 : s ≠ 0 := fun e => by rw [e, Nat.zero_testBit] at h; exact absurd h (by decide)
  obtain ⟨_, _, h3⟩ := zLst_spec hs h0
  refine Classical.byContradiction (fun c => ?_)
  have := h3 i (by omega)
  rw [h] at this
  exact absurd this (by decide)
theorem zpart_first (hP : zPre n lo) {p : Nat} (hp : p < n) : decide (zLst (zCmp n lo (zTr n lo) p) = p) = !(zSeen n lo (zTr n lo) p).testBit p := by
  have hn := hP.1
  have hc : zCmp n lo (zTr n lo) p < 256 := zCmp_lt hP.ok (by omega)
  have hle := zLst_le hc (zCmp_me (n := n) (lo := lo) (x := p))
  have h0 : zCmp n lo (zTr n lo) p ≠ 0 := fun e => by have := zCmp_me (n := n) (lo := lo) (x := p); rw [e, Nat.zero_testBit] at this; exact absurd this (by decide)
  obtain ⟨_, h2, _⟩ := zLst_spec hc h0
  have hk : (zSeen n lo (zTr n lo) p).testBit p = true ↔ ¬ zLst (zCmp n lo (zTr n lo) p) = p := by
    rw [zSeen_bit hP (by omega)]
    constructor
    · rintro ⟨q, h3, h4⟩ e
      have := zLst_le hc (zCmp_sy hP (by omega) h4)
      omega
    · intro e
      exact ⟨_, by omega, zCmp_sy hP hp h2⟩
  by_cases e : zLst (zCmp n lo (zTr n lo) p) = p
  · rw [decide_eq_true e]
    cases q : (zSeen n lo (zTr n lo) p).testBit p with
    | false => rfl
    | true => exact absurd e (hk.mp q)
  · rw [decide_eq_false e, hk.mpr e]; rfl
/-- the first ones of those that are alike -/
theorem zLst_eq {w x : Nat} (hw : w < 256) (hb : w.testBit x = true) : decide (zLst w = x) = decide (w &&& (1 <<< x - 1) = 0) := by
  have h0 : w ≠ 0 := fun e => by rw [e, Nat.zero_testBit] at hb; exact absurd hb (by decide)
  obtain ⟨h1, h2, h3⟩ := zLst_spec hw h0
  have hle := zLst_le hw hb
  have hm : ∀ i, (1 <<< x - 1).testBit i = decide (i < x) := fun i => by rw [Nat.shiftLeft_eq, Nat.one_mul, Nat.testBit_two_pow_sub_one]
  by_cases e : zLst w = x
  · rw [decide_eq_true e, decide_eq_true]
    refine Classical.byContradiction (fun c => ?_)
    obtain ⟨i, hi1, hi2⟩ := zmeet.mp c
    rw [hm] at hi2
    have := h3 i (by have := of_decide_eq_true hi2; omega)
    rw [hi1] at this
    exact absurd this (by decide)
  · rw [decide_eq_false e, decide_eq_false]
    refine zmeet.mpr ⟨zLst w, h2, ?_⟩
    rw [hm]
    exact decide_eq_true (by omega)
theorem zAlk (hP : zPre n lo) {x y : Nat} (hx : x < n) : (lo x &&& zTr n lo x).testBit y = true ↔ y < n ∧ (lo x).testBit y = true ∧ (lo y).testBit x = true := by
  rw [Nat.testBit_and, zTr_bit, Bool.and_eq_true, Bool.and_eq_true, decide_eq_true_eq]
  constructor
  · rintro ⟨a, b, c⟩; exact ⟨b, a, c⟩
  · rintro ⟨a, b, c⟩; exact ⟨b, a, c⟩
theorem zFst_bit {x : Nat} : (zFst n lo (zTr n lo)).testBit x = (decide (x < n) && decide (lo x &&& zTr n lo x &&& (1 <<< x - 1) = 0)) := by rw [zFst, zbits_bit]
theorem zFst_no (hP : zPre n lo) {x y : Nat} (hx : x < n) (hy : y < x) (h : (lo x &&& zTr n lo x).testBit y = true) : (zFst n lo (zTr n lo)).testBit x = false := by
  rw [zFst_bit, decide_eq_false (p := _ = 0), Bool.and_false]
  refine zmeet.mpr ⟨y, h, ?_⟩
  rw [Nat.shiftLeft_eq, Nat.one_mul, Nat.testBit_two_pow_sub_one]
  exact decide_eq_true hy
theorem zFst_two (hP : zPre n lo) {x y : Nat} (hx : x < n) (h : (lo x &&& zTr n lo x).testBit y = true) (h1 : (zFst n lo (zTr n lo)).testBit x = true) (h2 : (zFst n lo (zTr n lo)).testBit y = true) : y = x := by
  obtain ⟨hy, a, b⟩ := (zAlk hP hx).mp h
  refine Classical.byContradiction (fun c => ?_)
  by_cases e : y < x
  · rw [zFst_no hP hx e h] at h1; exact absurd h1 (by decide)
  · rw [zFst_no hP hy (show x < y by omega) ((zAlk hP hy).mpr ⟨hx, b, a⟩)] at h2
    exact absurd h2 (by decide)
theorem zall_bit {i : Nat} : (1 <<< n - 1).testBit i = decide (i < n) := by rw [Nat.shiftLeft_eq, Nat.one_mul, Nat.testBit_two_pow_sub_one]
theorem zLk_iff (hP : zPre n lo) {x p : Nat} (hx : x < n) : zLk lo (zTr n lo) x p = true ↔ ∃ y, y ≠ x ∧ (lo x &&& zTr n lo x).testBit y = true ∧ p.testBit y = true := by
  rw [zLk, decide_eq_true_eq, Ne, zmeet]
  constructor
  · rintro ⟨y, h1, h2⟩
    rw [zTw, zan_bit, z1bit, Bool.and_eq_true] at h1
    exact ⟨y, fun e => by rw [decide_eq_true e] at h1; exact absurd h1.2 (by decide), h1.1, h2⟩
  · rintro ⟨y, h0, h1, h2⟩
    exact ⟨y, by rw [zTw, zan_bit, z1bit, h1, decide_eq_false h0]; rfl, h2⟩
theorem zplain (hP : zPre n lo) : zAl (fun x => !zLk lo (zTr n lo) x (1 <<< n - 1)) n = decide (zFst n lo (zTr n lo) = 1 <<< n - 1) := by
  have hk : zAl (fun x => !zLk lo (zTr n lo) x (1 <<< n - 1)) n = true ↔ zFst n lo (zTr n lo) = 1 <<< n - 1 := by
    rw [zAl_iff]
    constructor
    · intro h
      refine zext (fun i => ?_)
      rw [zFst_bit, zall_bit]
      by_cases hi : i < n
      · rw [decide_eq_true hi, Bool.true_and]
        refine decide_eq_true (Classical.byContradiction (fun c => ?_))
        obtain ⟨y, h1, h2⟩ := zmeet.mp c
        rw [zall_bit] at h2
        have h3 := of_decide_eq_true h2
        have h4 := h i hi
        rw [(zLk_iff hP hi).mpr ⟨y, by omega, h1, by rw [zall_bit]; exact decide_eq_true (by omega)⟩] at h4
        exact absurd h4 (by decide)
      · rw [decide_eq_false hi]; rfl
    · intro h x hx
      show (!zLk lo (zTr n lo) x (1 <<< n - 1)) = true
      cases q : zLk lo (zTr n lo) x (1 <<< n - 1) with
      | false => rfl
      | true =>
        obtain ⟨y, h0, h1, h2⟩ := (zLk_iff hP hx).mp q
        exact absurd (zFst_two hP hx h1 (by rw [h, zall_bit]; exact decide_eq_true hx) (by rw [h]; exact h2)) h0
  by_cases e : zFst n lo (zTr n lo) = 1 <<< n - 1
  · rw [hk.mpr e, decide_eq_true e]
  · rw [decide_eq_false e]
    cases q : zAl (fun x => !zLk lo (zTr n lo) x (1 <<< n - 1)) n with
    | false => rfl
    | true => exact absurd (hk.mp q) e
/-- closed: what is left is open -/
theorem zclosed_eq (hP : zPre n lo) {p : Nat} (hp : p < 1 <<< n) : zIns n lo (zan (1 <<< n - 1) p) = zan (1 <<< n - 1) p ↔ zClo9 n lo p = p := by
  have e1 : zIns n lo (zan (1 <<< n - 1) p) = zan (1 <<< n - 1) (zClo9 n lo p) := by
    refine zext (fun i => ?_)
    rw [zIns, zbits_bit, zan_bit, zan_bit, zall_bit, zClo9, zbits_bit]
    by_cases hi : i < n
    · rw [decide_eq_true hi, Bool.true_and, Bool.true_and, Bool.true_and, Bool.true_and]
      by_cases c : lo i &&& p = 0
      · rw [decide_eq_false (p := lo i &&& p ≠ 0) (fun g => g c)]
        have h1 : p.testBit i = false := by
          cases q : p.testBit i with
          | false => rfl
          | true => exact absurd c (zmeet.mpr ⟨i, (hP.2 i hi).2.1, q⟩)
        rw [h1, decide_eq_true]
        · rfl
        · refine zext (fun j => ?_)
          rw [zan_bit, zan_bit, zall_bit, Nat.zero_testBit]
          cases q : (lo i).testBit j with
          | false => rfl
          | true =>
            have h2 : p.testBit j = false := by
              cases q2 : p.testBit j with
              | false => rfl
              | true => exact absurd c (zmeet.mpr ⟨j, q, q2⟩)
            rw [h2, decide_eq_true (hP.bn hi q)]; rfl
      · rw [decide_eq_true (p := lo i &&& p ≠ 0) c, decide_eq_false, Bool.and_false]
        · rfl
        · obtain ⟨j, h1, h2⟩ := zmeet.mp c
          intro g
          have : (zan (lo i) (zan (1 <<< n - 1) p)).testBit j = true := by rw [zan_bit, zan_bit, h1, h2, zall_bit, Bool.not_true, Bool.and_false]; rfl
          rw [g, Nat.zero_testBit] at this
          exact absurd this (by decide)
    · rw [decide_eq_false hi]; rfl
  rw [e1]
  constructor
  · intro h
    refine zext (fun i => ?_)
    by_cases hi : i < n
    · have : (zan (1 <<< n - 1) (zClo9 n lo p)).testBit i = (zan (1 <<< n - 1) p).testBit i := by rw [h]
      rw [zan_bit, zan_bit, zall_bit, decide_eq_true hi, Bool.true_and, Bool.true_and] at this
      cases q1 : (zClo9 n lo p).testBit i <;> cases q2 : p.testBit i <;> rw [q1, q2] at this <;> first | rfl | exact absurd this (by decide)
    · rw [zClo9, zbits_bit, decide_eq_false hi]
      cases q : p.testBit i with
      | false => rfl
      | true => exact absurd (zlt_bit hp q) hi
  · intro h; rw [h]
/-- chains -/
def zRch (n : Nat) (lo : Nat → Nat) (s x : Nat) : Bool := !s.testBit x || decide (zan (zan (zan s (1 <<< x)) (zBw lo (zTr n lo) x &&& s)) (zAb lo (zTr n lo) x &&& s) = 0)
theorem zchain_eq (hP : zPre n lo) {s : Nat} : (decide (zan s (zFst n lo (zTr n lo)) = 0) && zAl (zRch n lo s) n) = zChn n lo (zTr n lo) s := by
  unfold zChn
  by_cases e : zan s (zFst n lo (zTr n lo)) = 0
  · rw [decide_eq_true e, Bool.true_and, Bool.true_and]
    refine zAl_cong (fun x hx => ?_)
    unfold zRch zIc
    cases q : s.testBit x with
    | false => rfl
    | true =>
      show decide _ = decide _
      have hin : ∀ y, s.testBit y = true → (zFst n lo (zTr n lo)).testBit y = true := fun y hy => by
        cases q2 : (zFst n lo (zTr n lo)).testBit y with
        | true => rfl
        | false =>
          have : (zan s (zFst n lo (zTr n lo))).testBit y = true := by rw [zan_bit, hy, q2]; rfl
          rw [e, Nat.zero_testBit] at this
          exact absurd this (by decide)
      have : zan (zan (zan s (1 <<< x)) (zBw lo (zTr n lo) x &&& s)) (zAb lo (zTr n lo) x &&& s) = zan s (lo x ||| zTr n lo x) := by
        refine zext (fun y => ?_)
        rw [zan_bit, zan_bit, zan_bit, zan_bit, Nat.testBit_and, Nat.testBit_and, Nat.testBit_or, zBw, zAb, zan_bit, zan_bit, z1bit]
        cases qs : s.testBit y with
        | false => rfl
        | true =>
          by_cases ey : y = x
          · rw [decide_eq_true ey, ey, (hP.2 x hx).2.1]; rfl
          · rw [decide_eq_false ey]
            cases q1 : (lo x).testBit y <;> cases q2 : (zTr n lo x).testBit y
            · rfl
            · rfl
            · rfl
            · exact absurd (zFst_two hP hx (by rw [Nat.testBit_and, q1, q2]; rfl) (hin x q) (hin y qs)) ey
      rw [this]
  · rw [decide_eq_false e, Bool.false_and, Bool.false_and]
end ZPT
