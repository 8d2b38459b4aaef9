/-! what the table says -/
def zFo0 (n x : Nat) : Nat := (zFm n (zDl n x) (zFac n)).1
def zFc9 (n c : Nat) : Bool := zVal n c && decide (zFo0 n c = c)
def zTbP (n c k : Nat) (L : List (Nat × Nat × Nat)) : Prop := (∀ g : Nat → Nat × Nat → Bool, zct (fun x => zVal n x && g x (zFm n (zDl n x) (zFac n))) (c + k) = zct (fun x => zVal n x && g x (zFm n (zDl n x) (zFac n))) c + (L.filter (fun e => g e.1 e.2)).length) ∧ ∀ x, c ≤ x → x < c + k → zVal n x = true → (x, zFm n (zDl n x) (zFac n)) ∈ L
theorem zTbk_s {n : Nat} : ∀ (k c : Nat) (L : List (Nat × Nat × Nat)), zTbk n c k L = true → zTbP n c k L
  | 0, c, L, h => by
    rw [zTbk, List.isEmpty_iff] at h
    subst h
    exact ⟨fun g => rfl, fun x h1 h2 => absurd h2 (by omega)⟩
  | k + 1, c, [], h => by
    rw [zTbk, Bool.and_eq_true, Bool.not_eq_true'] at h
    obtain ⟨h1, h2⟩ := h
    obtain ⟨a1, a2⟩ := zTbk_s k (c + 1) [] h2
    refine ⟨fun g => ?_, fun x g1 g2 g3 => ?_⟩
    · rw [show c + (k + 1) = c + 1 + k by omega, a1 g, zct_no (by rw [h1]; rfl)]
    · by_cases e : x = c
      · rw [e, h1] at g3; cases g3
      · exact a2 x (by omega) (by omega) g3
  | k + 1, c, e :: L, h => by
    rw [zTbk] at h
    by_cases g : e.1 = c
    · simp only [g, if_true, Bool.and_eq_true, decide_eq_true_eq] at h
      obtain ⟨⟨h1, h2⟩, h3⟩ := h
      obtain ⟨a1, a2⟩ := zTbk_s k (c + 1) L h3
      have ee : e = (c, zFm n (zDl n c) (zFac n)) := by rw [h2, ← g]
      refine ⟨fun g => ?_, fun x g1 g2 g3 => ?_⟩
      · rw [show c + (k + 1) = c + 1 + k by omega, a1 g]
        cases q : g c (zFm n (zDl n c) (zFac n)) with
        | true =>
          rw [zct_yes (by rw [h1, q]; rfl), List.filter_cons, ee, if_pos q, List.length_cons]
          omega
        | false =>
          rw [zct_no (by rw [h1, q]; rfl), List.filter_cons, ee, if_neg (by rw [q]; decide)]
      · by_cases e2 : x = c
        · rw [e2, ← ee]
          exact List.mem_cons_self ..
        · exact List.mem_cons_of_mem _ (a2 x (by omega) (by omega) g3)
    · simp only [g, if_false, Bool.and_eq_true, Bool.not_eq_true'] at h
      obtain ⟨h1, h2⟩ := h
      obtain ⟨a1, a2⟩ := zTbk_s k (c + 1) (e :: L) h2
      refine ⟨fun g => ?_, fun x g1 g2 g3 => ?_⟩
      · rw [show c + (k + 1) = c + 1 + k by omega, a1 g, zct_no (by rw [h1]; rfl)]
      · by_cases e : x = c
        · rw [e, h1] at g3; cases g3
        · exact a2 x (by omega) (by omega) g3
theorem zTbP.app {n c k k2 : Nat} {L L2 : List (Nat × Nat × Nat)} (h1 : zTbP n c k L) (h2 : zTbP n (c + k) k2 L2) : zTbP n c (k + k2) (L ++ L2) := by
  refine ⟨fun g => ?_, fun x g1 g2 g3 => ?_⟩
  · rw [← Nat.add_assoc, h2.1 g, h1.1 g, List.filter_append, List.length_append]
    omega
  · by_cases e : x < c + k
    · exact List.mem_append_left _ (h1.2 x g1 e g3)
    · exact List.mem_append_right _ (h2.2 x (by omega) (by omega) g3)
def zTbc (n : Nat) (L : List (Nat × Nat × Nat)) : Bool := decide ((L.filter (fun e => decide (e.2.1 = e.1))).length ≤ 33) && L.all (fun e => !decide (e.2.1 = e.1) || decide ((L.filter (fun e2 => decide (e2.2.1 = e.1))).length = zFac n / e.2.2))
theorem zTb40 : zTbP 4 0 4096 zTb4 :=
  (zTbk_s 256 0 _ zTbk4_0).app ((zTbk_s 256 256 _ zTbk4_1).app ((zTbk_s 256 512 _ zTbk4_2).app ((zTbk_s 256 768 _ zTbk4_3).app ((zTbk_s 256 1024 _ zTbk4_4).app ((zTbk_s 256 1280 _ zTbk4_5).app ((zTbk_s 256 1536 _ zTbk4_6).app ((zTbk_s 256 1792 _ zTbk4_7).app ((zTbk_s 256 2048 _ zTbk4_8).app ((zTbk_s 256 2304 _ zTbk4_9).app ((zTbk_s 256 2560 _ zTbk4_10).app ((zTbk_s 256 2816 _ zTbk4_11).app ((zTbk_s 256 3072 _ zTbk4_12).app ((zTbk_s 256 3328 _ zTbk4_13).app ((zTbk_s 256 3584 _ zTbk4_14).app (zTbk_s 256 3840 _ zTbk4_15)))))))))))))))
theorem zTb_2 : zTbc 0 zTb0 = true ∧ zTbc 1 zTb1 = true ∧ zTbc 2 zTb2 = true ∧ zTbc 3 zTb3 = true ∧ zTbc 4 zTb4 = true := by decide +kernel
theorem zTb_all {n : Nat} (hn : n < 5) : ∃ L, zTbP n 0 (zE9 n) L ∧ zTbc n L = true := by
  obtain ⟨h0, h1, h2, h3, h4⟩ := zTb_2
  rcases (by omega : n = 0 ∨ n = 1 ∨ n = 2 ∨ n = 3 ∨ n = 4) with rfl | rfl | rfl | rfl | rfl
  · exact ⟨_, zTbk_s 1 0 _ zTbk0, h0⟩
  · exact ⟨_, zTbk_s 1 0 _ zTbk1, h1⟩
  · exact ⟨_, zTbk_s 4 0 _ zTbk2, h2⟩
  · exact ⟨_, zTbk_s 64 0 _ zTbk3, h3⟩
  · exact ⟨_, zTb40, h4⟩
theorem zForm_n {n : Nat} (hn : n < 5) : zct (zFc9 n) (zE9 n) ≤ 33 := by
  obtain ⟨L, h1, h2⟩ := zTb_all hn
  rw [zTbc, Bool.and_eq_true, decide_eq_true_eq] at h2
  have := h1.1 (fun x e => decide (e.1 = x))
  rw [Nat.zero_add] at this
  have e : zct (zFc9 n) (zE9 n) = zct (fun x => zVal n x && (fun x (e : Nat × Nat) => decide (e.1 = x)) x (zFm n (zDl n x) (zFac n))) (zE9 n) := rfl
  rw [e, this]
  show 0 + _ ≤ 33
  omega
theorem zForm_h {n x : Nat} (hn : n < 5) (hx : x < zE9 n) (h : zFc9 n x = true) : zct (fun y => zVal n y && decide (zFo0 n y = x)) (zE9 n) = zFac n / (zFm n (zDl n x) (zFac n)).2 := by
  obtain ⟨L, h1, h2⟩ := zTb_all hn
  rw [zTbc, Bool.and_eq_true, List.all_eq_true] at h2
  rw [zFc9, Bool.and_eq_true] at h
  have hm := h2.2 _ (h1.2 x (Nat.zero_le _) (by omega) h.1)
  have hf : decide ((zFm n (zDl n x) (zFac n)).1 = x) = true := h.2
  simp only [hf, Bool.not_true, Bool.false_or, decide_eq_true_eq] at hm
  have := h1.1 (fun _ e => decide (e.1 = x))
  rw [Nat.zero_add] at this
  have e : zct (fun y => zVal n y && decide (zFo0 n y = x)) (zE9 n) = zct (fun y => zVal n y && (fun _ (e : Nat × Nat) => decide (e.1 = x)) y (zFm n (zDl n y) (zFac n))) (zE9 n) := rfl
  rw [e, this, ← hm]
  exact Nat.zero_add _
theorem zFm_h1 {n : Nat} {lo : Nat → Nat} : ∀ p, 1 ≤ p → 1 ≤ (zFm n lo p).2
  | 0, h => absurd h (by decide)
  | 1, _ => by rw [zFm_y (Or.inl rfl)]; exact Nat.le_refl 1
  | p + 2, _ => by
    have ih := zFm_h1 (n := n) (lo := lo) (p + 1) (by omega)
    by_cases g : p + 1 = 0 ∨ zCode n lo (zOrd n (p + 1)) < (zFm n lo (p + 1)).1
    · rw [zFm_y g]; exact Nat.le_refl 1
    · rw [zFm_n g]
      show 1 ≤ _ + _
      omega
def zLl (n : Nat) : Nat → List (Nat × Nat × Nat)
  | 0 => []
  | c + 1 => if zFc9 n c then zLl n c ++ [(c, zFac n / (zFm n (zDl n c) (zFac n)).2, b2n (zPln n c))] else zLl n c
theorem zLl_y {n c : Nat} (h : zFc9 n c = true) : zLl n (c + 1) = zLl n c ++ [(c, zFac n / (zFm n (zDl n c) (zFac n)).2, b2n (zPln n c))] := if_pos h
theorem zLl_n {n c : Nat} (h : zFc9 n c = false) : zLl n (c + 1) = zLl n c := if_neg (by rw [h]; decide)
theorem zLl_len {n : Nat} : ∀ c, (zLl n c).length = zct (zFc9 n) c
  | 0 => rfl
  | c + 1 => by
    have ih := zLl_len (n := n) c
    cases e : zFc9 n c with
    | true => rw [zLl_y e, zct_yes e, List.length_append, ih]; rfl
    | false => rw [zLl_n e, zct_no e, ih]
theorem zLs_ll {n : Nat} (hn : n < 6) : ∀ c, zct (zFc9 n) c ≤ 33 → (zLs n c).2.2 = zLl n c
  | 0, _ => rfl
  | c + 1, h => by
    have h0 := zct_up (zFc9 n) (show c ≤ c + 1 by omega)
    have ih := zLs_ll hn c (by omega)
    have hl := zLl_len (n := n) c
    have hh := zFm_h1 (n := n) (lo := zDl n c) (zFac n) (zFac_le n hn).2
    cases ev : zVal n c with
    | false => rw [zLs_n ev, zLl_n (by unfold zFc9; rw [ev]; rfl), ih]
    | true =>
      rw [zLs_y ev]
      show zEnl n c (zLs n c).2.2 = _
      rw [ih]
      by_cases ef : (zFm n (zDl n c) (zFac n)).1 = c
      · have e9 : zFc9 n c = true := by unfold zFc9 zFo0; rw [ev, decide_eq_true ef]; rfl
        rw [zct_yes e9] at h
        rw [zEnl_y ⟨ef, by omega, by omega⟩, zLl_y e9]
      · have e9 : zFc9 n c = false := by unfold zFc9 zFo0; rw [decide_eq_false ef, Bool.and_false]
        rw [zEnl_n (fun g => ef g.1), zLl_n e9]
theorem zLs_1 {n : Nat} : ∀ c, (zLs n c).1 = zct (zVal n) c ∧ (zLs n c).2.1 = zct (fun c => zVal n c && zPln n c) c
  | 0 => ⟨rfl, rfl⟩
  | c + 1 => by
    obtain ⟨h1, h2⟩ := zLs_1 (n := n) c
    cases ev : zVal n c with
    | false => rw [zLs_n ev, zct_no ev, zct_no (by rw [ev]; rfl)]; exact ⟨h1, h2⟩
    | true =>
      rw [zLs_y ev, zct_yes ev]
      refine ⟨by rw [← h1], ?_⟩
      show (zLs n c).2.1 + b2n (zPln n c) = zct (fun c => zVal n c && zPln n c) c + b2n (zVal n c && zPln n c)
      rw [h2, ev, Bool.true_and]
theorem zLl_in {n : Nat} : ∀ {m c i : Nat}, c ≤ m → i < (zLl n c).length → (zLl n m).getD i (0, 0, 0) = (zLl n c).getD i (0, 0, 0)
  | 0, c, i, hc, hi => by rw [show c = 0 by omega] at hi; exact absurd hi (by show ¬ i < 0; omega)
  | m + 1, c, i, hc, hi => by
    by_cases e : c = m + 1
    · rw [e]
    · have ih := zLl_in (m := m) (c := c) (i := i) (by omega) hi
      rw [← ih]
      have hl := zLl_len (n := n)
      have hu := zct_up (zFc9 n) (show c ≤ m by omega)
      cases q : zFc9 n m with
      | false => rw [zLl_n q]
      | true =>
        rw [zLl_y q, List.getD_eq_getElem?_getD, List.getElem?_append_left (by rw [hl]; rw [hl] at hi; omega), ← List.getD_eq_getElem?_getD]
theorem zLl_at {n m c : Nat} (hc : c < m) (h : zFc9 n c = true) : (zLl n m).getD (zct (zFc9 n) c) (0, 0, 0) = (c, zFac n / (zFm n (zDl n c) (zFac n)).2, b2n (zPln n c)) := by
  rw [zLl_in (c := c + 1) (by omega) (by rw [zLl_len, zct_yes h]; omega), zLl_y h, List.getD_eq_getElem?_getD, ← zLl_len, List.getElem?_append_right (Nat.le_refl _), Nat.sub_self]
  rfl
/-- forms that are plain, if that is asked -/
def zFp9 (n p c : Nat) : Bool := zFc9 n c && (decide (p = 0) || zPln n c)
theorem zLl_pc {n m p : Nat} (hp : p < 2) : ∀ {c : Nat}, c ≤ m → zct (fun j => decide (p ≤ zPlP (zLl n m) j)) (zct (zFc9 n) c) = zct (zFp9 n p) c
  | 0, _ => rfl
  | c + 1, hc => by
    have ih := zLl_pc (n := n) (m := m) hp (c := c) (by omega)
    cases q : zFc9 n c with
    | false => rw [zct_no q, zct_no (by unfold zFp9; rw [q]; rfl), ih]
    | true =>
      have hv : zPlP (zLl n m) (zct (zFc9 n) c) = b2n (zPln n c) := by unfold zPlP; rw [zLl_at (by omega) q]
      have e : decide (p ≤ zPlP (zLl n m) (zct (zFc9 n) c)) = zFp9 n p c := by
        rw [hv]
        unfold zFp9
        rw [q, Bool.true_and]
        cases zPln n c
        · rw [Bool.or_false]
          show decide (p ≤ 0) = _
          exact decide_eq_decide.mpr (by omega)
        · rw [Bool.or_true]
          exact decide_eq_true (show p ≤ 1 by omega)
      rw [zct_yes q]
      show zct _ (zct (zFc9 n) c) + b2n (decide (p ≤ zPlP (zLl n m) (zct (zFc9 n) c))) = zct (zFp9 n p) c + b2n (zFp9 n p c)
      rw [ih, e]
theorem zPlAt_f {n m p c i : Nat} (hp : p < 2) (hc : c < m) (hF : zFp9 n p c = true) (hi : zct (zFp9 n p) c = i) : zPlAt (zLl n m) p i = zct (zFc9 n) c := by
  have h9 : zFc9 n c = true := by unfold zFp9 at hF; rw [Bool.and_eq_true] at hF; exact hF.1
  have e0 := zLl_pc (n := n) (m := m) hp (c := c) (by omega)
  have e1 := zLl_pc (n := n) (m := m) hp (c := c + 1) (by omega)
  rw [zct_yes h9, zct_yes hF] at e1
  have hk : decide (p ≤ zPlP (zLl n m) (zct (zFc9 n) c)) = true := by
    cases q : decide (p ≤ zPlP (zLl n m) (zct (zFc9 n) c)) with
    | true => rfl
    | false => rw [zct_no (c := fun j => decide (p ≤ zPlP (zLl n m) j)) q] at e1; omega
  refine zfs_at ?_ ?_ (fun j hj => ?_)
  · have := zct_up (zFc9 n) (show c + 1 ≤ m by omega)
    rw [zct_yes h9] at this
    rw [zLl_len]
    omega
  · rw [hk, e0, decide_eq_true hi]; rfl
  · cases q : decide (p ≤ zPlP (zLl n m) j) with
    | false => rfl
    | true =>
      have h1 : zct (fun j => decide (p ≤ zPlP (zLl n m) j)) (j + 1) = _ := zct_yes q
      have h2 := zct_up (fun j => decide (p ≤ zPlP (zLl n m) j)) (show j + 1 ≤ zct (zFc9 n) c by omega)
      rw [decide_eq_false (by omega)]
      rfl
theorem zPlAt_no {n m p i : Nat} (hp : p < 2) (hi : zct (zFp9 n p) m ≤ i) : zPlAt (zLl n m) p i = (zLl n m).length := by
  have e0 := zLl_pc (n := n) (m := m) hp (c := m) (by omega)
  refine zfs_none (fun j hj => ?_)
  rw [zLl_len] at hj
  cases q : decide (p ≤ zPlP (zLl n m) j) with
  | false => rfl
  | true =>
    have h1 : zct (fun j => decide (p ≤ zPlP (zLl n m) j)) (j + 1) = _ := zct_yes q
    have h2 := zct_up (fun j => decide (p ≤ zPlP (zLl n m) j)) (show j + 1 ≤ zct (zFc9 n) m by omega)
    rw [decide_eq_false (by omega)]
    rfl
theorem zsm_ct {f : Nat → Nat} {p : Nat → Bool} : ∀ {n : Nat}, (∀ i, i < n → f i = b2n (p i)) → zsm f n = zct p n
  | 0, _ => rfl
  | n + 1, h => by rw [zsm, zct, zsm_ct (fun i hi => h i (by omega)), h n (by omega)]
theorem zLl_sum {n m : Nat} : zPlSum (zLl n m) = zct (zFp9 n 1) m := by
  rw [← zLl_pc (n := n) (m := m) (show 1 < 2 by decide) (Nat.le_refl m), ← zLl_len]
  refine zsm_ct (fun i hi => ?_)
  have h1 : zPlP (zLl n m) i ≤ 1 := by
    unfold zPlP
    have key : ∀ c, ∀ e, e ∈ zLl n c → e.2.2 ≤ 1 := fun c => by
      induction c with
      | zero => exact fun e he => absurd he (by simp [zLl])
      | succ c ih =>
        intro e he
        cases q : zFc9 n c with
        | false => rw [zLl_n q] at he; exact ih e he
        | true =>
          rw [zLl_y q, List.mem_append, List.mem_singleton] at he
          rcases he with he | he
          · exact ih e he
          · rw [he]; exact b2n_le _
    rw [List.getD_eq_getElem?_getD, List.getElem?_eq_getElem hi]
    exact key m _ (List.getElem_mem hi)
  rcases (by omega : zPlP (zLl n m) i = 0 ∨ zPlP (zLl n m) i = 1) with e | e <;> (rw [e]; rfl)
/-- what list counts -/
def zLi9 (n w c : Nat) : Bool := zVal n c && (decide (w % 2 = 0) || zPln n c) && (decide (w < 2) || decide (zFo0 n c = c))
theorem zList9_eq {n w : Nat} (hn : n < 5) (hw : w < 4) : zList9 n w = nI (zct (zLi9 n w) (zE9 n)) := by
  have hL := zLs_ll (show n < 6 by omega) (zE9 n) (zForm_n hn)
  rcases (by omega : w = 0 ∨ w = 1 ∨ w = 2 ∨ w = 3) with rfl | rfl | rfl | rfl
  · show nI (zLs n (zE9 n)).1 = _
    rw [(zLs_1 _).1]
    exact congrArg nI (zct_cong (fun c _ => by unfold zLi9; cases zVal n c <;> cases zPln n c <;> rfl))
  · show nI (zLs n (zE9 n)).2.1 = _
    rw [(zLs_1 _).2]
    exact congrArg nI (zct_cong (fun c _ => by unfold zLi9; cases zVal n c <;> cases zPln n c <;> rfl))
  · show nI (zLs n (zE9 n)).2.2.length = _
    rw [hL, zLl_len]
    exact congrArg nI (zct_cong (fun c _ => by unfold zLi9 zFc9; cases zVal n c <;> cases zPln n c <;> cases decide (zFo0 n c = c) <;> rfl))
  · show nI (zPlSum (zLs n (zE9 n)).2.2) = _
    rw [hL, zLl_sum]
    exact congrArg nI (zct_cong (fun c _ => by unfold zLi9 zFp9 zFc9; cases zVal n c <;> cases zPln n c <;> cases decide (zFo0 n c = c) <;> rfl))
theorem zListed_f {n p c i w : Nat} (hn : n < 5) (hp : p < 2) (hc : c < zE9 n) (hF : zFp9 n p c = true) (hi : zct (zFp9 n p) c = i) : zListed n p i w = nI (if w = 0 then c else zct (fun y => zVal n y && decide (zFo0 n y = c)) (zE9 n)) := by
  have hL := zLs_ll (show n < 6 by omega) (zE9 n) (zForm_n hn)
  have h9 : zFc9 n c = true := by unfold zFp9 at hF; rw [Bool.and_eq_true] at hF; exact hF.1
  have hl : zct (zFc9 n) c < (zLl n (zE9 n)).length := by
    have := zct_up (zFc9 n) (show c + 1 ≤ zE9 n by omega)
    rw [zct_yes h9] at this
    rw [zLl_len]
    omega
  rw [zListed, hL, zPlAt_f hp hc hF hi, if_pos hl, zLl_at hc h9, zForm_h hn hc h9]
theorem zListed_no {n p i w : Nat} (hn : n < 5) (hp : p < 2) (hi : zct (zFp9 n p) (zE9 n) ≤ i) : zListed n p i w = -3 := by
  have hL := zLs_ll (show n < 6 by omega) (zE9 n) (zForm_n hn)
  rw [zListed, hL, zPlAt_no hp hi, if_neg (by omega)]
