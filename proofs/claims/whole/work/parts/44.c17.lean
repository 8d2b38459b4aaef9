theorem ct_set {d : Nat} {h : zH} {o st ln i : Nat} {v : Int32} {f : Nat → Int32} (ho2 : 2 ≤ o) (hS : zSh h o st ln f) (hst : st ≤ 3) (hi9 : i < 40) : zCallP (d + 1) 57 [.ref o, .int (nI i), .int v] h (zRN (fun h1 => zFr (zaS o) h h1 ∧ zSh h1 o st ln (upd f i (zNar st v)))) := by
  have fin : ∀ u : Int32, u = zNar st v → zFr (zaS o) h (zset h (o + 1) (.inl (0, 40, .inl (upd f i u)))) ∧ zSh (zset h (o + 1) (.inl (0, 40, .inl (upd f i u)))) o st ln (upd f i (zNar st v)) := fun u e => ⟨zFr.rf.set ⟨by omega, by omega⟩, by rw [zset_ne _ _ (by omega)]; exact hS.1, by rw [zset_eq, e]⟩
  refine zG_mP (t := tX6_set) (ls0 := [.ref o, .int (nI i), .int v]) rfl rfl (zdnR (zdnI (zdnI zdn0))) rfl ?_
  refine zG_s rfl rfl ?_
  refine zN_get rfl hS.1 rfl ?_
  refine zN_if rfl (fun c1 => ?_) (fun c2 => ?_)
  · skip
    refine zG_s rfl rfl ?_
    refine zN_get rfl hS.1 rfl ?_
    refine zG_s rfl rfl ?_
    refine zN_if2 rfl (fun c3 => ?_) (fun c4 => ?_)
    · skip
      refine zG_s rfl rfl ?_
      refine zN_get rfl hS.1 rfl ?_
      refine zG_s rfl rfl ?_
      refine zG_s rfl rfl ?_
      refine zN_ast rfl hS.2 (by omega) (by omega) (zble_of ho2) ?_
      -- leaf 1
      have e1 : ¬ zbv st = nI 0 := of_decide_eq_true c1
      rw [zbv_in (by decide) (by omega)] at e1
      have e3 : ¬ zbv st = nI 1 := of_decide_eq_true c3
      rw [zbv_in (by decide) (by omega)] at e3
      refine zG_ret rfl rfl ⟨rfl, fin _ ?_⟩
      unfold zNar
      rw [if_neg (by omega), if_neg (by omega)]
    · skip
      refine zG_s rfl rfl ?_
      refine zN_get rfl hS.1 rfl ?_
      refine zG_s rfl rfl ?_
      refine zG_s rfl rfl ?_
      refine zG_s rfl rfl ?_
      refine zN_ast rfl hS.2 (by omega) (by omega) (zble_of ho2) ?_
      refine zG_s rfl rfl ?_
      -- leaf 2
      have e1 : ¬ zbv st = nI 0 := of_decide_eq_true c1
      rw [zbv_in (by decide) (by omega)] at e1
      have e3 : zbv st = nI 1 := Decidable.not_not.mp (of_decide_eq_false c4)
      rw [zbv_in (by decide) (by omega)] at e3
      refine zG_ret rfl rfl ⟨rfl, fin _ ?_⟩
      unfold zNar
      rw [if_neg (by omega), if_pos (by omega)]
  · skip
    refine zG_s rfl rfl ?_
    refine zN_get rfl hS.1 rfl ?_
    refine zG_s rfl rfl ?_
    refine zG_s rfl rfl ?_
    refine zG_s rfl rfl ?_
    refine zN_ast rfl hS.2 (by omega) (by omega) (zble_of ho2) ?_
    refine zG_s rfl rfl ?_
    -- leaf 3
    have e1 : zbv st = nI 0 := Decidable.not_not.mp (of_decide_eq_false c2)
    rw [zbv_in (by decide) (by omega)] at e1
    refine zG_ret rfl rfl ⟨rfl, fin _ ?_⟩
    unfold zNar
    rw [if_pos (by omega)]
theorem ct_next {d : Nat} {h : zH} {o ln p : Nat} {f : Nat → Int32} {B : Nat → Nat} (hT : h.2.2 o = .inr (8, [.ref (o + 1), .int (nI ln), .int (nI p)])) (hf : h.2.2 (o + 1) = .inl (2, 100, .inl f)) (hB : ∀ i, i < ln → f i = zS8 (B i) ∧ B i < 256) (hl : ln ≤ 100) (hp : p ≤ ln) : zCall (d + 1) 92 [.ref o] h (some (.int (zAt8 B ln p)), zset h o (.inr (8, [.ref (o + 1), .int (nI ln), .int (nI (zSk B ln p))]))) := by
  obtain ⟨R, r0, r1, r2⟩ : ∃ R : Int32 × Nat, (zAt8 B ln p, zSk B ln p) = R ∧ ((∀ i, p ≤ i → i < ln → B i = 32) → R = (-1, ln)) ∧ (∀ q, p ≤ q → q < ln → (∀ i, p ≤ i → i < q → B i = 32) → B q ≠ 32 → R = (nI (B q), q)) :=
    ⟨_, rfl, fun h1 => by unfold zAt8; rw [zSk_end hp h1, if_neg (Nat.lt_irrefl _)], fun q h1 h2 h3 h4 => by unfold zAt8; rw [zSk_at h1 h2 h3 h4, if_pos h2]⟩
  obtain ⟨Rv, Rp⟩ := R
  have e1 := congrArg Prod.fst r0
  have e2 := congrArg Prod.snd r0
  simp only at e1 e2
  rw [e1, e2]
  clear r0 e1 e2
  have hZ : ∀ q : Nat, (zset h o (.inr (8, [.ref (o + 1), .int (nI ln), .int (nI (q))]))).2.2 (o + 1) = .inl (2, 100, .inl f) := fun q => by rw [zset_ne _ _ (by omega)]; exact hf
  have hh : zset h o (.inr (8, [.ref (o + 1), .int (nI ln), .int (nI (p))])) = h := zset_self _ hT
  rw [← hh]
  rw [zset_set]
  refine zG_m (t := tX8_next) (ls0 := [.ref o]) rfl rfl (zdnR zdn0) rfl ?_
  have main0 : ∀ q, q ≤ ln → p ≤ q → (∀ i, p ≤ i → i < q → B i = 32) → zGo (d) tX8_next 0 [.ref o] [] (zset h o (.inr (8, [.ref (o + 1), .int (nI ln), .int (nI (q))]))) (some (.int Rv), zset h o (.inr (8, [.ref (o + 1), .int (nI ln), .int (nI (Rp))]))) := by
    refine zdown (ln) ?_ (fun q hp0 ih0 => ?_)
    · skip
      intro hpq hb
      refine zG_s rfl rfl ?_
      refine zN_get rfl (zset_eq _ _ _) rfl ?_
      refine zG_s rfl rfl ?_
      refine zN_get rfl (zset_eq _ _ _) rfl ?_
      refine zN_ige rfl (by omega) (by omega) (fun c1 => ?_) (fun c2 => absurd c2 (by omega))
      refine zG_s rfl rfl ?_
      refine zN_get rfl (zset_eq _ _ _) rfl ?_
      refine zG_s rfl rfl ?_
      refine zN_get rfl (zset_eq _ _ _) rfl ?_
      refine zN_ige rfl (by omega) (by omega) (fun c3 => ?_) (fun c4 => ?_)
      · skip
        refine zG_s rfl rfl ?_
        -- leaf 1
        exact zG_ret rfl rfl (by cases r1 hb; rfl)
      · skip
        refine zG_s rfl rfl ?_
        refine zN_get rfl (zset_eq _ _ _) rfl ?_
        refine zG_s rfl rfl ?_
        refine zN_get rfl (zset_eq _ _ _) rfl ?_
        refine zN_bld (tt := 2) rfl (Or.inl rfl) (hZ _) (by omega) (by omega) (hB _ (by omega)).1 ?_
        refine zG_s rfl rfl ?_
        refine zN_b255 rfl (hB _ (by omega)).2 ?_
        refine zG_s rfl rfl ?_
        -- leaf 2
        exact absurd c4 (Nat.lt_irrefl _)
    · skip
      intro hpq hb
      refine zG_s rfl rfl ?_
      refine zN_get rfl (zset_eq _ _ _) rfl ?_
      refine zG_s rfl rfl ?_
      refine zN_get rfl (zset_eq _ _ _) rfl ?_
      refine zN_ige rfl (by omega) (by omega) (fun c5 => absurd c5 (by omega)) (fun c6 => ?_)
      refine zG_s rfl rfl ?_
      refine zN_get rfl (zset_eq _ _ _) rfl ?_
      refine zG_s rfl rfl ?_
      refine zN_get rfl (zset_eq _ _ _) rfl ?_
      refine zN_bld (tt := 2) rfl (Or.inl rfl) (hZ _) (by omega) (by omega) (hB _ (by omega)).1 ?_
      refine zG_s rfl rfl ?_
      refine zN_b32 rfl (hB _ (by omega)).2 (fun c7 => ?_) (fun c8 => ?_)
      · skip
        refine zG_s rfl rfl ?_
        refine zN_get rfl (zset_eq _ _ _) rfl ?_
        refine zG_s rfl rfl ?_
        refine zN_get rfl (zset_eq _ _ _) rfl ?_
        refine zN_ige rfl (by omega) (by omega) (fun c9 => ?_) (fun c10 => ?_)
        · skip
          refine zG_s rfl rfl ?_
          -- leaf 3
          exact absurd c9 (by omega)
        · skip
          refine zG_s rfl rfl ?_
          refine zN_get rfl (zset_eq _ _ _) rfl ?_
          refine zG_s rfl rfl ?_
          refine zN_get rfl (zset_eq _ _ _) rfl ?_
          refine zN_bld (tt := 2) rfl (Or.inl rfl) (hZ _) (by omega) (by omega) (hB _ (by omega)).1 ?_
          refine zG_s rfl rfl ?_
          refine zN_b255 rfl (hB _ (by omega)).2 ?_
          refine zG_s rfl rfl ?_
          -- leaf 4
          exact zG_ret rfl rfl (by cases r2 q hpq hp0 hb c7; rfl)
      · skip
        refine zG_s rfl rfl ?_
        refine zG_s rfl rfl ?_
        refine zN_get rfl (zset_eq _ _ _) rfl ?_
        refine zG_s rfl rfl ?_
        refine zN_add (y := 1) rfl ?_
        refine zN_put (fs' := [.ref (o + 1), .int (nI ln), .int (nI (q + 1))]) rfl (zset_eq _ _ _) rfl rfl rfl ?_
        rw [zset_set]
        refine zG_s rfl rfl ?_
        -- leaf 5
        exact ih0 (by omega) (fun i h1 h2 => by
          by_cases e : i = q
          · subst e; assumption
          · exact hb i h1 (by omega))
  exact main0 p hp (Nat.le_refl p) (fun i h1 h2 => absurd h2 (by omega))
theorem zIsn_iff {B : Nat → Nat} {ln p ch : Nat} (hch : ch < 256) (hb : ∀ i, i < ln → B i < 256) : zAt8 B ln p = nI ch ↔ zIsn B ln p ch = true := by
  unfold zAt8 zIsn
  by_cases e : zSk B ln p < ln
  · have := hb _ e
    rw [if_pos e, nI_eq (by omega) (by omega), decide_eq_true e, Bool.true_and, decide_eq_true_eq]
  · rw [if_neg e, decide_eq_false e, Bool.false_and]
    constructor
    · intro q; exact absurd (q ▸ nI_pos (show ch < 2 ^ 31 by omega) : ¬ (-1 : Int32) < 0) (by decide)
    · intro q; cases q
theorem ct_isNext {d : Nat} {h : zH} {o ln p : Nat} {f : Nat → Int32} {B : Nat → Nat} (hT : h.2.2 o = .inr (8, [.ref (o + 1), .int (nI ln), .int (nI p)])) (hf : h.2.2 (o + 1) = .inl (2, 100, .inl f)) (hB : ∀ i, i < ln → f i = zS8 (B i) ∧ B i < 256) (hl : ln ≤ 100) (hp : p ≤ ln) {ch : Nat} (hch : ch < 256) : zCall (d + 2) 93 [.ref o, .int (nI ch)] h (some (.int (nI (b2n (zIsn B ln p ch)))), zset h o (.inr (8, [.ref (o + 1), .int (nI ln), .int (nI (zSk B ln p + b2n (zIsn B ln p ch)))]))) := by
  have hi9 := zIsn_iff (p := p) hch (fun i hi => (hB i hi).2)
  generalize zIsn B ln p ch = R at *
  refine zG_m (t := tX8_isNext) (ls0 := [.ref o, .int (nI ch)]) rfl rfl (zdnR (zdnI zdn0)) rfl ?_
  refine zG_s rfl rfl ?_
  refine zG_cV1 rfl rfl hT rfl rfl (ct_next hT hf hB hl hp) ?_
  refine zG_s rfl rfl ?_
  refine zN_if2 rfl (fun c1 => ?_) (fun c2 => ?_)
  · skip
    refine zG_s rfl rfl ?_
    refine zG_s rfl rfl ?_
    refine zN_get rfl (zset_eq _ _ _) rfl ?_
    refine zG_s rfl rfl ?_
    refine zN_add (y := 1) rfl ?_
    refine zN_put (fs' := [.ref (o + 1), .int (nI ln), .int (nI (zSk B ln p + 1))]) rfl (zset_eq _ _ _) rfl rfl rfl ?_
    rw [zset_set]
    refine zG_s rfl rfl ?_
    -- leaf 1
    rw [hi9.mp (of_decide_eq_true c1)]
    exact zG_ret rfl rfl rfl
  · skip
    refine zG_s rfl rfl ?_
    -- leaf 2
    have e : R = false := by
      cases q : R with
      | false => rfl
      | true => exact absurd (hi9.mpr q) (of_decide_eq_false c2)
    rw [e]
    exact zG_ret rfl rfl rfl
theorem ct_digitBelow {d : Nat} {h : zH} {o ln p : Nat} {f : Nat → Int32} {B : Nat → Nat} (hT : h.2.2 o = .inr (8, [.ref (o + 1), .int (nI ln), .int (nI p)])) (hf : h.2.2 (o + 1) = .inl (2, 100, .inl f)) (hB : ∀ i, i < ln → f i = zS8 (B i) ∧ B i < 256) (hl : ln ≤ 100) (hp : p ≤ ln) {lim bb : Nat} (hlim : lim ≤ 9) (hbb : bb ≤ 9) : zCall (d + 2) 94 [.ref o, .int (nI lim), .int (zbv bb)] h (some (.int (zbv (zDgv B ln lim bb p))), zset h o (.inr (8, [.ref (o + 1), .int (nI ln), .int (nI (zDge B ln lim bb p))]))) := by
  have hb9 : ∀ i, i < ln → B i < 256 := fun i hi => (hB i hi).2
  have hd : zDgv B ln lim bb p = if zSk B ln p < ln ∧ 48 ≤ B (zSk B ln p) ∧ B (zSk B ln p) - 48 < lim ∧ B (zSk B ln p) - 48 + 1 ≠ bb then B (zSk B ln p) - 48 + 1 else 0 := rfl
  have he : zDge B ln lim bb p = if zDgv B ln lim bb p = 0 then zSk B ln p else zSk B ln p + 1 := rfl
  have hw : (zSk B ln p < ln ∧ 48 ≤ B (zSk B ln p) ∧ zAt8 B ln p - nI 48 = nI (B (zSk B ln p) - 48)) ∨ ((¬ zSk B ln p < ln ∨ ¬ 48 ≤ B (zSk B ln p)) ∧ zc1 .lt (zAt8 B ln p - nI 48) = true) := by
    unfold zAt8
    by_cases e : zSk B ln p < ln
    · have := hb9 _ e
      rw [if_pos e]
      by_cases e2 : 48 ≤ B (zSk B ln p)
      · exact Or.inl ⟨e, e2, pk_sub e2⟩
      · right
        refine ⟨Or.inr e2, ?_⟩
        have hk : ∀ b, b < 48 → zc1 .lt (nI b - nI 48) = true := by decide +kernel
        exact hk _ (by omega)
    · rw [if_neg e]
      exact Or.inr ⟨Or.inl e, by decide⟩
  generalize zDgv B ln lim bb p = V at *
  generalize zDge B ln lim bb p = W at *
  have fin : V = 0 → (some (.int (zbv V)), zset h o (.inr (8, [.ref (o + 1), .int (nI ln), .int (nI W)]))) = ((some (.int (-1)), zset h o (.inr (8, [.ref (o + 1), .int (nI ln), .int (nI (zSk B ln p))]))) : zR) := by
    intro e
    subst e
    rw [he, if_pos rfl]
    rfl
  refine zG_m (t := tX8_digitBelow) (ls0 := [.ref o, .int (nI lim), .int (zbv bb), .null]) rfl rfl (zdnR (zdnI (zdnI zdn0))) rfl ?_
  refine zG_s rfl rfl ?_
  refine zG_cV1 rfl rfl hT rfl rfl (ct_next hT hf hB hl hp) ?_
  refine zG_s rfl rfl ?_
  refine zG_s rfl rfl ?_
  show zGo (d + 1) _ 7 _ [.int (zAt8 B ln p - nI 48)] _ _
  generalize zAt8 B ln p - nI 48 = w at *
  refine zN_st3 rfl (fun _ _ _ => rfl) rfl ?_
  refine zG_s rfl rfl ?_
  refine zN_if rfl (fun c1 => ?_) (fun c2 => ?_)
  · skip
    refine zG_s rfl rfl ?_
    -- leaf 1
    exact zG_ret rfl rfl (fin (by
      rw [hd, if_neg]
      rintro ⟨g1, g2, -⟩
      rcases hw with q | q
      · rw [q.2.2] at c1
        exact absurd (of_decide_eq_true c1) (nI_pos (by have := hb9 _ g1; omega))
      · rcases q.1 with q | q
        · exact q g1
        · exact q g2))
  · skip
    obtain ⟨w1, w2, w3⟩ : zSk B ln p < ln ∧ 48 ≤ B (zSk B ln p) ∧ w = nI (B (zSk B ln p) - 48) := by
      rcases hw with g | g
      · exact g
      · rw [c2] at g; cases g.2
    have w4 := hb9 _ w1
    subst w3
    refine zG_s rfl rfl ?_
    refine zG_s rfl rfl ?_
    refine zN_ige rfl (by omega) (by omega) (fun c3 => ?_) (fun c4 => ?_)
    · skip
      refine zG_s rfl rfl ?_
      -- leaf 2
      exact zG_ret rfl rfl (fin (by rw [hd, if_neg (by omega)]))
    · skip
      refine zG_s rfl rfl ?_
      refine zG_s rfl rfl ?_
      refine zN_if2 rfl (fun c5 => ?_) (fun c6 => ?_)
      · skip
        refine zG_s rfl rfl ?_
        refine zG_s rfl rfl ?_
        refine zN_get rfl (zset_eq _ _ _) rfl ?_
        refine zG_s rfl rfl ?_
        refine zN_add (y := 1) rfl ?_
        refine zN_put (fs' := [.ref (o + 1), .int (nI ln), .int (nI (zSk B ln p + 1))]) rfl (zset_eq _ _ _) rfl rfl rfl ?_
        rw [zset_set]
        refine zG_s rfl rfl ?_
        -- leaf 3
        have c5 : ¬ nI (B (zSk B ln p) - 48) = zbv bb := of_decide_eq_true c5
        have c7 : bb ≠ B (zSk B ln p) - 48 + 1 := fun e => c5 ((zbv_in (by omega) (by omega)).mpr e).symm
        rw [if_pos ⟨w1, w2, c4, fun e => c7 e.symm⟩] at hd
        exact zG_ret rfl rfl (by rw [he, hd, if_neg (by omega), zbv_s])
      · skip
        refine zG_s rfl rfl ?_
        -- leaf 4
        have c6 : nI (B (zSk B ln p) - 48) = zbv bb := Decidable.not_not.mp (of_decide_eq_false c6)
        have c7 := (zbv_in (by omega) (by omega)).mp c6.symm
        exact zG_ret rfl rfl (fin (by rw [hd, if_neg (by omega)]))
theorem ct_appendNo {d : Nat} {h : zH} {o ln p n : Nat} {f : Nat → Int32} {B : Nat → Nat} {e : Int64} (ho2 : 2 ≤ o) (hT : h.2.2 o = .inr (8, [.ref (o + 1), .int (nI ln), .int (nI p)])) (hf : h.2.2 (o + 1) = .inl (2, 100, .inl f)) (hl : ln ≤ 100) (hn : n ≤ 8) (hfull : 100 < ln + n) : zCall (d + 1) 91 [.ref o, .long e, .int (nI n)] h (some (.int (nI 0)), h) := by
  refine zG_m (t := tX8_append) (ls0 := [.ref o, .long e, .null, .int (nI n), .null]) rfl rfl (zdnR (zdnL (zdnI zdn0))) rfl ?_
  refine zG_s rfl rfl ?_
  refine zG_s rfl rfl ?_
  refine zG_s rfl rfl ?_
  refine zN_get rfl hT rfl ?_
  refine zN_sub (x := 100) rfl (by omega) ?_
  refine zN_ile rfl (by omega) (by omega) (fun c => absurd c (by omega)) (fun c2 => ?_)
  refine zG_s rfl rfl ?_
  -- leaf 1
  exact zG_ret rfl rfl rfl
theorem ct_append {d : Nat} {h : zH} {o ln p n : Nat} {f : Nat → Int32} {B : Nat → Nat} {e : Int64} (ho2 : 2 ≤ o) (hT : h.2.2 o = .inr (8, [.ref (o + 1), .int (nI ln), .int (nI p)])) (hf : h.2.2 (o + 1) = .inl (2, 100, .inl f)) (hl : ln ≤ 100) (hn : n ≤ 8) (hfull : ln + n ≤ 100) : zCallP (d + 1) 91 [.ref o, .long e, .int (nI n)] h (zRV (.int (nI 1)) (fun h1 => zFr (zaS o) h h1 ∧ h1.2.2 o = .inr (8, [.ref (o + 1), .int (nI (ln + n)), .int (nI p)]) ∧ ∃ f1, h1.2.2 (o + 1) = .inl (2, 100, .inl f1) ∧ (∀ i, i < ln → f1 i = f i) ∧ ∀ i, i < n → f1 (ln + i) = zS8 (zEb e i))) := by
  refine zG_mP (t := tX8_append) (ls0 := [.ref o, .long e, .null, .int (nI n), .null]) rfl rfl (zdnR (zdnL (zdnI zdn0))) rfl ?_
  refine zG_s rfl rfl ?_
  refine zG_s rfl rfl ?_
  refine zG_s rfl rfl ?_
  refine zN_get rfl hT rfl ?_
  refine zN_sub (x := 100) rfl (by omega) ?_
  refine zN_ile rfl (by omega) (by omega) (fun c1 => ?_) (fun c => absurd c (by omega))
  refine zG_s rfl rfl ?_
  refine zN_st4 rfl (fun _ _ _ => rfl) rfl ?_
  have main16 : ∀ i, i ≤ n → ∀ (h1 : zH) (f1 : Nat → Int32), zFr (zaS o) h h1 → h1.2.2 o = .inr (8, [.ref (o + 1), .int (nI (ln + i)), .int (nI p)]) → h1.2.2 (o + 1) = .inl (2, 100, .inl f1) → (∀ j, j < ln → f1 j = f j) → (∀ j, j < i → f1 (ln + j) = zS8 (zEb e j)) → zGoP (d) tX8_append 16 [.ref o, .long e, .null, .int (nI n), .int (nI i)] [] h1 (zRV (.int (nI 1)) (fun h1 => zFr (zaS o) h h1 ∧ h1.2.2 o = .inr (8, [.ref (o + 1), .int (nI (ln + n)), .int (nI p)]) ∧ ∃ f1, h1.2.2 (o + 1) = .inl (2, 100, .inl f1) ∧ (∀ i, i < ln → f1 i = f i) ∧ ∀ i, i < n → f1 (ln + i) = zS8 (zEb e i))) := by
    refine zdown (n) ?_ (fun i hp16 ih16 => ?_)
    · skip
      intro h1 f1 hF h1o h1f hj1 hj2
      refine zG_s rfl rfl ?_
      refine zG_s rfl rfl ?_
      refine zN_ige rfl (by omega) (by omega) (fun c3 => ?_) (fun c4 => absurd c4 (by omega))
      refine zG_s rfl rfl ?_
      -- leaf 1
      exact zG_ret rfl rfl ⟨rfl, hF, h1o, f1, h1f, hj1, hj2⟩
    · skip
      intro h1 f1 hF h1o h1f hj1 hj2
      refine zG_s rfl rfl ?_
      refine zG_s rfl rfl ?_
      refine zN_ige rfl (by omega) (by omega) (fun c5 => absurd c5 (by omega)) (fun c6 => ?_)
      refine zG_s rfl rfl ?_
      refine zN_get rfl h1o rfl ?_
      refine zG_s rfl rfl ?_
      refine zN_get rfl h1o rfl ?_
      refine zG_s rfl rfl ?_
      refine zG_s rfl rfl ?_
      refine zG_s rfl rfl ?_
      refine zN_mul (x := 8) rfl ?_
      refine zG_s rfl rfl ?_
      refine zG_s rfl rfl ?_
      refine zG_s rfl rfl ?_
      have hw : vp_nar .byte ((e >>> ((nI (8 * i)).toInt64 &&& 63)).toInt32.toInt8.toInt32) = zS8 (zEb e i) := by rw [zi2b, zS8_nar _ (Nat.mod_lt _ (by decide))]; rfl
      have h2o : (zset h1 (o + 1) (.inl (2, 100, .inl (upd f1 (ln + i) (vp_nar .byte ((e >>> ((nI (8 * i)).toInt64 &&& 63)).toInt32.toInt8.toInt32)))))).2.2 o = .inr (8, [.ref (o + 1), .int (nI (ln + i)), .int (nI p)]) := by rw [zset_ne _ _ (by omega)]; exact h1o
      refine zN_bst (tt := 2) (ty := .byte) rfl (Or.inl ⟨rfl, rfl⟩) h1f (by omega) (by omega) (zble_of ho2) ?_
      refine zG_s rfl rfl ?_
      refine zG_s rfl rfl ?_
      refine zN_get rfl h2o rfl ?_
      refine zG_s rfl rfl ?_
      refine zN_add (y := 1) rfl ?_
      refine zN_put (fs' := [.ref (o + 1), .int (nI (ln + (i + 1))), .int (nI p)]) rfl h2o rfl rfl rfl ?_
      refine zN_inc4 rfl rfl ?_
      refine zG_s rfl rfl ?_
      -- leaf 2
      refine ih16 _ _ ((hF.set ⟨by omega, by omega⟩).set ⟨by omega, by omega⟩) (zset_eq _ _ _) (by rw [zset_ne _ _ (by omega)]; exact zset_eq _ _ _) (fun j hj => ?_) (fun j hj => ?_)
      · rw [upd_ne _ _ (by omega)]; exact hj1 j hj
      · by_cases ej : j = i
        · subst ej; rw [upd_at]; exact hw
        · rw [upd_ne _ _ (by omega)]; exact hj2 j (by omega)
  exact main16 0 (by omega) h f zFr.rf hT hf (fun _ _ => rfl) (fun j hj => absurd hj (by omega))
