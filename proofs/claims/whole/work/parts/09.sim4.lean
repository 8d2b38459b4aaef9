set_option maxHeartbeats 8000000 in
theorem zstep_inr {i : Instr} {nx a b k : Nat} {v : Value} {als ast : List Value} {h : zH} {o} (hs : zstep (i, nx, a, b, k, v) als ast h = .inr o) : o = .inr (.inr (.inr ())) ∨ (∃ q x, i = .ifCond q x) ∨ (∃ q x, i = .if_icmp q x) ∨ (∃ x, i = .invokevirtual x) ∨ (∃ x, i = .invokestatic x ∧ k ≠ 2 ∧ k ≠ 3 ∧ k ≠ 4) ∨ (∃ x, i = .invokespecial x ∧ k ≠ 2) ∨ i = .return_ ∨ i = .ireturn ∨ i = .lreturn := by
  cases i
  case ifCond q x => exact Or.inr (Or.inl ⟨q, x, rfl⟩)
  case if_icmp q x => exact Or.inr (Or.inr (Or.inl ⟨q, x, rfl⟩))
  case invokevirtual x => exact Or.inr (Or.inr (Or.inr (Or.inl ⟨x, rfl⟩)))
  case invokestatic x =>
    by_cases hk : k = 2
    · subst hk
      simp only [zstep, zcpy] at hs
      split at hs
      · split at hs
        · cases hs
        · exact Or.inl (Sum.inr.inj hs).symm
      · exact Or.inl (Sum.inr.inj hs).symm
    · by_cases hk3 : k = 3
      · subst hk3
        simp only [zstep, zmax] at hs
        split at hs
        · cases hs
        · exact Or.inl (Sum.inr.inj hs).symm
      · by_cases hk4 : k = 4
        · subst hk4
          simp only [zstep, zmin] at hs
          split at hs
          · cases hs
          · exact Or.inl (Sum.inr.inj hs).symm
        · exact Or.inr (Or.inr (Or.inr (Or.inr (Or.inl ⟨x, rfl, hk, hk3, hk4⟩))))
  case invokespecial x =>
    by_cases hk : k = 2
    · subst hk
      simp only [zstep, zobj] at hs
      split at hs
      · cases hs
      · exact Or.inl (Sum.inr.inj hs).symm
    · exact Or.inr (Or.inr (Or.inr (Or.inr (Or.inr (Or.inl ⟨x, rfl, hk⟩)))))
  case return_ => exact Or.inr (Or.inr (Or.inr (Or.inr (Or.inr (Or.inr (Or.inl rfl))))))
  case ireturn => exact Or.inr (Or.inr (Or.inr (Or.inr (Or.inr (Or.inr (Or.inr (Or.inl rfl)))))))
  case lreturn => exact Or.inr (Or.inr (Or.inr (Or.inr (Or.inr (Or.inr (Or.inr (Or.inr rfl)))))))
  all_goals left
  all_goals simp only [zstep, zgetI, zgetL, zgetA, zputI, zputL, zputA, zinc, z2i, z2d, z1i, z2l, zsl, zlcmp, zlneg, zi2l, zl2i, zdup, zdup2, zpop, ztsw, zlsw, zald, zbld, zlld, zqld, zast, zbst, zlst, zqst, zlen, zgetf, zputf, zmkO, zmkI, zmkL, zmkQ, zmkM] at hs
  all_goals repeat' split at hs
  all_goals first | (exact (Sum.inr.inj hs).symm) | (cases hs; done)
set_option maxHeartbeats 8000000 in
theorem zstep_mono {i : Instr} {nx a b k : Nat} {v : Value} {als ast : List Value} {h : zH} {bb : Bool} {pc' : Nat} {als' ast' : List Value} {h' : zH} (hs : zstep (i, nx, a, b, k, v) als ast h = .inl (bb, pc', als', ast', h')) : h.1 ≤ h'.1 ∧ h.2.1 ≤ h'.2.1 := by
  cases i
  all_goals simp only [zstep, zgetI, zgetL, zgetA, zputI, zputL, zputA, zinc, z2i, z2d, z1i, z2l, zsl, zlcmp, zlneg, zi2l, zl2i, zdup, zdup2, zpop, zif1, zif2, ztsw, zlsw, zald, zbld, zlld, zqld, zast, zbst, zlst, zqst, zlen, zgetf, zputf, zmkO, zmkI, zmkL, zmkQ, zmkM, zcallV, zcallI, zcallS, zobj, zcpy, zmax, zmin, zret0, zretI, zretL] at hs
  all_goals repeat' split at hs
  all_goals first
    | (cases hs; done)
    | (cases hs; exact ⟨Nat.le_refl _, Nat.le_refl _⟩)
    | (cases hs; exact ⟨Nat.le_add_right _ _, Nat.le_add_right _ _⟩)
theorem zRun_mono {C : Nat → List Value → zH → zR → Prop} {t : Nat → Option zI} (hC : ∀ mi as h r, C mi as h r → h.1 ≤ r.2.1 ∧ h.2.1 ≤ r.2.2.1) : ∀ (n pc : Nat) (ls st : List Value) (h : zH) (r : zR), zRun C t n pc ls st h r → h.1 ≤ r.2.1 ∧ h.2.1 ≤ r.2.2.1
  | 0, _, _, _, _, _, hr => hr.elim
  | n + 1, pc, ls, st, h, r, hr => by
    unfold zRun at hr
    split at hr
    · exact hr.elim
    · rename_i ai hai
      obtain ⟨i, nx, a, b, k, v⟩ := ai
      split at hr
      · rename_i b' pc' ls' st' h' hs
        have h1 := zstep_mono hs
        have h2 := zRun_mono hC n _ _ _ _ _ hr.2
        exact ⟨Nat.le_trans h1.1 h2.1, Nat.le_trans h1.2 h2.2⟩
      · rename_i c p1 p2 st' hs
        cases c with
        | true => exact zRun_mono hC n _ _ _ _ _ (hr.1 rfl)
        | false => exact zRun_mono hC n _ _ _ _ _ (hr.2 rfl)
      · obtain ⟨-, v', h1, hc, hr⟩ := hr
        have h1 := hC _ _ _ _ hc
        have h2 := zRun_mono hC n _ _ _ _ _ hr
        exact ⟨Nat.le_trans h1.1 h2.1, Nat.le_trans h1.2 h2.2⟩
      · obtain ⟨-, rfl⟩ := hr
        exact ⟨Nat.le_refl _, Nat.le_refl _⟩
      · exact hr.elim
def zCall : Nat → Nat → List Value → zH → zR → Prop
  | 0, _, _, _, _ => False
  | d + 1, mi, as, h, r => (zlay as).length ≤ zml mi ∧ (∀ v ∈ as, ∀ x, v ≠ .double x) ∧ ∃ n, zRun (zCall d) (zT mi) n 0 (zent (zml mi) as) [] h r
theorem zCall_mono : ∀ (d mi : Nat) (as : List Value) (h : zH) (r : zR), zCall d mi as h r → h.1 ≤ r.2.1 ∧ h.2.1 ≤ r.2.2.1
  | 0, _, _, _, _, hr => hr.elim
  | d + 1, mi, as, h, r, hr => by
    obtain ⟨-, -, n, hr⟩ := hr
    exact zRun_mono (zCall_mono d) n _ _ _ _ _ hr
def zws (mi : Nat) : List Cond := Cond.code (zy mi) (zco mi) (zml mi) (zrt mi) :: zWF
def zrm (d mc ms : Nat) : Room := { frames := d, cells := mc, slots := ms, locals := 100 * d }
def zPc (P : zP) (as : List Value) (h : zH) : Array Value → State → Prop := fun v U => v = (as.map (zcv P)).toArray ∧ zPic P h U.heap ∧ zKK P U
def zQc (P : zP) (r : zR) : Array Value → State → Outcome → State → Prop := fun _ _ o t => o = .returned (r.1.map (zcv P)) ∧ zPic P r.2 t.heap
theorem zPc_blind {P : zP} {as : List Value} {h : zH} : FrameBlind (zPc P as h) := fun _ _ _ _ q => ⟨q.1, q.2.1, zKK_call q.2.2⟩
section ZT
variable {P : zP} {p : Program} {l : Launch} {e : Env} {R : Room} {s : State} {m : MethodId} {args : Array Value} {below : List Frame} {meth : Method} {c : Code} {H : Heap} {locs : List Loc} {Q : State → Prop} {mi pc : Nat} {ls : Array Slot} {als ast : List Value} {h : zH} {cells slots : Nat}
theorem zs_br {ai : zI} {cb : Bool} {p1 p2 : Nat} {ast' : List Value} (Cx : zCx P p s m args meth c mi) (hok : zokI mi pc ai = true) (hs : zstep ai als ast h = .inr (.inl (cb, p1, p2, ast')))
    (K1 : cb = true → W p l e R s m args below meth c H locs cells slots Q (F0 m p1 ls (ast'.map (zcv P)))) (K2 : cb = false → W p l e R s m args below meth c H locs cells slots Q (F0 m p2 ls (ast'.map (zcv P)))) :
    W p l e R s m args below meth c H locs cells slots Q (F0 m pc ls (ast.map (zcv P))) := by
  obtain ⟨hx, hb, hown, hml, hlk, hin, hts, hK⟩ := Cx
  obtain ⟨i, nx, a, b, k, v⟩ := ai
  rcases zstep_inr hs with h1 | ⟨q, x, rfl⟩ | ⟨q, x, rfl⟩ | ⟨x, rfl⟩ | ⟨x, rfl, hk⟩ | ⟨x, rfl, hk⟩ | rfl | rfl | rfl
  · cases h1
  · obtain ⟨hd, rfl, hX⟩ := zok_d hok
    have ht : (pc : Int) + x = (a : Int) := of_decide_eq_true hX
    simp only [zstep, zif1] at hs
    split at hs
    · rename_i y r
      cases hs
      cases q
      · exact lv_if_eq hx hb hd ht (fun g => K1 (decide_eq_true g)) (fun g => K2 (decide_eq_false g))
      · exact lv_if_ne hx hb hd ht (fun g => K1 (decide_eq_true g)) (fun g => K2 (decide_eq_false (fun q => q g)))
      · exact lv_if_lt hx hb hd ht (fun g => K1 (decide_eq_true g)) (fun g => K2 (decide_eq_false g))
      · exact lv_if_ge hx hb hd ht (fun g => K1 (decide_eq_true g)) (fun g => K2 (decide_eq_false g))
      · exact lv_if_gt hx hb hd ht (fun g => K1 (decide_eq_true g)) (fun g => K2 (decide_eq_false g))
      · exact lv_if_le hx hb hd ht (fun g => K1 (decide_eq_true g)) (fun g => K2 (decide_eq_false g))
    · cases hs
  · obtain ⟨hd, rfl, hX⟩ := zok_d hok
    have ht : (pc : Int) + x = (a : Int) := of_decide_eq_true hX
    simp only [zstep, zif2] at hs
    split at hs
    · rename_i y r
      cases hs
      cases q
      · exact lv_icmp_eq hx hb hd ht (fun g => K1 (decide_eq_true g)) (fun g => K2 (decide_eq_false g))
      · exact lv_icmp_ne hx hb hd ht (fun g => K1 (decide_eq_true g)) (fun g => K2 (decide_eq_false (fun q => q g)))
      · exact lv_icmp_lt hx hb hd ht (fun g => K1 (decide_eq_true g)) (fun g => K2 (decide_eq_false g))
      · exact lv_icmp_ge hx hb hd ht (fun g => K1 (decide_eq_true g)) (fun g => K2 (decide_eq_false g))
      · exact lv_icmp_gt hx hb hd ht (fun g => K1 (decide_eq_true g)) (fun g => K2 (decide_eq_false g))
      · exact lv_icmp_le hx hb hd ht (fun g => K1 (decide_eq_true g)) (fun g => K2 (decide_eq_false g))
    · cases hs
  · exfalso
    simp only [zstep, zcallV] at hs
    split at hs
    · split at hs <;> cases hs
    · cases hs
  · exfalso
    match k, hk, hs with
    | 0, _, hs => cases hs
    | 1, _, hs => cases hs
    | 2, hk, hs => exact hk.1 rfl
    | 3, hk, hs => exact hk.2.1 rfl
    | 4, hk, hs => exact hk.2.2 rfl
    | k + 5, _, hs => cases hs
  · exfalso
    match k, hk, hs with
    | 0, _, hs => simp only [zstep, zcallI] at hs; split at hs <;> cases hs
    | 1, _, hs => simp only [zstep, zcallI] at hs; split at hs <;> cases hs
    | k + 3, _, hs => simp only [zstep, zcallI] at hs; split at hs <;> cases hs
  · exfalso
    simp only [zstep, zret0] at hs
    split at hs <;> cases hs
  · exfalso
    simp only [zstep, zretI] at hs
    split at hs <;> cases hs
  · exfalso
    simp only [zstep, zretL] at hs
    split at hs <;> cases hs
/-- the end of a method -/
theorem zs_ret {ai : zI} {v : Option Value} (Cx : zCx P p s m args meth c mi) (hr : meth.sig.returnType = zrt mi) (hok : zokI mi pc ai = true) (hs : zstep ai als ast h = .inr (.inr (.inr (.inl (true, v)))))
    (hP : zPic P h H) (hlc : ∀ x ∈ locs, zPb P ≤ x.base) :
    W p l e R s m args below meth c H locs cells slots (MQ below (zQc P (v, h)) args s cells slots (fun q => zPb P ≤ q)) (F0 m pc ls (ast.map (zcv P))) := by
  obtain ⟨hx, hb, hown, hml, hlk, hin, hts, hK⟩ := Cx
  obtain ⟨i, nx, a, b, k, w⟩ := ai
  rcases zstep_inr hs with h1 | ⟨q, x, rfl⟩ | ⟨q, x, rfl⟩ | ⟨x, rfl⟩ | ⟨x, rfl, hk⟩ | ⟨x, rfl, hk⟩ | rfl | rfl | rfl
  · cases h1
  · exfalso
    simp only [zstep, zif1] at hs
    split at hs <;> cases hs
  · exfalso
    simp only [zstep, zif2] at hs
    split at hs <;> cases hs
  · exfalso
    simp only [zstep, zcallV] at hs
    split at hs
    · split at hs <;> cases hs
    · cases hs
  · exfalso
    match k, hk, hs with
    | 0, _, hs => cases hs
    | 1, _, hs => cases hs
    | 2, hk, hs => exact hk.1 rfl
    | 3, hk, hs => exact hk.2.1 rfl
    | 4, hk, hs => exact hk.2.2 rfl
    | k + 5, _, hs => cases hs
  · exfalso
    match k, hk, hs with
    | 0, _, hs => simp only [zstep, zcallI] at hs; split at hs <;> cases hs
    | 1, _, hs => simp only [zstep, zcallI] at hs; split at hs <;> cases hs
    | k + 3, _, hs => simp only [zstep, zcallI] at hs; split at hs <;> cases hs
  · obtain ⟨hd, -, hX⟩ := zok_d hok
    have hX : zrt mi = none := of_decide_eq_true hX
    simp only [zstep, zret0] at hs
    split at hs
    · cases hs
      exact W.vret hx hb (hr.trans hX) (fun t ht _ => ⟨rfl, by rw [ht]; exact hP⟩) hlc hd
    · cases hs
  · obtain ⟨hd, -, hX⟩ := zok_d hok
    have hX : ((Nat.beq a 0 && decide (zrt mi = some .int)) || (Nat.beq a 1 && decide (zrt mi = some .boolean))) = true := hX
    simp only [zstep, zretI] at hs
    split at hs
    · rename_i x
      injection hs with hs
      injection hs with hs
      injection hs with hs
      injection hs with hs
      injection hs with h1 h2
      subst h2
      simp only [Bool.or_eq_true, Bool.and_eq_true, decide_eq_true_eq] at hX h1
      rcases hX with ⟨ha, g⟩ | ⟨ha, g⟩
      · exact W.iret (v := x) hx hb (hr.trans g) (fun t ht _ => ⟨rfl, by rw [ht]; exact hP⟩) hlc hd
      · have ha := Nat.eq_of_beq_eq_true ha
        subst ha
        refine W.zret (v := x) hx hb (hr.trans g) ?_ (fun t ht _ => ⟨rfl, by rw [ht]; exact hP⟩) hlc hd
        rcases h1 with (h1 | rfl) | rfl
        · cases h1
        · decide
        · decide
    · cases hs
  · obtain ⟨hd, -, hX⟩ := zok_d hok
    have hX : zrt mi = some .long := of_decide_eq_true hX
    simp only [zstep, zretL] at hs
    split at hs
    · rename_i x
      cases hs
      exact W.lret (v := x) hx hb (hr.trans hX) (fun t ht _ => ⟨rfl, by rw [ht]; exact hP⟩) hlc hd
    · cases hs
/-- behind a call -/
theorem zs_go {mc ms : Nat} {r : zR} {a : Array Value} {ls0 : Array Slot} {st0 rest : List Value} (hr : va_Run p l e R s m args below meth c H locs cells slots mc ms (F0 m pc ls0 st0) rest (zQc P r a) (fun q => zPb P ≤ q)) (hlc : ∀ x ∈ locs, zPb P ≤ x.base)
    (K : ∀ (H1 : Heap) (locs1 : List Loc), zPic P r.2 H1 → (∀ x ∈ locs1, zPb P ≤ x.base) → W p l e R s m args below meth c H1 locs1 (cells + mc) (slots + ms) Q (F0 m (pc + 3) ls0 ((r.1.map (zcv P)).toList ++ rest))) : W p l e R s m args below meth c H locs cells slots Q (F0 m pc ls0 st0) := by
  intro T hT X
  obtain ⟨v, st₀, t, T', L, h0, X', hL, e1, e2, ⟨hv, hp⟩, st⟩ := hr T hT X
  cases hv
  obtain ⟨t2, a1, b1⟩ := K T'.heap (locs ++ L) (by rw [e1]; exact hp) (fun x hx => by
    rcases List.mem_append.mp hx with g | g
    · exact hlc x g
    · exact hL x g) T' rfl X'
  exact ⟨t2, st t2 a1, b1⟩
end ZT
