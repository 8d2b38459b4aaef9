/-! the law's start on the great machine -/
theorem st_iret {mi pc : Nat} {ai : zI} {als ast : List Value} {h : zH} {x : Int32} (hok : zokI mi pc ai = true) (hs : zstep ai als ast h = .inr (.inr (.inr (.inl (true, some (.int x)))))) : decode (zco mi) pc = .ok (.ireturn, 1) ∧ ast = [.int x] := by
  obtain ⟨i, nx, a, b, k, w⟩ := ai
  rcases zstep_inr hs with h1 | ⟨q, y, rfl⟩ | ⟨q, y, rfl⟩ | ⟨y, rfl⟩ | ⟨y, rfl, hk⟩ | ⟨y, rfl, hk⟩ | rfl | rfl | rfl
  · cases h1
  · exfalso
    simp only [zstep, zif1] at hs
    split at hs <;> cases hs
  · exfalso
    simp only [zstep, zif2] at hs
    split at hs <;> cases hs
  · exfalso
    simp only [zstep, zcallV] at hs
    split at hs
    · split at hs <;> cases hs
    · cases hs
  · exfalso
    match k, hk, hs with
    | 0, _, hs => cases hs
    | 1, _, hs => cases hs
    | 2, hk, hs => exact hk.1 rfl
    | 3, hk, hs => exact hk.2.1 rfl
    | 4, hk, hs => exact hk.2.2 rfl
    | k + 5, _, hs => cases hs
  · exfalso
    match k, hk, hs with
    | 0, _, hs => simp only [zstep, zcallI] at hs; split at hs <;> cases hs
    | 1, _, hs => simp only [zstep, zcallI] at hs; split at hs <;> cases hs
    | k + 3, _, hs => simp only [zstep, zcallI] at hs; split at hs <;> cases hs
  · exfalso
    simp only [zstep, zret0] at hs
    split at hs <;> cases hs
  · obtain ⟨hd, -, -⟩ := zok_d hok
    simp only [zstep, zretI] at hs
    split at hs
    · rename_i y
      injection hs with hs
      injection hs with hs
      injection hs with hs
      injection hs with hs
      injection hs with h1 h2
      injection h2 with h2
      rw [h2]
      exact ⟨hd, rfl⟩
    · cases hs
  · exfalso
    simp only [zstep, zretL] at hs
    split at hs <;> cases hs
abbrev stK : Term := Term.static "NestedPoints$Acts" "KIND_ABOVE" "[I"
theorem st_el {s : State} {b a1 : Nat} {cell : Cell} {k v : Int32} (ht : stK.eval #[Value.ref b] s none [] s = some (.ref a1)) (hat : s.arrayAt? a1 = some cell) (h : (Cond.eq (.elem stK (.int k)) (.int v)).before #[Value.ref b] s = true) : cell.slots[k.toNatClampNeg]? = some (.int v) := by
  obtain ⟨y, h1, h2⟩ := Cond.eq_one h
  obtain ⟨a, j, c2, e1, e2, e3, -, e4⟩ := Term.elem_spec h1
  rw [ht] at e1
  cases e1
  rw [hat] at e3
  cases e3
  cases (show some (Value.int k) = some (.int j) from e2)
  cases (show some (Value.int v) = some y from h2)
  exact e4
theorem st_small {s : State} {b a1 : Nat} {cell : Cell} {t : Term} {v : Value} (h : (Term.length t).eval #[Value.ref b] s none [] s = some v) (ht : t.eval #[Value.ref b] s none [] s = some (.ref a1)) (hat : s.arrayAt? a1 = some cell) : cell.slots.size < 2 ^ 31 := by
  simp only [Term.eval, ht, hat, Option.bind_eq_bind, Option.bind_some] at h
  by_cases hlt : cell.slots.size < 2147483648
  · exact hlt
  · simp [hlt] at h
def stka : Nat → Int32 := fun j => if j = 0 then -1 else nI (zAbv j)
theorem st_kind {s : State} {b : Nat} (hgv : (Jvm.Cond.and given_1 narrow_1).before #[Value.ref b] s = true) : ∃ a1, stK.eval #[Value.ref b] s none [] s = some (.ref a1) ∧ va_X a1 6 stka s s.heap ∧ a1 < s.heap.size := by
  have hs := flat_of_before _ hgv
  have hlen := hs (Cond.eq (.length stK) (.int 6)) (by decide +kernel)
  have harr := hs (Cond.arrayOf stK .int) (by decide +kernel)
  have h0 := hs (Cond.eq (.elem stK (.int 0)) (.int (-1))) (by decide +kernel)
  have h1 := hs (Cond.eq (.elem stK (.int 1)) (.int 0)) (by decide +kernel)
  have h2 := hs (Cond.eq (.elem stK (.int 2)) (.int 0)) (by decide +kernel)
  have h3 := hs (Cond.eq (.elem stK (.int 3)) (.int 1)) (by decide +kernel)
  have h4 := hs (Cond.eq (.elem stK (.int 4)) (.int 3)) (by decide +kernel)
  have h5 := hs (Cond.eq (.elem stK (.int 5)) (.int 2)) (by decide +kernel)
  obtain ⟨y, e1, e2⟩ := Cond.eq_one hlen
  cases (show some (Value.int 6) = some y from e2)
  obtain ⟨a1, cell, ht, hat, hv⟩ := Term.length_spec e1
  obtain ⟨hcell, hun, -, -⟩ := State.arrayAt?_spec hat
  have hsz : cell.slots.size < 2 ^ 31 := st_small e1 ht hat
  have h6 : cell.slots.size = 6 := by
    injection hv with hv
    exact ((nI_inj (a := cell.slots.size) (b := 6) hsz (by decide)).mp hv.symm)
  refine ⟨a1, ht, ⟨cell, hcell, (Cond.arrayOf_spec harr ht hcell).1, hun, h6, fun j hj => ?_⟩, (Array.getElem?_eq_some_iff.mp hcell).1⟩
  rcases (by omega : j = 0 ∨ j = 1 ∨ j = 2 ∨ j = 3 ∨ j = 4 ∨ j = 5) with rfl | rfl | rfl | rfl | rfl | rfl
  · exact st_el ht hat h0
  · exact st_el ht hat h1
  · exact st_el ht hat h2
  · exact st_el ht hat h3
  · exact st_el ht hat h4
  · exact st_el ht hat h5
section ZSTART
variable {s : State} {b : Nat}
theorem st_arrC {ty : FieldType} (hty : ∀ C, ty ≠ .object C) (h : (Cond.arrayClass ty).before #[Value.ref b] s = true) : ∃ cA, ArrOfT s cA ty ∧ va_RA s cA ty := by
  obtain ⟨c, k, comp, h1, h2, h3⟩ := Cond.arrayClass_spec h
  refine ⟨c, fun N z => ⟨(fun k h => by cases h), k, h2, comp, h3⟩, ?_⟩
  cases ty with
  | object C => exact absurd rfl (hty C)
  | _ => exact h1
theorem st_arrO {n : String} (h : (Cond.arrayOver (.object n)).before #[Value.ref b] s = true) : ∃ cA, ArrOfT s cA (.object n) ∧ va_RA s cA (.object n) := by
  obtain ⟨comp, c, k, h1, -, h2, h3, h4⟩ := Cond.arrayOver_spec h
  exact ⟨c, fun N z => ⟨(fun k h => by cases h), k, h2, comp, h3⟩, k, comp, h2, h3, h1, h4⟩
theorem st_arrA {t : FieldType} (h : (Cond.arrayOver (.array t)).before #[Value.ref b] s = true) : ∃ cA, ArrOfT s cA (.array t) ∧ va_RA s cA (.array t) := by
  obtain ⟨comp, c, k, h1, h2, h3, h4⟩ := Cond.arrayOver_specA h
  exact ⟨c, fun N z => ⟨(fun k h => by cases h), k, h2, comp, h3⟩, h4⟩
theorem st_arr (hts : ∀ w ∈ lw_tbl, w.before #[Value.ref b] s = true) : ∀ t, t < 7 → ∃ cA, ArrOfT s cA (zty t) ∧ va_RA s cA (zty t)
  | 0, _ => st_arrC (by intro C h; cases h) (hts (.arrayClass .int) (by decide +kernel))
  | 1, _ => st_arrC (by intro C h; cases h) (hts (.arrayClass .long) (by decide +kernel))
  | 2, _ => st_arrC (by intro C h; cases h) (hts (.arrayClass .byte) (by decide +kernel))
  | 3, _ => st_arrC (by intro C h; cases h) (hts (.arrayClass .boolean) (by decide +kernel))
  | 4, _ => st_arrO (hts (.arrayOver (.object "NestedPoints$Space")) (by decide +kernel))
  | 5, _ => st_arrO (hts (.arrayOver (.object "NestedPoints$Sheet")) (by decide +kernel))
  | 6, _ => st_arrA (hts (.arrayOver (.array .int)) (by decide +kernel))
  | n + 7, h => absurd h (by omega)
theorem st_kn (hts : ∀ w ∈ lw_tbl, w.before #[Value.ref b] s = true) (ci : Nat) (hc : ci < 11) {n : Nat} (hi : (Cond.instantiable (zcl ci).1 n) ∈ lw_tbl) : ∃ (cC : ClassId) (iS : Nat → Nat), u_Kn s (zcl ci).1 (zcl ci).2.1 (zcl ci).2.2 cC iS :=
  u_known (ws := zWF) (fun w hw => hts w (zWF_in w hw).1) (zclx ci hc) (hts _ hi)
theorem st_cl (hts : ∀ w ∈ lw_tbl, w.before #[Value.ref b] s = true) : ∀ ci, ci < 11 → ∃ (cC : ClassId) (iS : Nat → Nat), u_Kn s (zcl ci).1 (zcl ci).2.1 (zcl ci).2.2 cC iS
  | 0, h => st_kn hts 0 h (n := 3) (by decide +kernel)
  | 1, h => st_kn hts 1 h (n := 10) (by decide +kernel)
  | 2, h => st_kn hts 2 h (n := 2) (by decide +kernel)
  | 3, h => st_kn hts 3 h (n := 11) (by decide +kernel)
  | 4, h => st_kn hts 4 h (n := 5) (by decide +kernel)
  | 5, h => st_kn hts 5 h (n := 4) (by decide +kernel)
  | 6, h => st_kn hts 6 h (n := 3) (by decide +kernel)
  | 7, h => st_kn hts 7 h (n := 3) (by decide +kernel)
  | 8, h => st_kn hts 8 h (n := 3) (by decide +kernel)
  | 9, h => st_kn hts 9 h (n := 16) (by decide +kernel)
  | 10, h => st_kn hts 10 h (n := 39) (by decide +kernel)
  | n + 11, h => absurd h (by omega)
theorem st_kk {L : Nat} {xs : Nat → Int32} (hts : ∀ w ∈ lw_tbl, w.before #[Value.ref b] s = true) (hX : va_X b L xs s s.heap) (hbl : b < s.heap.size) (hgv : (Jvm.Cond.and given_1 narrow_1).before #[Value.ref b] s = true) : ∃ P : zP, zKK P s ∧ zPb P = s.heap.size ∧ zPH P = s.heap ∧ zP0 P = b ∧ zPL P = L ∧ zPx P = xs ∧ zPk P = stka := by
  obtain ⟨a1, hv, hX1, ha1⟩ := st_kind hgv
  have hk : ∀ ci, ∃ (q : ClassId × (Nat → Nat)), ci < 11 → u_Kn s (zcl ci).1 (zcl ci).2.1 (zcl ci).2.2 q.1 q.2 := fun ci => by
    by_cases h : ci < 11
    · obtain ⟨c, i, e⟩ := st_cl hts ci h
      exact ⟨(c, i), fun _ => e⟩
    · exact ⟨(0, fun _ => 0), fun g => absurd g h⟩
  have hA : ∀ t, ∃ cA : ClassId, t < 7 → ArrOfT s cA (zty t) ∧ va_RA s cA (zty t) := fun t => by
    by_cases h : t < 7
    · obtain ⟨c, e⟩ := st_arr hts t h
      exact ⟨c, fun _ => e⟩
    · exact ⟨0, fun g => absurd g h⟩
  refine ⟨(s.heap.size, s.heap, b, a1, L, xs, stka, (fun ci => (Classical.choose (hk ci)).1, fun ci => (Classical.choose (hk ci)).2), fun t => Classical.choose (hA t)), ⟨fun ci hc => Classical.choose_spec (hk ci) hc, fun t ht => Classical.choose_spec (hA t) ht, fun w hw => ?_, ⟨hts (.arrayOver (.object "NestedPoints$Space")) (by decide +kernel), hts (.arrayOver (.object "NestedPoints$Sheet")) (by decide +kernel), hts (.arrayOver (.array .int)) (by decide +kernel)⟩, ?_, hX, hX1, hbl, ha1, rfl⟩, rfl, rfl, rfl, rfl, rfl, rfl⟩
  · have key : ∀ w ∈ zNW, w ∈ lw_tbl := by decide +kernel
    have h9 := hts w (key w hw)
    simp only [zNW, List.mem_cons, List.not_mem_nil, or_false] at hw
    rcases hw with rfl | rfl | rfl | rfl | rfl | rfl | rfl | rfl | rfl | rfl | rfl | rfl | rfl | rfl | rfl | rfl | rfl | rfl | rfl <;> exact h9
  · exact va_Zof (hts (.laysStatic "NestedPoints$Acts" "KIND_ABOVE" "[I") (by decide +kernel)) (hts (.initialized "NestedPoints$Acts") (by decide +kernel)) hv (fun a ha g => absurd (show s.heap.size ≤ a from g) (Nat.not_le.mpr ha))
end ZSTART
/-- YOUR PART -/
theorem whole_start {p : Program} {e : Env} {s : State} {m : MethodId} {below : List Frame} {meth : Method} {c : Code} (l : Launch) (hflags : l.flags = flags0) {b L : Nat} {xs : Nat → Int32} (hL : L ≤ 3072) (C0 : lw_At p s m meth c b L xs) : W p l e room_1 s m #[Value.ref b] below meth c s.heap [] 0 0 (lw_Z below #[Value.ref b] s) (entryFrame m ([Value.ref b] : List Value).toArray 4) := by
  obtain ⟨hx, hb, hr, hml, hown, hts, hX, hbl, hlocks, hgv⟩ := C0
  obtain ⟨P, hK, eb, eH, e0, eL, ex, ek⟩ := st_kk hts hX hbl hgv
  let F : Nat → zC := fun k => if k = 0 then .inl (0, L, .inl xs) else if k = 1 then .inl (0, 6, .inl stka) else .inr (99, [])
  obtain ⟨n, q, hrun, hq1, hq2, hq3⟩ := law_run (s := 0) (F := F) (xs := xs) (ka := stka) (L := L) rfl rfl (fun i h1 h2 => if_neg (by omega)) hL
  have hP : zPic P (2, 0, F) s.heap := ⟨by rw [eb]; rfl, Nat.le_refl 2, fun q hq => by rw [eH], by rw [eL, ex]; rfl, by rw [ek]; rfl, fun k hk => absurd hk (by show ¬ k + 2 < 2; omega), fun k hk => by
    have hk : 2 ≤ k := hk
    show (if k = 0 then _ else if k = 1 then _ else _) = _
    rw [if_neg (by omega), if_neg (by omega)]⟩
  have Cx : zCx P p s m #[Value.ref b] meth c 293 := ⟨hx, hb, hown, hml, hlocks, fun g => absurd g (by decide), fun w hw => hts w (zWF_in w hw).1, hK⟩
  have hl0 := lv_entry [Value.ref b] (n := 4) (show 1 ≤ 4 by decide)
  rw [lg_entry_eq]
  have hl : zL P 4 [.ref 0, .null, .null, .null] ((lg_sl [Value.ref b] ++ List.replicate (4 - (lg_sl [Value.ref b]).length) Slot.unset).toArray) := by
    refine ⟨rfl, hl0.1, hl0.2.1, fun i v hi hv => ?_⟩
    match i, hi with
    | 0, hi =>
      cases hi
      have := hl0.2.2 (0, .ref b) (List.mem_singleton.mpr rfl)
      show _ = some (Slot.val (.ref (zP0 P)))
      rw [e0]
      exact this
    | 1, hi => cases hi; exact absurd rfl hv
    | 2, hi => cases hi; exact absurd rfl hv
    | 3, hi => cases hi; exact absurd rfl hv
    | i + 4, hi => cases hi
  obtain ⟨qv, qh⟩ := q
  have hq1 : qv = some (.int (nI 1)) := hq1
  have hq2 : qh.1 = 138 := hq2
  have hq3 : qh.2.1 = 0 + 16 + 3635 + 39 + 2214 := hq3
  subst hq1
  have := zsim_run (P := P) (l := l) (e := e) (p := p) (s := s) (m := m) (args := #[Value.ref b]) (meth := meth) (c := c) (below := below) (R := room_1) (d := 20) (c0 := 2) (s0 := 0) (mi := 293) (r := (some (.int (nI 1)), qh)) (Q := lw_Z below #[Value.ref b] s) (fun mj as h r h1 h2 => zsim zok_hall l P 20 mj as h r h1 h2) (zok_hall 293) Cx (by decide) (by decide) (by rw [hq2]; decide) (by rw [hq3]; decide)
    (fun pc ai als ast ls H locs hok hs hP2 hlc => by
      obtain ⟨hd, rfl⟩ := st_iret hok hs
      refine va_forget (fun q hq => by rw [← eb]; exact hlc q hq) ?_
      refine W.widen (k := 600000) (n := 7302250) (by rw [hq2]; decide) (by rw [hq3]; decide) ?_
      exact lw_ret hx hb hr hlocks hd) n 0 [.ref 0, .null, .null, .null] [] (2, 0, F) _ s.heap [] hrun hl hP (fun x hx => by cases hx) (Nat.le_refl _) (Nat.le_refl _)
  exact this
