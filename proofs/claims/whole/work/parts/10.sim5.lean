section ZU
variable {P : zP} {p : Program} {l : Launch} {e : Env} {R : Room} {s : State} {m : MethodId} {args : Array Value} {below : List Frame} {meth : Method} {c : Code} {H : Heap} {locs : List Loc} {Q : State → Prop} {mi pc : Nat} {ls : Array Slot} {als ast : List Value} {h : zH} {cells slots : Nat}
theorem zpay (hts : ∀ w ∈ zWF, w.before args s = true) {mj : Nat} (hcw : Cond.code (zy mj) (zco mj) (zml mj) (zrt mj) ∈ zWF) : ∀ w ∈ zws mj, ∀ (a' : Array Value) (U : State), s.WarmedH U.vm → w.before a' U = true := by
  refine pay_in hts (fun w hw => ?_)
  have hm : w ∈ zWF := by
    rcases List.mem_cons.mp hw with rfl | h
    · exact hcw
    · exact h
  exact ⟨hm, (zWF_in w hm).2⟩
/-- what the tables say of a method that is called -/
theorem zokM_of {mj : Nat} (h : zokM mj = true) : Cond.code (zy mj) (zco mj) (zml mj) (zrt mj) ∈ zWF ∧ Cond.initialized (zy mj).cls ∈ zWF ∧ ((zy mj).cls ≠ "java/lang/invoke/MethodHandle" ∧ (zy mj).cls ≠ "java/lang/invoke/VarHandle") ∧ plainName (zy mj).cls = true ∧ zml mj ≤ 40 ∧
    ((zMK mj).1 = 0 → Cond.instanceMethod (zy mj) ∈ zWF ∧ Cond.selects (zy mj).cls (zy mj) (zy mj) ∈ zWF) ∧ ((zMK mj).1 = 1 → Cond.static (zy mj) ∈ zWF) ∧ ((zMK mj).1 = 2 → Cond.instanceMethod (zy mj) ∈ zWF ∧ (zy mj).name = "<init>" ∧ zrt mj = none) := by
  unfold zokM at h
  simp only [Bool.and_eq_true] at h
  obtain ⟨⟨⟨⟨⟨⟨h1, h2⟩, h3⟩, h4⟩, h5⟩, h6⟩, h7⟩ := h
  refine ⟨zw_in h1, zw_in h2, ⟨of_decide_eq_true h4, of_decide_eq_true h5⟩, h6, Nat.le_of_ble_eq_true h7, fun e => ?_, fun e => ?_, fun e => ?_⟩
  · rw [e] at h3
    simp only [Bool.and_eq_true] at h3
    exact ⟨zw_in h3.1, zw_in h3.2⟩
  · rw [e] at h3
    exact zw_in h3
  · rw [e] at h3
    simp only [Bool.and_eq_true] at h3
    exact ⟨zw_in h3.1.1, of_decide_eq_true h3.1.2, of_decide_eq_true h3.2⟩
theorem zlinkM_of (hts : ∀ w ∈ zWF, w.before args s = true) (hK : zKK P s) {idx : Nat} {y : MethodName} (h : zlinkM mi idx y = true) : (Cond.methodLink (zy mi).cls idx y).before args s = true ∨ ∃ host, va_Nw (.methodLinkNest (zy mi).cls idx y host) s := by
  unfold zlinkM at h
  rw [Bool.or_eq_true] at h
  rcases h with h | h
  · exact Or.inl (hts _ (zw_in h))
  · right
    split at h
    · rename_i o i x host hn
      simp only [Bool.and_eq_true, decide_eq_true_eq] at h
      obtain ⟨⟨⟨-, rfl⟩, rfl⟩, rfl⟩ := h
      exact ⟨host, hK.2.2.1 _ (List.mem_of_getElem? hn)⟩
    · cases h
theorem zparams {mj n : Nat} (h : decide (znp mj = some n) = true) : ∀ sig, parseMethodDescriptor (zy mj).desc = some sig → n = sig.parameters.length := by
  intro sig hs
  have := of_decide_eq_true h
  unfold znp at this
  rw [hs] at this
  exact (Option.some.inj this).symm
theorem zcall_ok {ai : zI} {mj pc' : Nat} {as ast' : List Value} {b' : Bool} (hok : zokI mi pc ai = true) (hs : zstep ai als ast h = .inr (.inr (.inl (b', mj, as, pc', ast')))) : zokM mj = true := by
  obtain ⟨i, nx, a, b, k, w⟩ := ai
  rcases zstep_inr hs with q1 | ⟨q, x, rfl⟩ | ⟨q, x, rfl⟩ | ⟨x, rfl⟩ | ⟨x, rfl, hk⟩ | ⟨x, rfl, hk⟩ | rfl | rfl | rfl
  · cases q1
  · exfalso
    simp only [zstep, zif1] at hs
    split at hs <;> cases hs
  · exfalso
    simp only [zstep, zif2] at hs
    split at hs <;> cases hs
  · obtain ⟨hd, rfl, hX⟩ := zok_d hok
    simp only [zokX, Bool.and_eq_true] at hX
    simp only [zstep, zcallV] at hs
    split at hs
    · split at hs
      · cases hs; exact hX.1.1.1.1.1
      · cases hs
    · cases hs
  · obtain ⟨hd, rfl, hX⟩ := zok_d hok
    match k, hk, hs, hX with
    | 2, hk, hs, hX => exact absurd rfl hk.1
    | 3, hk, hs, hX => exact absurd rfl hk.2.1
    | 4, hk, hs, hX => exact absurd rfl hk.2.2
    | 0, _, hs, hX =>
      have hX : (zokM a && Nat.beq (zMK a).1 1 && zlinkM mi x (zy a) && decide (znp a = some b)) = true := hX
      simp only [Bool.and_eq_true] at hX
      cases hs; exact hX.1.1.1
    | 1, _, hs, hX =>
      have hX : (zokM a && Nat.beq (zMK a).1 1 && zlinkM mi x (zy a) && decide (znp a = some b)) = true := hX
      simp only [Bool.and_eq_true] at hX
      cases hs; exact hX.1.1.1
    | k + 5, _, hs, hX =>
      have hX : (zokM a && Nat.beq (zMK a).1 1 && zlinkM mi x (zy a) && decide (znp a = some b)) = true := hX
      simp only [Bool.and_eq_true] at hX
      cases hs; exact hX.1.1.1
  · obtain ⟨hd, rfl, hX⟩ := zok_d hok
    have hX : (zokM a && Nat.beq (zMK a).1 2 && zlinkM mi x (zy a) && decide (znp a = some b)) = true := by
      match k, hk, hX with
      | 0, _, hX => exact hX
      | 1, _, hX => exact hX
      | k + 3, _, hX => exact hX
    have hs : zcallI a b (pc + zlenI (.invokespecial x)) ast = .inr (.inr (.inl (b', mj, as, pc', ast'))) := by
      match k, hk, hs with
      | 0, _, hs => exact hs
      | 1, _, hs => exact hs
      | k + 3, _, hs => exact hs
    simp only [Bool.and_eq_true] at hX
    unfold zcallI at hs
    split at hs
    · cases hs; exact hX.1.1.1
    · cases hs
  · exfalso
    simp only [zstep, zret0] at hs
    split at hs <;> cases hs
  · exfalso
    simp only [zstep, zretI] at hs
    split at hs <;> cases hs
  · exfalso
    simp only [zstep, zretL] at hs
    split at hs <;> cases hs
/-- a call -/
theorem zs_call {ai : zI} {mj pc' d : Nat} {as ast' : List Value} {v : Option Value} {h1 : zH} {c0 s0 : Nat} (Cx : zCx P p s m args meth c mi) (hok : zokI mi pc ai = true) (hs : zstep ai als ast h = .inr (.inr (.inl (true, mj, as, pc', ast'))))
    (hM : Met l (zy mj) (zws mj) (zrm d (h1.1 - h.1) (h1.2.1 - h.2.1)) (zPc P as h) (zQc P (v, h1)) (h1.1 - h.1) (h1.2.1 - h.2.1) (fun q => zPb P ≤ q))
    (hmono : h.1 ≤ h1.1 ∧ h.2.1 ≤ h1.2.1) (hF : d + 1 ≤ R.frames) (hLo : 100 * (d + 1) ≤ R.locals) (hc0 : c0 ≤ h.1) (hs0 : s0 ≤ h.2.1) (hR1 : h1.1 - c0 ≤ R.cells) (hR2 : h1.2.1 - s0 ≤ R.slots)
    (hl : zL P (zml mi) als ls) (hP : zPic P h H) (hlc : ∀ x ∈ locs, zPb P ≤ x.base)
    (K : ∀ (H1 : Heap) (locs1 : List Loc), zPic P h1 H1 → (∀ x ∈ locs1, zPb P ≤ x.base) → W p l e R s m args below meth c H1 locs1 (h1.1 - c0) (h1.2.1 - s0) Q (F0 m pc' ls ((v.toList ++ ast').map (zcv P)))) :
    W p l e R s m args below meth c H locs (h.1 - c0) (h.2.1 - s0) Q (F0 m pc ls (ast.map (zcv P))) := by
  have hCx := Cx
  obtain ⟨hx, hb, hown, hml, hlk, hin, hts, hK⟩ := Cx
  have S : CallFix p m c (zco mi) (zml mi) s args zWF (zy mi).cls := ⟨hx, hb, hml, hown, hts⟩
  have ec : h.1 - c0 + (h1.1 - h.1) = h1.1 - c0 := by omega
  have es : h.2.1 - s0 + (h1.2.1 - h.2.1) = h1.2.1 - s0 := by omega
  have hf : h.1 - c0 + (h1.1 - h.1) ≤ R.cells ∧ h.2.1 - s0 + (h1.2.1 - h.2.1) ≤ R.slots := by rw [ec, es]; exact ⟨hR1, hR2⟩
  have hPS : PreS s H (zPc P as h) (as.map (zcv P)) := ⟨zPc_blind, fun U hU hW => ⟨rfl, by rw [hU]; exact hP, zKK_warm hW hK⟩⟩
  have fin : ∀ {rest : List Value}, rest = ast'.map (zcv P) → pc' = pc + 3 → va_Run p l e R s m args below meth c H locs (h.1 - c0) (h.2.1 - s0) (h1.1 - h.1) (h1.2.1 - h.2.1) (F0 m pc ls (ast.map (zcv P))) rest (zQc P (v, h1) (as.map (zcv P)).toArray) (fun q => zPb P ≤ q) → W p l e R s m args below meth c H locs (h.1 - c0) (h.2.1 - s0) Q (F0 m pc ls (ast.map (zcv P))) := by
    intro rest er ep hr
    subst er ep
    refine zs_go hr hlc (fun H1 locs1 hP1 hl1 => ?_)
    rw [ec, es]
    have := K H1 locs1 hP1 hl1
    rw [List.map_append] at this
    cases v <;> exact this
  obtain ⟨i, nx, a, b, k, w⟩ := ai
  rcases zstep_inr hs with q1 | ⟨q, x, rfl⟩ | ⟨q, x, rfl⟩ | ⟨x, rfl⟩ | ⟨x, rfl, hk⟩ | ⟨x, rfl, hk⟩ | rfl | rfl | rfl
  · cases q1
  · exfalso
    simp only [zstep, zif1] at hs
    split at hs <;> cases hs
  · exfalso
    simp only [zstep, zif2] at hs
    split at hs <;> cases hs
  · obtain ⟨hd, rfl, hX⟩ := zok_d hok
    simp only [zokX, Bool.and_eq_true] at hX
    obtain ⟨⟨⟨⟨⟨hX1, hX2⟩, hX3⟩, hX4⟩, hX5⟩, hX6⟩ := hX
    have hX2 := Nat.eq_of_beq_eq_true hX2
    have hX5 : k < 11 := Nat.le_of_ble_eq_true hX5
    have hX6 := of_decide_eq_true hX6
    simp only [zstep, zcallV] at hs
    split at hs
    · rename_i q r hdr
      split at hs
      · rename_i cj fs hq
        injection hs with hs
        injection hs with hs
        injection hs with hs
        injection hs with g1 hs
        injection hs with g2 hs
        injection hs with g3 hs
        injection hs with g4 g5
        subst g2 g5 g4
        simp only [Bool.and_eq_true] at g1
        obtain ⟨⟨g6, g7⟩, g8⟩ := g1
        have g6 := Nat.eq_of_beq_eq_true g6
        subst g6
        have g7 := Nat.eq_of_beq_eq_true g7
        obtain ⟨m1, m2, m3, m4, m5, m6, -, -⟩ := zokM_of hX1
        obtain ⟨m6, m7⟩ := m6 hX2
        obtain ⟨-, -, -, cellB, b1, b2, b3, b4⟩ := hP.obj hq hX5
        have hcls := (hK.1 cj hX5).2.1
        have hast : ast.map (zcv P) = ((ast.take b).reverse.map (zcv P)).reverse ++ .ref (zad P q) :: r.map (zcv P) := by
          rw [← List.map_reverse, List.reverse_reverse]
          conv => lhs; rw [← List.take_append_drop b ast, hdr, List.map_append]
          rfl
        have hlen : ((ast.take b).reverse.map (zcv P)).length = b := by rw [List.length_map, List.length_reverse]; exact g7
        have hgd : as.map (zcv P) = .ref (zad P q) :: (ast.take b).reverse.map (zcv P) := by rw [← g3]; rfl
        have hPV : PreV s H (zcl cj).1 (zad P q) (zPc P as h) ((ast.take b).reverse.map (zcv P)) := ⟨zPc_blind, ⟨cellB, b1, by rw [b3]; rfl, by rw [b2]; exact hcls⟩, fun U hU hW => ⟨by rw [hgd], by rw [hU]; exact hP, zKK_warm hW hK⟩⟩
        refine fin (rest := r.map (zcv P)) rfl rfl ?_
        rw [hgd]
        rcases zlinkM_of hts hK hX3 with hlink | ⟨host, hlink⟩
        · exact va_runV (C := (zcl cj).1) (n := b) (index := x) (bytes := zco a) (maxL := zml a) (ret := zrt a) S hM ⟨⟨rfl, rfl, hF, by show 8 + (zml a + 11) + 100 * d ≤ _; omega, zpay hts m1, List.mem_cons_self, hts _ m1, hts _ m2, m3, zparams hX4, hlink⟩, hts _ m6, by rw [hX6]; exact hts _ m7⟩ hPV rfl hlen hl.2.1 hast (lv_room (zrest8 g8)) hd hf
        · exact va_runVN (C := (zcl cj).1) (n := b) (index := x) (bytes := zco a) (maxL := zml a) (ret := zrt a) S hM ⟨⟨⟨rfl, rfl, hF, by show 8 + (zml a + 11) + 100 * d ≤ _; omega, zpay hts m1, List.mem_cons_self⟩, hts _ m1, hts _ m2, m3, zparams hX4, va_Nw.use rfl hlink⟩, hts _ m6, by rw [hX6]; exact hts _ m7⟩ hPV rfl hlen hl.2.1 hast (lv_room (zrest8 g8)) hd hf
      · cases hs
    · cases hs
  · obtain ⟨hd, rfl, hX⟩ := zok_d hok
    have hX : (zokM a && Nat.beq (zMK a).1 1 && zlinkM mi x (zy a) && decide (znp a = some b)) = true := by
      match k, hk, hX with
      | 2, hk, hX => exact absurd rfl hk.1
      | 3, hk, hX => exact absurd rfl hk.2.1
      | 4, hk, hX => exact absurd rfl hk.2.2
      | 0, _, hX => exact hX
      | 1, _, hX => exact hX
      | k + 5, _, hX => exact hX
    have hs : zcallS a b (pc + zlenI (.invokestatic x)) ast = .inr (.inr (.inl (true, mj, as, pc', ast'))) := by
      match k, hk, hs with
      | 2, hk, hs => exact absurd rfl hk.1
      | 3, hk, hs => exact absurd rfl hk.2.1
      | 4, hk, hs => exact absurd rfl hk.2.2
      | 0, _, hs => exact hs
      | 1, _, hs => exact hs
      | k + 5, _, hs => exact hs
    simp only [Bool.and_eq_true] at hX
    obtain ⟨⟨⟨hX1, hX2⟩, hX3⟩, hX4⟩ := hX
    have hX2 := Nat.eq_of_beq_eq_true hX2
    unfold zcallS at hs
    injection hs with hs
    injection hs with hs
    injection hs with hs
    injection hs with g1 hs
    injection hs with g2 hs
    injection hs with g3 hs
    injection hs with g4 g5
    subst g2 g5 g4 g3
    simp only [Bool.and_eq_true] at g1
    obtain ⟨g7, g8⟩ := g1
    have g7 := Nat.eq_of_beq_eq_true g7
    obtain ⟨m1, m2, m3, m4, m5, -, m6, -⟩ := zokM_of hX1
    have m6 := m6 hX2
    have hast : ast.map (zcv P) = ((ast.take b).reverse.map (zcv P)).reverse ++ (ast.drop b).map (zcv P) := by
      rw [← List.map_reverse, List.reverse_reverse, ← List.map_append, List.take_append_drop]
    have hlen : ((ast.take b).reverse.map (zcv P)).length = b := by rw [List.length_map, List.length_reverse]; exact g7
    refine fin (rest := (ast.drop b).map (zcv P)) rfl rfl ?_
    rcases zlinkM_of hts hK hX3 with hlink | ⟨host, hlink⟩
    · exact va_runS (n := b) (index := x) (bytes := zco a) (maxL := zml a) (ret := zrt a) S hM ⟨⟨rfl, rfl, hF, by show 8 + (zml a + 11) + 100 * d ≤ _; omega, zpay hts m1, List.mem_cons_self, hts _ m1, hts _ m2, m3, zparams hX4, hlink⟩, hts _ m6⟩ hPS rfl hlen hl.2.1 hast (lv_room (zrest8 g8)) hd hf
    · exact va_runSN (n := b) (index := x) (bytes := zco a) (maxL := zml a) (ret := zrt a) S hM ⟨⟨⟨rfl, rfl, hF, by show 8 + (zml a + 11) + 100 * d ≤ _; omega, zpay hts m1, List.mem_cons_self⟩, hts _ m1, hts _ m2, m3, zparams hX4, va_Nw.use rfl hlink⟩, hts _ m6, trivial⟩ hPS rfl hlen hl.2.1 hast (lv_room (zrest8 g8)) hd hf
  · obtain ⟨hd, rfl, hX⟩ := zok_d hok
    have hX : (zokM a && Nat.beq (zMK a).1 2 && zlinkM mi x (zy a) && decide (znp a = some b)) = true := by
      match k, hk, hX with
      | 0, _, hX => exact hX
      | 1, _, hX => exact hX
      | k + 3, _, hX => exact hX
    have hs : zcallI a b (pc + zlenI (.invokespecial x)) ast = .inr (.inr (.inl (true, mj, as, pc', ast'))) := by
      match k, hk, hs with
      | 0, _, hs => exact hs
      | 1, _, hs => exact hs
      | k + 3, _, hs => exact hs
    simp only [Bool.and_eq_true] at hX
    obtain ⟨⟨⟨hX1, hX2⟩, hX3⟩, hX4⟩ := hX
    have hX2 := Nat.eq_of_beq_eq_true hX2
    unfold zcallI at hs
    split at hs
    · rename_i q r hdr
      injection hs with hs
      injection hs with hs
      injection hs with hs
      injection hs with g1 hs
      injection hs with g2 hs
      injection hs with g3 hs
      injection hs with g4 g5
      subst g2 g5 g4
      simp only [Bool.and_eq_true] at g1
      obtain ⟨g7, g8⟩ := g1
      have g7 := Nat.eq_of_beq_eq_true g7
      obtain ⟨m1, m2, m3, m4, m5, -, -, m6⟩ := zokM_of hX1
      obtain ⟨m6, m7, m8⟩ := m6 hX2
      have hast : ast.map (zcv P) = ((ast.take b).reverse.map (zcv P)).reverse ++ .ref (zad P q) :: r.map (zcv P) := by
        rw [← List.map_reverse, List.reverse_reverse]
        conv => lhs; rw [← List.take_append_drop b ast, hdr, List.map_append]
        rfl
      have hlen : ((ast.take b).reverse.map (zcv P)).length = b := by rw [List.length_map, List.length_reverse]; exact g7
      have hgd : as.map (zcv P) = .ref (zad P q) :: (ast.take b).reverse.map (zcv P) := by rw [← g3]; rfl
      rw [hgd] at hPS
      refine fin (rest := r.map (zcv P)) rfl rfl ?_
      rw [hgd]
      rcases zlinkM_of hts hK hX3 with hlink | ⟨host, hlink⟩
      · exact va_runI (n := b) (index := x) (bytes := zco a) (maxL := zml a) S hM ⟨⟨rfl, rfl, hF, by show 8 + (zml a + 11) + 100 * d ≤ _; omega, zpay hts m1, by rw [← m8]; exact List.mem_cons_self, by rw [← m8]; exact hts _ m1, hts _ m2, m3, zparams hX4, hlink⟩, m7, hts _ m6⟩ hPS rfl hlen hl.2.1 hast (lv_room (zrest8 g8)) hd hf
      · exact va_runIN (n := b) (index := x) (bytes := zco a) (maxL := zml a) S hM ⟨⟨⟨rfl, rfl, hF, by show 8 + (zml a + 11) + 100 * d ≤ _; omega, zpay hts m1, by rw [← m8]; exact List.mem_cons_self⟩, by rw [← m8]; exact hts _ m1, hts _ m2, m3, zparams hX4, va_Nw.use rfl hlink⟩, m7, hts _ m6⟩ hPS rfl hlen hl.2.1 hast (lv_room (zrest8 g8)) hd hf
    · cases hs
  · exfalso
    simp only [zstep, zret0] at hs
    split at hs <;> cases hs
  · exfalso
    simp only [zstep, zretI] at hs
    split at hs <;> cases hs
  · exfalso
    simp only [zstep, zretL] at hs
    split at hs <;> cases hs
end ZU
