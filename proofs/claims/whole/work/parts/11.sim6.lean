section ZV
variable {P : zP} {p : Program} {l : Launch} {e : Env} {R : Room} {s : State} {m : MethodId} {args : Array Value} {below : List Frame} {meth : Method} {c : Code} {Q : State → Prop} {mi : Nat}
/-- a run of the small machine, from any of its points on -/
theorem zsim_run {d c0 s0 : Nat} {r : zR} (IH : ∀ (mj : Nat) (as : List Value) (h : zH) (r : zR), zokM mj = true → zCall d mj as h r → Met l (zy mj) (zws mj) (zrm d (r.2.1 - h.1) (r.2.2.1 - h.2.1)) (zPc P as h) (zQc P r) (r.2.1 - h.1) (r.2.2.1 - h.2.1) (fun q => zPb P ≤ q))
    (hall : ∀ (pc : Nat) (ai : zI), zT mi pc = some ai → zokI mi pc ai = true) (Cx : zCx P p s m args meth c mi) (hF : d + 1 ≤ R.frames) (hLo : 100 * (d + 1) ≤ R.locals) (hR1 : r.2.1 - c0 ≤ R.cells) (hR2 : r.2.2.1 - s0 ≤ R.slots)
    (Kr : ∀ (pc : Nat) (ai : zI) (als ast : List Value) (ls : Array Slot) (H : Heap) (locs : List Loc), zokI mi pc ai = true → zstep ai als ast r.2 = .inr (.inr (.inr (.inl (true, r.1)))) → zPic P r.2 H → (∀ x ∈ locs, zPb P ≤ x.base) → W p l e R s m args below meth c H locs (r.2.1 - c0) (r.2.2.1 - s0) Q (F0 m pc ls (ast.map (zcv P)))) :
    ∀ (n pc : Nat) (als ast : List Value) (h : zH) (ls : Array Slot) (H : Heap) (locs : List Loc), zRun (zCall d) (zT mi) n pc als ast h r → zL P (zml mi) als ls → zPic P h H → (∀ x ∈ locs, zPb P ≤ x.base) → c0 ≤ h.1 → s0 ≤ h.2.1 → W p l e R s m args below meth c H locs (h.1 - c0) (h.2.1 - s0) Q (F0 m pc ls (ast.map (zcv P)))
  | 0, _, _, _, _, _, _, _, hr, _, _, _, _, _ => hr.elim
  | n + 1, pc, als, ast, h, ls, H, locs, hr, hl, hP, hlc, hc0, hs0 => by
    have ih := zsim_run (r := r) IH hall Cx hF hLo hR1 hR2 Kr n
    unfold zRun at hr
    split at hr
    · exact hr.elim
    · rename_i ai hai
      have hok := hall pc ai hai
      split at hr
      · rename_i b' pc' ls' st' h' hs
        obtain ⟨rfl, hr⟩ := hr
        have hm1 : h.1 ≤ h'.1 ∧ h.2.1 ≤ h'.2.1 := by obtain ⟨i, nx, a, b, k, v⟩ := ai; exact zstep_mono hs
        have hm2 := zRun_mono (zCall_mono d) n _ _ _ _ _ hr
        refine zs_nx (c0 := c0) (s0 := s0) Cx hok hs hl hP hlc hc0 hs0 (by omega) (by omega) (by omega) (by omega) (fun H' ls2 locs' hP' hl' hlc' => ?_)
        exact ih pc' ls' st' h' ls2 H' locs' hr hl' hP' hlc' (by omega) (by omega)
      · rename_i cb p1 p2 st' hs
        exact zs_br Cx hok hs (fun g => ih p1 als st' h ls H locs (hr.1 g) hl hP hlc hc0 hs0) (fun g => ih p2 als st' h ls H locs (hr.2 g) hl hP hlc hc0 hs0)
      · rename_i b' mj as pc' st' hs
        obtain ⟨rfl, v, h1, hc, hr⟩ := hr
        have hm1 := zCall_mono d _ _ _ _ hc
        have hm2 := zRun_mono (zCall_mono d) n _ _ _ _ _ hr
        have hokM : zokM mj = true := zcall_ok hok hs
        exact zs_call (d := d) (h1 := h1) (v := v) (c0 := c0) (s0 := s0) Cx hok hs (IH mj as h (v, h1) hokM hc) hm1 hF hLo hc0 hs0 (by have := hm2.1; omega) (by have := hm2.2; omega) hl hP hlc (fun H1 locs1 hP1 hl1 => ih pc' als _ h1 ls H1 locs1 hr hl hP1 hl1 (Nat.le_trans hc0 hm1.1) (Nat.le_trans hs0 hm1.2))
      · rename_i b' v hs
        obtain ⟨rfl, rfl⟩ := hr
        exact Kr pc ai als ast ls H locs hok hs hP hlc
      · exact hr.elim
end ZV
/-- every call of the small machine is one of the great one -/
theorem zsim (hall : ∀ (mi pc : Nat) (ai : zI), zT mi pc = some ai → zokI mi pc ai = true) (l : Launch) (P : zP) : ∀ (d mi : Nat) (as : List Value) (h : zH) (r : zR), zokM mi = true → zCall d mi as h r → Met l (zy mi) (zws mi) (zrm d (r.2.1 - h.1) (r.2.2.1 - h.2.1)) (zPc P as h) (zQc P r) (r.2.1 - h.1) (r.2.2.1 - h.2.1) (fun q => zPb P ≤ q)
  | 0, _, _, _, _, _, hc => hc.elim
  | d + 1, mi, as, h, r, hokM, hc => by
    have IH := zsim hall l P d
    obtain ⟨hlen, hdb, n, hr⟩ := hc
    obtain ⟨m1, m2, m3, m4, m5, -⟩ := zokM_of hokM
    refine Met.ofW (cc := zco mi) (maxL := zml mi) (ret := zrt mi) m4 rfl ?_
    intro p e s m args below meth c s₁ B hml hv
    obtain ⟨rfl, hP, hK⟩ := hv
    have hts := atoms_spec (ws := zws mi) B.pre
    have hown : s.vm.findClass (zy mi).cls = some m.cls := findClass_of_methodNamed B.named
    have hnm : meth.name = (zy mi).name := (name_of_methodNamed B.named B.method).1
    have Cx : zCx P p s m (as.map (zcv P)).toArray meth c mi := ⟨B.exec, B.bytes, hown, hml, B.notSynchronized, fun g => hnm.trans g, fun w hw => hts w (List.mem_cons_of_mem _ hw), hK⟩
    have hmono := zRun_mono (zCall_mono d) n _ _ _ _ _ hr
    have hsl : (lg_sl (as.map (zcv P))).length ≤ zml mi := by rw [zlay_len P as hdb]; exact hlen
    have hl0 := lv_entry (as.map (zcv P)) (n := zml mi) hsl
    rw [lg_entry_eq]
    have hl : zL P (zml mi) (zent (zml mi) as) ((lg_sl (as.map (zcv P)) ++ List.replicate (zml mi - (lg_sl (as.map (zcv P))).length) Slot.unset).toArray) := by
      refine ⟨by simp [zent]; omega, hl0.1, hl0.2.1, fun i v hi hv => ?_⟩
      unfold zent at hi
      by_cases hlt : i < (zlay as).length
      · rw [List.getElem?_append_left hlt] at hi
        have := zlay_has P as 0 i v hdb hi hv
        rw [Nat.zero_add] at this
        exact hl0.2.2 (i, zcv P v) this
      · rw [List.getElem?_append_right (by omega), List.getElem?_replicate] at hi
        split at hi
        · cases hi; exact absurd rfl hv
        · cases hi
    have := zsim_run (P := P) (l := l) (e := e) (p := p) (below := below) (R := zrm (d + 1) (r.2.1 - h.1) (r.2.2.1 - h.2.1)) (d := d) (c0 := h.1) (s0 := h.2.1) (r := r) (Q := MQ below (zQc P r) (as.map (zcv P)).toArray s (r.2.1 - h.1) (r.2.2.1 - h.2.1) (fun q => zPb P ≤ q)) IH (hall mi) Cx (Nat.le_refl _) (Nat.le_refl _) (Nat.le_refl _) (Nat.le_refl _)
      (fun pc ai als ast ls H locs hok hs hP2 hlc => by
        obtain ⟨r1, r2⟩ := r
        exact zs_ret Cx B.returns hok hs hP2 hlc) n 0 (zent (zml mi) as) [] h _ s.heap [] hr hl hP (fun x hx => by cases hx) (Nat.le_refl _) (Nat.le_refl _)
    rw [Nat.sub_self, Nat.sub_self] at this
    exact this
