/-! the law from its start -/
def zF1 (F : Nat → zC) : Nat → zC := fun j => if j = 2 then .inr (9, zdef 9 16) else F j
def zF2 (F : Nat → zC) : Nat → zC := fun j => if j = 112 then .inr (10, zdef 10 39) else zkE9 (zF1 F) j
def zHE (s : Nat) (F : Nat → zC) : zH := (138, s + 16 + 3635 + 39 + 2214, zkE10 (zF2 F))
def zS0 : zST := (fun _ => (0, fun _ => 0), fun _ => (0, fun _ => 0), (1, 1, false), (0, fun _ => 0), fun _ => (0, 0, fun _ => 0), fun _ => (0, 0), [])
def zR0 : zRS := (fun i => if i = 5 then 1 else 0, fun k => if k = 18 then upd (upd (upd (upd (fun _ => 0) 0 (-1)) 1 (-1)) 2 (-1)) 3 (-1) else fun _ => 0, fun _ _ => 0)
section ZINI
variable {s L : Nat} {F : Nat → zC} {xs ka : Nat → Int32}
set_option maxRecDepth 100000 in
theorem zi_re : zHE s F = zRh (zHE s F) 112 zR0 := by
  refine Prod.ext rfl (Prod.ext rfl (funext fun j => ?_))
  show zkE10 (zF2 F) j = (if j = 112 then .inr (10, zRfd zR0.1 112) else if 112 < j ∧ j ≤ 112 + 25 then zRcl zR0 (j - 112) else zkE10 (zF2 F) j)
  by_cases e : 112 ≤ j ∧ j ≤ 137
  · rcases (by omega : j = 112 ∨ j = 113 ∨ j = 114 ∨ j = 115 ∨ j = 116 ∨ j = 117 ∨ j = 118 ∨ j = 119 ∨ j = 120 ∨ j = 121 ∨ j = 122 ∨ j = 123 ∨ j = 124 ∨ j = 125 ∨ j = 126 ∨ j = 127 ∨ j = 128 ∨ j = 129 ∨ j = 130 ∨ j = 131 ∨ j = 132 ∨ j = 133 ∨ j = 134 ∨ j = 135 ∨ j = 136 ∨ j = 137) with rfl | rfl | rfl | rfl | rfl | rfl | rfl | rfl | rfl | rfl | rfl | rfl | rfl | rfl | rfl | rfl | rfl | rfl | rfl | rfl | rfl | rfl | rfl | rfl | rfl | rfl
    · rfl
    · rfl
    · rfl
    · rfl
    · rfl
    · rfl
    · rfl
    · rfl
    · rfl
    · rfl
    · rfl
    · rfl
    · rfl
    · rfl
    · rfl
    · rfl
    · rfl
    · rfl
    · rfl
    · rfl
    · rfl
    · rfl
    · rfl
    · rfl
    · rfl
    · rfl
  · rw [if_neg (by omega), if_neg (by omega)]
set_option maxRecDepth 100000 in
theorem zi_ri : zRI zR0 zS0 :=
  ⟨fun i hi => ⟨rfl, by omega, fun x hx => absurd hx (Nat.not_lt_zero x)⟩, fun i hi => ⟨rfl, fun x hx => absurd hx (Nat.not_lt_zero x)⟩, ⟨rfl, fun q => absurd q (by decide), rfl⟩, ⟨rfl, fun i hi => absurd hi (Nat.not_lt_zero i)⟩,
   fun i hi => ⟨by rcases (by omega : i = 0 ∨ i = 1 ∨ i = 2 ∨ i = 3) with rfl | rfl | rfl | rfl <;> rfl, fun h0 => absurd h0 (Nat.lt_irrefl 0)⟩,
   fun i hi => ⟨fun _ => rfl, fun g => absurd g (Nat.not_succ_le_zero 0), fun g => absurd g (Nat.not_succ_le_zero 10)⟩, ⟨rfl, fun i hi => absurd hi (Nat.not_lt_zero i)⟩⟩
theorem zi_p0 : zPre 0 (fun _ => 0) := ⟨by decide, fun x hx => absurd hx (Nat.not_lt_zero x)⟩
theorem zi_wt : zWT zS0 :=
  ⟨fun i hi => zi_p0, fun i hi => zi_p0, ⟨Nat.zero_le _, fun i hi => absurd hi (Nat.not_lt_zero i)⟩, fun i hi => ⟨Nat.zero_le _, Nat.zero_le _⟩, fun i hi => ⟨Nat.zero_le _, (by decide : (0 : Nat) ≠ 7), (by decide : (0 : Nat) ≠ 8), (by decide : (0 : Nat) ≠ 9), (by decide : (0 : Nat) ≠ 10), Nat.zero_le _⟩, Nat.zero_le _⟩
set_option maxRecDepth 100000 in
theorem zi_s5 : zSp (zHE s F) 5 0 (fun _ => 0) (zTr 0 (fun _ => 0)) := ⟨rfl, _, _, rfl, rfl, fun x hx => absurd hx (Nat.not_lt_zero x)⟩
set_option maxRecDepth 100000 in
theorem zi_s19 : zSp (zHE s F) 19 0 (fun _ => 0) (zTr 0 (fun _ => 0)) := ⟨rfl, _, _, rfl, rfl, fun x hx => absurd hx (Nat.not_lt_zero x)⟩
set_option maxRecDepth 100000 in
theorem zi_s22 : zSp (zHE s F) 22 0 (fun _ => 0) (zTr 0 (fun _ => 0)) := ⟨rfl, _, _, rfl, rfl, fun x hx => absurd hx (Nat.not_lt_zero x)⟩
set_option maxRecDepth 100000 in
theorem zi_s30 : zSp (zHE s F) 30 0 (fun _ => 0) (zTr 0 (fun _ => 0)) := ⟨rfl, _, _, rfl, rfl, fun x hx => absurd hx (Nat.not_lt_zero x)⟩
set_option maxRecDepth 100000 in
theorem zi_s68 : zSp (zHE s F) 68 0 (fun _ => 0) (zTr 0 (fun _ => 0)) := ⟨rfl, _, _, rfl, rfl, fun x hx => absurd hx (Nat.not_lt_zero x)⟩
set_option maxRecDepth 100000 in
theorem zi_s71 : zSp (zHE s F) 71 0 (fun _ => 0) (zTr 0 (fun _ => 0)) := ⟨rfl, _, _, rfl, rfl, fun x hx => absurd hx (Nat.not_lt_zero x)⟩
set_option maxRecDepth 100000 in
theorem zi_s74 : zSp (zHE s F) 74 0 (fun _ => 0) (zTr 0 (fun _ => 0)) := ⟨rfl, _, _, rfl, rfl, fun x hx => absurd hx (Nat.not_lt_zero x)⟩
set_option maxRecDepth 100000 in
theorem zi_s77 : zSp (zHE s F) 77 0 (fun _ => 0) (zTr 0 (fun _ => 0)) := ⟨rfl, _, _, rfl, rfl, fun x hx => absurd hx (Nat.not_lt_zero x)⟩
set_option maxRecDepth 100000 in
theorem zi_s80 : zSp (zHE s F) 80 0 (fun _ => 0) (zTr 0 (fun _ => 0)) := ⟨rfl, _, _, rfl, rfl, fun x hx => absurd hx (Nat.not_lt_zero x)⟩
set_option maxRecDepth 100000 in
theorem zi_s83 : zSp (zHE s F) 83 0 (fun _ => 0) (zTr 0 (fun _ => 0)) := ⟨rfl, _, _, rfl, rfl, fun x hx => absurd hx (Nat.not_lt_zero x)⟩
set_option maxRecDepth 100000 in
theorem zi_s86 : zSp (zHE s F) 86 0 (fun _ => 0) (zTr 0 (fun _ => 0)) := ⟨rfl, _, _, rfl, rfl, fun x hx => absurd hx (Nat.not_lt_zero x)⟩
set_option maxRecDepth 100000 in
theorem zi_s89 : zSp (zHE s F) 89 0 (fun _ => 0) (zTr 0 (fun _ => 0)) := ⟨rfl, _, _, rfl, rfl, fun x hx => absurd hx (Nat.not_lt_zero x)⟩
set_option maxRecDepth 100000 in
theorem zi_s92 : zSp (zHE s F) 92 0 (fun _ => 0) (zTr 0 (fun _ => 0)) := ⟨rfl, _, _, rfl, rfl, fun x hx => absurd hx (Nat.not_lt_zero x)⟩
set_option maxRecDepth 100000 in
theorem zi_s95 : zSp (zHE s F) 95 0 (fun _ => 0) (zTr 0 (fun _ => 0)) := ⟨rfl, _, _, rfl, rfl, fun x hx => absurd hx (Nat.not_lt_zero x)⟩
set_option maxRecDepth 100000 in
theorem zi_s98 : zSp (zHE s F) 98 0 (fun _ => 0) (zTr 0 (fun _ => 0)) := ⟨rfl, _, _, rfl, rfl, fun x hx => absurd hx (Nat.not_lt_zero x)⟩
set_option maxRecDepth 100000 in
theorem zi_s101 : zSp (zHE s F) 101 0 (fun _ => 0) (zTr 0 (fun _ => 0)) := ⟨rfl, _, _, rfl, rfl, fun x hx => absurd hx (Nat.not_lt_zero x)⟩
set_option maxRecDepth 100000 in
theorem zi_w38 : zRw5 (zHE s F) 38 (fun _ _ => 0) := ⟨⟨_, rfl, fun i hi => if_pos hi⟩, fun i hi => by
  rcases (by omega : i = 0 ∨ i = 1 ∨ i = 2 ∨ i = 3 ∨ i = 4) with rfl | rfl | rfl | rfl | rfl <;> rfl⟩
set_option maxRecDepth 100000 in
theorem zi_w44 : zRw5 (zHE s F) 44 (fun _ _ => 0) := ⟨⟨_, rfl, fun i hi => if_pos hi⟩, fun i hi => by
  rcases (by omega : i = 0 ∨ i = 1 ∨ i = 2 ∨ i = 3 ∨ i = 4) with rfl | rfl | rfl | rfl | rfl <;> rfl⟩
set_option maxRecDepth 100000 in
theorem zi_w50 : zRw5 (zHE s F) 50 (fun _ _ => 0) := ⟨⟨_, rfl, fun i hi => if_pos hi⟩, fun i hi => by
  rcases (by omega : i = 0 ∨ i = 1 ∨ i = 2 ∨ i = 3 ∨ i = 4) with rfl | rfl | rfl | rfl | rfl <;> rfl⟩
set_option maxRecDepth 100000 in
theorem zi_sp : zc_sp (zHE s F) zS0.1 := fun i hi => by
  rcases (by omega : i = 0 ∨ i = 1 ∨ i = 2 ∨ i = 3 ∨ i = 4 ∨ i = 5) with rfl | rfl | rfl | rfl | rfl | rfl
  · exact zi_s68
  · exact zi_s74
  · exact zi_s80
  · exact zi_s86
  · exact zi_s92
  · exact zi_s98
set_option maxRecDepth 100000 in
theorem zi_kp : zc_kp (zHE s F) zS0.2.1 := fun i hi => by
  rcases (by omega : i = 0 ∨ i = 1 ∨ i = 2 ∨ i = 3 ∨ i = 4 ∨ i = 5) with rfl | rfl | rfl | rfl | rfl | rfl
  · exact zi_s71
  · exact zi_s77
  · exact zi_s83
  · exact zi_s89
  · exact zi_s95
  · exact zi_s101
set_option maxRecDepth 100000 in
theorem zi_sh : zc_sh (zHE s F) zS0.2.2.2.2.1 := fun i hi => by
  rcases (by omega : i = 0 ∨ i = 1 ∨ i = 2 ∨ i = 3) with rfl | rfl | rfl | rfl
  · exact ⟨_, ⟨rfl, rfl⟩, fun j hj => absurd hj (Nat.not_lt_zero j)⟩
  · exact ⟨_, ⟨rfl, rfl⟩, fun j hj => absurd hj (Nat.not_lt_zero j)⟩
  · exact ⟨_, ⟨rfl, rfl⟩, fun j hj => absurd hj (Nat.not_lt_zero j)⟩
  · exact ⟨_, ⟨rfl, rfl⟩, fun j hj => absurd hj (Nat.not_lt_zero j)⟩
set_option maxRecDepth 100000 in
theorem zi_as : zc_as (zHE s F) := ⟨_, rfl, by decide⟩
set_option maxRecDepth 100000 in
theorem zi_ak : zc_ak (zHE s F) := ⟨_, rfl, by decide⟩
set_option maxRecDepth 100000 in
theorem zi_ah : zc_ah (zHE s F) := ⟨_, rfl, by decide⟩
set_option maxRecDepth 100000 in
theorem zi_go : zc_go (zHE s F) := ⟨0, nI 0, _, _, _, _, _, _, _, _, _, rfl, rfl, rfl, rfl, rfl, rfl, rfl, rfl, rfl, rfl⟩
set_option maxRecDepth 100000 in
theorem zi_ma : zc_ma (zHE s F) := ⟨0, 0, false, false, _, _, _, _, _, rfl, rfl, zi_s19, zi_s22⟩
set_option maxRecDepth 100000 in
theorem zi_fe : zc_fe (zHE s F) := ⟨_, _, rfl, rfl, rfl⟩
set_option maxRecDepth 100000 in
theorem zi_co : zc_co (zHE s F) := ⟨fun _ => false, nI 0, fun _ => 0, fun _ => 0, fun _ => 0, fun _ => 0, fun _ => 0, fun _ _ => 0, fun _ _ => 0, fun _ _ => 0, ⟨rfl, rfl, rfl, rfl, rfl, rfl, zi_w38, zi_w44, zi_w50⟩, ⟨_, _, _, zi_s30⟩, fun m hm => ⟨rfl, rfl, rfl, rfl, fun i hi => absurd hi (Nat.not_lt_zero i)⟩⟩
set_option maxRecDepth 100000 in
theorem zi_se : zc_se (zHE s F) := ⟨_, _, _, _, rfl, rfl, rfl, rfl, rfl⟩
set_option maxRecDepth 100000 in
theorem zi_ta : zc_ta (zHE s F) zS0.2.2.2.1 := ⟨0, _, rfl, rfl, fun i hi => absurd hi (Nat.not_lt_zero i)⟩
set_option maxRecDepth 100000 in
theorem zi_ac : zc_ac (zHE s F) zS0.2.2.2.2.2.2 := ⟨nI 0, zFr.rf, rfl, _, rfl, fun i hi => absurd hi (Nat.not_lt_zero i)⟩
set_option maxRecDepth 100000 in
theorem zi_sv : zc_sv (zHE s F) zS0.2.2.2.2.2.1 := ⟨_, _, rfl, rfl, fun i hi => ⟨by
  rcases (by omega : i = 0 ∨ i = 1 ∨ i = 2 ∨ i = 3) with rfl | rfl | rfl | rfl <;> rfl, fun g => absurd g (Nat.not_succ_le_zero 10)⟩⟩
set_option maxRecDepth 100000 in
theorem zi_ob : zc_ob (zHE s F) zS0.2.2.1 := rfl
set_option maxRecDepth 100000 in
theorem zi_ci (h1 : F 1 = .inl (0, 6, .inl ka)) (hka : ∀ i, 0 < i → i < 6 → ka i = nI (zAbv i)) : zCI (zHE s F) zS0 :=
  ⟨zi_ob, zi_as, zi_ak, ⟨_, _, _, zi_s5⟩, zi_go, zi_ma, zi_fe, zi_co, zi_se, zi_ta, zi_ac, zi_ah, zi_sv, zi_sp, zi_kp, zi_sh, ⟨ka, h1, hka⟩⟩
set_option maxRecDepth 100000 in
theorem zi_j (h0 : F 0 = .inl (0, L, .inl xs)) (h1 : F 1 = .inl (0, 6, .inl ka)) (hka : ∀ i, 0 < i → i < 6 → ka i = nI (zAbv i)) : zJ xs L (s + 16 + 3635 + 39 + 2214) (zHE s F) zS0 :=
  ⟨h0, zi_ci h1 hka, zi_wt, ⟨_, _, zi_re, zi_ri⟩, rfl, rfl⟩
set_option maxRecDepth 100000 in
theorem law_run (h0 : F 0 = .inl (0, L, .inl xs)) (h1 : F 1 = .inl (0, 6, .inl ka)) (hka : ∀ i, 0 < i → i < 6 → ka i = nI (zAbv i)) (hL : L ≤ 3072) : zGoP 20 tL_law 0 [.ref 0, .null, .null, .null] [] (2, s, F) (zLend (s + 16 + 3635 + 39 + 2214)) := by
  refine zG_s (st' := [.ref 2]) (h' := (3, s + 16, zF1 F)) rfl rfl ?_
  refine zG_s (st' := [.ref 2, .ref 2]) rfl rfl ?_
  refine zG_cS0 (st' := [.ref 2]) (h1 := (112, s + 16 + 3635, zkE9 (zF1 F))) rfl rfl (ci_9 (d := 17) (if_pos rfl)) ?_
  refine zG_s (ls' := [.ref 0, .ref 2, .null, .null]) (st' := []) rfl rfl ?_
  refine zG_s (st' := [.ref 112]) (h' := (113, s + 16 + 3635 + 39, zF2 F)) rfl rfl ?_
  refine zG_s (st' := [.ref 112, .ref 112]) rfl rfl ?_
  refine zG_cS0 (st' := [.ref 112]) (h1 := zHE s F) rfl rfl (ci_10 (d := 19) (if_pos rfl)) ?_
  refine zG_s (ls' := [.ref 0, .ref 2, .ref 112, .null]) (st' := []) rfl rfl ?_
  refine zG_s (st' := [.int (nI 0)]) rfl rfl ?_
  refine zG_s (ls' := [.ref 0, .ref 2, .ref 112, .int (nI 0)]) (st' := []) rfl rfl ?_
  exact law_loop hL (L + 1) 0 _ zS0 (zi_j h0 h1 hka) (by omega) (by omega)
end ZINI
