theorem zfo_no {α : Type} {f : Nat → Option α} {n : Nat} (h : f n = none) : zfo f (n + 1) = zfo f n := by
  rw [zfo, h]
  cases zfo f n <;> rfl
theorem zfo_yes {α : Type} {f : Nat → Option α} {n : Nat} (h : zfo f n = none) : zfo f (n + 1) = f n := by
  rw [zfo, h]
theorem zfo_0 {α : Type} {f : Nat → Option α} : ∀ {n : Nat}, zfo f n = none ↔ ∀ y, y < n → f y = none
  | 0 => ⟨fun _ y hy => absurd hy (Nat.not_lt_zero y), fun _ => rfl⟩
  | n + 1 => by
    constructor
    · intro h
      have h1 : zfo f n = none := by
        cases q : zfo f n with
        | none => rfl
        | some v => rw [zfo, q] at h; exact absurd h (by simp)
      intro y hy
      by_cases e : y = n
      · rw [e, ← zfo_yes h1]; exact h
      · exact zfo_0.mp h1 y (by omega)
    · intro h
      rw [zfo_no (h n (by omega))]
      exact zfo_0.mpr (fun y hy => h y (by omega))
theorem zsm_0 {f : Nat → Nat} : ∀ {n : Nat}, zsm f n = 0 ↔ ∀ y, y < n → f y = 0
  | 0 => ⟨fun _ y hy => absurd hy (Nat.not_lt_zero y), fun _ => rfl⟩
  | n + 1 => by
    rw [zsm]
    constructor
    · intro h y hy
      by_cases e : y = n
      · rw [e]; omega
      · exact (zsm_0 (f := f) (n := n)).mp (by omega) y (by omega)
    · intro h
      have h1 := zsm_0.mpr (fun y hy => h y (Nat.lt_succ_of_lt hy))
      have h2 := h n (Nat.lt_succ_self n)
      omega
theorem zGcf (lo lo2 P : Nat → Nat) : ∀ q k free I, zGc lo lo2 P q k free I = 0 ↔ zGf lo lo2 P q k free I = none
  | 0, _, _, _ => ⟨fun h => absurd (show (1 : Nat) = 0 from h) (by decide), fun h => absurd h (by simp [zGf])⟩
  | q + 1, k, free, I => by
    rw [zGc, zGf, zsm_0, zfo_0]
    constructor
    · intro h y hy
      have h1 := h y hy
      split at h1
      · rename_i c; rw [if_pos c]; exact (zGcf lo lo2 P q ..).mp h1
      · rename_i c; rw [if_neg c]
    · intro h y hy
      have h1 := h y hy
      split at h1
      · rename_i c; rw [if_pos c]; exact (zGcf lo lo2 P q ..).mpr h1
      · rename_i c; rw [if_neg c]
/-- where they are counted -/
def zRe (S : zRS) (s n : Nat) (lo : Nat → Nat) (t n2 : Nat) (lo2 : Nat → Nat) (m : Nat) (P : Nat → Nat) : Prop := zRs S s n lo ∧ zRs S t n2 lo2 ∧ S.1 14 = nI s ∧ S.1 15 = nI t ∧ S.1 16 = nI m ∧ ∀ j, j < m → S.2.1 10 j = nI (P j)
section ZRE
variable {s n t n2 m k : Nat} {lo lo2 P : Nat → Nat} {S S1 : zRS}
theorem zRe.fr (hE : zRe S s n lo t n2 lo2 m P) (hn : n ≤ 8) (hn2 : n2 ≤ 8) (hF : zRF (zRnP k) S S1) : zRe S1 s n lo t n2 lo2 m P :=
  ⟨hE.1.fr hn hF zRnP.sp, hE.2.1.fr hn2 hF zRnP.sp, (hF.1 14 (by unfold zRnP; omega)).trans hE.2.2.1, (hF.1 15 (by unfold zRnP; omega)).trans hE.2.2.2.1, (hF.1 16 (by unfold zRnP; omega)).trans hE.2.2.2.2.1, fun j hj => (hF.2.1 10 j (by unfold zRnP; omega)).trans (hE.2.2.2.2.2 j hj)⟩
end ZRE
theorem cr_renum0a {d r s n t n2 k free : Nat} {h : zH} {S : zRS} {lo lo2 P I : Nat → Nat} (hr : 2 ≤ r) (hk8 : k ≤ 8) (hE : zRe S s n lo t n2 lo2 k P) (hi : ∀ j, j < k → S.2.1 11 j = nI (I j)) (h17 : S.1 17 = nI 0) : zCallP (d + 1) 220 [.ref r, .int (nI k), .int (nI free)] (zRh h r S) (zRN (zRX h r S (zRnP k) (fun S1 => S1.1 17 = nI (0 + 1) ∧ zFrt k 0 (some I) S S1))) := by
  have h16 := hE.2.2.2.2.1
  refine zG_mP (t := tX10_renumbersFrom) (ls0 := [.ref r, .int (nI k), .int (nI free), .null]) rfl rfl (zdnR (zdnI (zdnI zdn0))) rfl ?_
  refine zG_s rfl rfl ?_
  refine zG_s rfl rfl ?_
  refine zN_get rfl zRh_o rfl ?_
  rw [h16]
  refine zN_ine rfl (by omega) (by omega) (fun c => absurd rfl c) (fun _ => ?_)
  refine zG_s rfl rfl ?_
  refine zN_st3 rfl (fun _ _ _ => rfl) rfl ?_
  have main10 : ∀ j, j ≤ k → ∀ S1 : zRS, zRF (fun k2 _ => k2 = 12) S S1 → (∀ q, q < j → S1.2.1 12 q = nI (I q)) → zGoP (d) tX10_renumbersFrom 10 [.ref r, .int (nI k), .int (nI free), .int (nI j)] [] (zRh h r S1) (zRN (zRX h r S (zRnP k) (fun S1 => S1.1 17 = nI (0 + 1) ∧ zFrt k 0 (some I) S S1))) := by
    refine zdown (k) ?_ (fun j hp10 ih10 => ?_)
    · skip
      intro S1 hF hA
      have h16 := (hF.1 16 (by omega)).trans h16
      have h17 := (hF.1 17 (by omega)).trans h17
      refine zG_s rfl rfl ?_
      refine zG_s rfl rfl ?_
      refine zN_get rfl zRh_o rfl ?_
      rw [h16]
      refine zN_ige rfl (by omega) (by omega) (fun c3 => ?_) (fun c4 => absurd c4 (by omega))
      refine zG_s rfl rfl ?_
      refine zG_s rfl rfl ?_
      refine zN_get rfl zRh_o rfl ?_
      rw [h17]
      refine zG_s rfl rfl ?_
      refine zN_add rfl ?_
      refine zR_put rfl rfl rfl (fun _ => rfl) ?_
      -- leaf 1
      exact zG_ret rfl rfl ⟨rfl, _, rfl, (hF.mono (fun k2 j g => Or.inr (Or.inl g))).i (Or.inr (Or.inr ⟨rfl, rfl⟩)), rfl, fun c => absurd c (by omega), fun _ j hj => hA j hj⟩
    · skip
      intro S1 hF hA
      have h16 := (hF.1 16 (by omega)).trans h16
      have h17 := (hF.1 17 (by omega)).trans h17
      refine zG_s rfl rfl ?_
      refine zG_s rfl rfl ?_
      refine zN_get rfl zRh_o rfl ?_
      rw [h16]
      refine zN_ige rfl (by omega) (by omega) (fun c5 => absurd c5 (by omega)) (fun c6 => ?_)
      refine zG_s rfl rfl ?_
      refine zN_get rfl zRh_o rfl ?_
      rw [h17]
      refine zN_ne0 rfl (by omega) (fun c => absurd c (by omega)) (fun _ => ?_)
      refine zG_s rfl rfl ?_
      refine zN_get rfl zRh_o rfl ?_
      refine zG_s rfl rfl ?_
      refine zG_s rfl rfl ?_
      refine zN_get rfl zRh_o rfl ?_
      refine zG_s rfl rfl ?_
      refine zR_ald (k := 11) (n := 8) rfl rfl (by omega) ((hF.2.1 11 j (by omega)).trans (hi j (by omega))) ?_
      refine zR_ast (k := 12) (n := 8) rfl rfl (by omega) hr ?_
      refine zN_inc3 rfl rfl ?_
      refine zG_s rfl rfl ?_
      -- leaf 2
      exact ih10 _ (hF.a rfl) (zRa_row0 hA rfl)
  exact main10 0 (by omega) _ zRF.rf (fun q hq => absurd hq (Nat.not_lt_zero q))
theorem cr_renum0b {d r s n t n2 k free c : Nat} {h : zH} {S : zRS} {lo lo2 P I : Nat → Nat} (hr : 2 ≤ r) (hk8 : k ≤ 8) (hE : zRe S s n lo t n2 lo2 k P) (h17 : S.1 17 = nI c) (hc : 0 < c) (hcl : c < 2 ^ 31) : zCallP (d + 1) 220 [.ref r, .int (nI k), .int (nI free)] (zRh h r S) (zRN (zRX h r S (zRnP k) (fun S1 => S1.1 17 = nI (c + 1) ∧ zFrt k c (some I) S S1))) := by
  have h16 := hE.2.2.2.2.1
  refine zG_mP (t := tX10_renumbersFrom) (ls0 := [.ref r, .int (nI k), .int (nI free), .null]) rfl rfl (zdnR (zdnI (zdnI zdn0))) rfl ?_
  refine zG_s rfl rfl ?_
  refine zG_s rfl rfl ?_
  refine zN_get rfl zRh_o rfl ?_
  rw [h16]
  refine zN_ine rfl (by omega) (by omega) (fun c => absurd rfl c) (fun _ => ?_)
  refine zG_s rfl rfl ?_
  refine zN_st3 rfl (fun _ _ _ => rfl) rfl ?_
  refine zG_s rfl rfl ?_
  refine zG_s rfl rfl ?_
  refine zN_get rfl zRh_o rfl ?_
  rw [h16]
  refine zN_ige rfl (by omega) (by omega) (fun c3 => ?_) (fun c4 => ?_)
  · skip
    refine zG_s rfl rfl ?_
    refine zG_s rfl rfl ?_
    refine zN_get rfl zRh_o rfl ?_
    rw [h17]
    refine zG_s rfl rfl ?_
    refine zN_add rfl ?_
    refine zR_put rfl rfl rfl (fun _ => rfl) ?_
    -- leaf 1
    exact zG_ret rfl rfl ⟨rfl, _, rfl, zRF.rf.i (Or.inr (Or.inr ⟨rfl, rfl⟩)), rfl, fun _ j => rfl, fun e => absurd e (by omega)⟩
  · skip
    refine zG_s rfl rfl ?_
    refine zN_get rfl zRh_o rfl ?_
    rw [h17]
    refine zN_ne0 rfl (by omega) (fun _ => ?_) (fun c => absurd c (by omega))
    refine zG_s rfl rfl ?_
    refine zG_s rfl rfl ?_
    refine zN_get rfl zRh_o rfl ?_
    rw [h17]
    refine zG_s rfl rfl ?_
    refine zN_add rfl ?_
    refine zR_put rfl rfl rfl (fun _ => rfl) ?_
    -- leaf 2
    exact zG_ret rfl rfl ⟨rfl, _, rfl, zRF.rf.i (Or.inr (Or.inr ⟨rfl, rfl⟩)), rfl, fun _ j => rfl, fun e => absurd e (by omega)⟩
theorem cr_renumS {d r s n t n2 m q k free c : Nat} {h : zH} {S : zRS} {lo lo2 P I : Nat → Nat} (hr : 2 ≤ r) (hP : zPre n lo) (hP2 : zPre n2 lo2) (hm : m ≤ 8) (hpn : ∀ j, j < m → P j < n) (hkq : k + (q + 1) = m) (hE : zRe S s n lo t n2 lo2 m P) (hi : ∀ j, j < k → S.2.1 11 j = nI (I j)) (hin : ∀ j, j < k → I j < n2) (hfr : free < 1 <<< n2) (h17 : S.1 17 = nI c) (hc : c + 8 ^ (q + 1) ≤ 2 ^ 30)
    (IH : ∀ (S : zRS) (k free c : Nat) (I : Nat → Nat), k + q = m → zRe S s n lo t n2 lo2 m P → (∀ j, j < k → S.2.1 11 j = nI (I j)) → (∀ j, j < k → I j < n2) → free < 1 <<< n2 → S.1 17 = nI c → c + 8 ^ q ≤ 2 ^ 30 → zCallP (d + q + 3) 220 [.ref r, .int (nI k), .int (nI free)] (zRh h r S) (zRN (zRX h r S (zRnP k) (fun S1 => S1.1 17 = nI (c + zGc lo lo2 P q k free I) ∧ zFrt m c (zGf lo lo2 P q k free I) S S1)))) :
    zCallP (d + q + 4) 220 [.ref r, .int (nI k), .int (nI free)] (zRh h r S) (zRN (zRX h r S (zRnP k) (fun S1 => S1.1 17 = nI (c + zGc lo lo2 P (q + 1) k free I) ∧ zFrt m c (zGf lo lo2 P (q + 1) k free I) S S1))) := by
  have hn := hP.1
  have hn2 := hP2.1
  have hpw2 := zpow_le hn2
  have h16 := hE.2.2.2.2.1
  rw [zGc, zGf]
  have hB : ∀ y I, zGc lo lo2 P q (k + 1) (zan free (1 <<< y)) I ≤ 8 ^ q := fun y I => zGc_le ..
  rw [Nat.pow_succ] at hc
  generalize hF : (fun y => if free.testBit y && zAl (zRfit lo lo2 P I k y) k then zGc lo lo2 P q (k + 1) (zan free (1 <<< y)) (zupd I k y) else 0) = F
  generalize hG : (fun y => if free.testBit y && zAl (zRfit lo lo2 P I k y) k then zGf lo lo2 P q (k + 1) (zan free (1 <<< y)) (zupd I k y) else none) = G
  have hFy : ∀ y, F y = if free.testBit y && zAl (zRfit lo lo2 P I k y) k then zGc lo lo2 P q (k + 1) (zan free (1 <<< y)) (zupd I k y) else 0 := fun y => by rw [← hF]
  have hGy : ∀ y, G y = if free.testBit y && zAl (zRfit lo lo2 P I k y) k then zGf lo lo2 P q (k + 1) (zan free (1 <<< y)) (zupd I k y) else none := fun y => by rw [← hG]
  have hFG : ∀ y, F y = 0 ↔ G y = none := fun y => by
    rw [hFy, hGy]
    split
    · exact zGcf lo lo2 P q ..
    · exact ⟨fun _ => rfl, fun _ => rfl⟩
  have hFB : ∀ y, F y ≤ 8 ^ q := fun y => by
    rw [hFy]
    split
    · exact hB y _
    · exact Nat.zero_le _
  refine zG_mP (t := tX10_renumbersFrom) (ls0 := [.ref r, .int (nI k), .int (nI free), .null]) rfl rfl (zdnR (zdnI (zdnI zdn0))) rfl ?_
  refine zG_s rfl rfl ?_
  refine zG_s rfl rfl ?_
  refine zN_get rfl zRh_o rfl ?_
  rw [h16]
  refine zN_ine rfl (by omega) (by omega) (fun _ => ?_) (fun c => absurd c (by omega))
  refine zG_s rfl rfl ?_
  refine zN_st3 rfl (fun _ _ _ => rfl) rfl ?_
  have main56 : ∀ y, y ≤ 8 → ∀ S1 : zRS, zRF (zRnP k) S S1 → S1.1 17 = nI (c + zsm F y) → zFrt m c (zfo G y) S S1 → zGoP (d + q + 3) tX10_renumbersFrom 56 [.ref r, .int (nI k), .int (nI free), .int (nI y)] [] (zRh h r S1) (zRN (zRX h r S (zRnP k) (fun S1 => S1.1 17 = nI (c + zsm F 8) ∧ zFrt m c (zfo G 8) S S1))) := by
    refine zdown (8) ?_ (fun y hp56 ih56 => ?_)
    · skip
      intro S1 hF1 h17 hfi
      refine zG_s rfl rfl ?_
      refine zG_s rfl rfl ?_
      refine zN_ige rfl (by omega) (by omega) (fun c3 => ?_) (fun c4 => absurd c4 (by omega))
      -- leaf 1
      exact zG_ret rfl rfl ⟨rfl, S1, rfl, hF1, h17, hfi⟩
    · skip
      intro S1 hF1 h17 hfi
      have hE1 := hE.fr hn hn2 hF1
      have hi1 : ∀ j, j < k → S1.2.1 11 j = nI (I j) := fun j hj => (hF1.2.1 11 j (by unfold zRnP; omega)).trans (hi j hj)
      have hfy := hFy y
      have hgy := hGy y
      have hsB : zsm F y ≤ y * 8 ^ q := zsm_le (fun x _ => hFB x)
      have hyB : y * 8 ^ q ≤ 7 * 8 ^ q := Nat.mul_le_mul_right _ (by omega)
      refine zG_s rfl rfl ?_
      refine zG_s rfl rfl ?_
      refine zN_ige rfl (by omega) (by omega) (fun c5 => absurd c5 (by omega)) (fun c6 => ?_)
      refine zG_s rfl rfl ?_
      refine zG_s rfl rfl ?_
      refine zG_cS1 rfl rfl (cr_has _ (by omega) (by omega)) ?_
      first | refine zN_ifb rfl (fun c7 => ?_) (fun c8 => ?_) | refine zN_eq0 rfl (by omega) (fun c7 => ?_) (fun c8 => ?_)
      · skip
        refine zN_inc3 rfl rfl ?_
        refine zG_s rfl rfl ?_
        -- leaf 2
        have e0 : F y = 0 := by rw [hfy, c7]; rfl
        rw [show zsm F (y + 1) = zsm F y from by rw [zsm, e0]; rfl, zfo_no ((hFG y).mp e0)] at ih56
        exact ih56 _ hF1 h17 hfi
      · skip
        refine zG_s rfl rfl ?_
        refine zG_s rfl rfl ?_
        refine zG_s rfl rfl ?_
        refine zG_cV1 rfl rfl zRh_o rfl rfl (cr_fitsSo hE1.1 hP hE1.2.1 hP2 hE1.2.2.1 hE1.2.2.2.1 (show k < m by omega) hm hE1.2.2.2.2.2 hpn hi1 hin (zlt_bit hfr (by assumption))) ?_
        first | refine zN_ifb rfl (fun c9 => ?_) (fun c10 => ?_) | refine zN_eq0 rfl (by omega) (fun c9 => ?_) (fun c10 => ?_)
        · skip
          refine zN_inc3 rfl rfl ?_
          refine zG_s rfl rfl ?_
          -- leaf 3
          have e0 : F y = 0 := by rw [hfy, c8, c9]; rfl
          rw [show zsm F (y + 1) = zsm F y from by rw [zsm, e0]; rfl, zfo_no ((hFG y).mp e0)] at ih56
          exact ih56 _ hF1 h17 hfi
        · skip
          refine zG_s rfl rfl ?_
          refine zN_get rfl zRh_o rfl ?_
          refine zG_s rfl rfl ?_
          refine zG_s rfl rfl ?_
          refine zR_ast (k := 11) (n := 8) rfl rfl (by omega) hr ?_
          refine zG_s rfl rfl ?_
          refine zG_s rfl rfl ?_
          refine zG_s rfl rfl ?_
          refine zN_add rfl ?_
          refine zG_s rfl rfl ?_
          refine zG_s rfl rfl ?_
          refine zG_s rfl rfl ?_
          refine zN_shl rfl (by omega) ?_
          refine zG_s rfl rfl ?_
          refine zN_not rfl ?_
          refine zN_andn rfl ?_
          have hy2 := zlt_bit hfr (show free.testBit y = true by assumption)
          have hE2 := hE1.fr hn hn2 (k := k) (zRF.rf.a (w := nI y) (show zRnP k 11 k from Or.inl ⟨rfl, Nat.le_refl k, by omega⟩))
          have hi2 : ∀ j, j < k + 1 → (zRa S1 11 k (nI y)).2.1 11 j = nI (zupd I k y j) := fun j hj => by
            by_cases e : j = k
            · rw [e, zRa_at, zupd_at]
            · rw [zRa_ne (Or.inr e), zupd_ne _ _ e]
              exact hi1 j (by omega)
          have hin2 : ∀ j, j < k + 1 → zupd I k y j < n2 := fun j hj => by
            by_cases e : j = k
            · rw [e, zupd_at]; exact hy2
            · rw [zupd_ne _ _ e]
              exact hin j (by omega)
          refine zG_cQN rfl rfl zRh_o rfl rfl (IH _ (k + 1) (zan free (1 <<< y)) (c + zsm F y) (zupd I k y) (by omega) hE2 hi2 hin2 (zan_lt _ hfr) h17 (by omega)) (fun h1 hB => ?_)
          obtain ⟨S2, rfl, hF2, h17b, hfi2⟩ := hB
          refine zN_inc3 rfl rfl ?_
          refine zG_s rfl rfl ?_
          -- leaf 4
          have e0 : F y = zGc lo lo2 P q (k + 1) (zan free (1 <<< y)) (zupd I k y) := by rw [hfy, c8, c10]; rfl
          have e1 : G y = zGf lo lo2 P q (k + 1) (zan free (1 <<< y)) (zupd I k y) := by rw [hgy, c8, c10]; rfl
          rw [← e0] at h17b
          rw [← e1] at hfi2
          refine ih56 S2 ((hF1.a (Or.inl ⟨rfl, Nat.le_refl k, by omega⟩)).tr (hF2.mono zRnP.up)) (by rw [h17b, zsm, Nat.add_assoc]) ?_
          have h12 : ∀ j, (zRa S1 11 k (nI y)).2.1 12 j = S1.2.1 12 j := fun j => zRa_ne (Or.inl (by decide))
          refine ⟨fun h0 j => ((hfi2.1 (by omega) j).trans (h12 j)).trans (hfi.1 h0 j), fun h0 => ?_⟩
          cases qq : zfo G y with
          | some J =>
            have hp : zsm F y ≠ 0 := fun g => by
              rw [zfo_0.mpr (fun x hx => (hFG x).mp (zsm_0.mp g x hx))] at qq
              exact absurd qq (by simp)
            rw [zfo_more qq 1]
            have hh := hfi.2 h0
            rw [qq] at hh
            exact fun j hj => ((hfi2.1 (by omega) j).trans (h12 j)).trans (hh j hj)
          | none =>
            have hz : zsm F y = 0 := zsm_0.mpr (fun x hx => (hFG x).mpr (zfo_0.mp qq x hx))
            rw [zfo_yes qq]
            exact hfi2.2 (by omega)
  exact main56 0 (by omega) _ zRF.rf h17 ⟨fun _ _ => rfl, fun _ => trivial⟩
theorem cr_renumK {d r s n t n2 m : Nat} {h : zH} {lo lo2 P : Nat → Nat} (hr : 2 ≤ r) (hP : zPre n lo) (hP2 : zPre n2 lo2) (hm : m ≤ 8) (hpn : ∀ j, j < m → P j < n) : ∀ (q : Nat) (S : zRS) (k free c : Nat) (I : Nat → Nat), k + q = m → zRe S s n lo t n2 lo2 m P → (∀ j, j < k → S.2.1 11 j = nI (I j)) → (∀ j, j < k → I j < n2) → free < 1 <<< n2 → S.1 17 = nI c → c + 8 ^ q ≤ 2 ^ 30 → zCallP (d + q + 3) 220 [.ref r, .int (nI k), .int (nI free)] (zRh h r S) (zRN (zRX h r S (zRnP k) (fun S1 => S1.1 17 = nI (c + zGc lo lo2 P q k free I) ∧ zFrt m c (zGf lo lo2 P q k free I) S S1)))
  | 0, S, k, free, c, I, hk, hE, hi, _, _, h17, hc => by
    have hk : k = m := by omega
    rw [← hk] at hE hm ⊢
    by_cases e : c = 0
    · rw [e] at h17 ⊢
      exact cr_renum0a (d := d + 2) hr hm hE hi h17
    · exact cr_renum0b (d := d + 2) hr hm hE h17 (by omega) (by omega)
  | q + 1, S, k, free, c, I, hk, hE, hi, hin, hfr, h17, hc => cr_renumS hr hP hP2 hm hpn hk hE hi hin hfr h17 hc (cr_renumK hr hP hP2 hm hpn q)

