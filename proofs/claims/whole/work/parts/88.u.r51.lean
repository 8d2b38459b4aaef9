theorem cr_bitOf {d n x y : Nat} {h : zH} (hn : n < 9) (hx : x < n) (hy : y < n) (hxy : y ≠ x) : zCall (d + 1) 224 [.int (nI x), .int (nI y), .int (nI n)] h (some (.int (nI (zBo n x y))), h) := by
  have hm : x * (n - 1) ≤ 8 * 8 := Nat.mul_le_mul (by omega) (by omega)
  refine zG_m (t := tX10_bitOf) (ls0 := [.int (nI x), .int (nI y), .int (nI n)]) rfl rfl (zdnI (zdnI (zdnI zdn0))) rfl ?_
  refine zG_s rfl rfl ?_
  refine zG_s rfl rfl ?_
  refine zG_s rfl rfl ?_
  refine zN_sub rfl (by omega) ?_
  refine zN_mul rfl ?_
  refine zG_s rfl rfl ?_
  refine zG_s rfl rfl ?_
  refine zN_ige rfl (by omega) (by omega) (fun c1 => ?_) (fun c2 => ?_)
  · skip
    refine zG_s rfl rfl ?_
    refine zG_s rfl rfl ?_
    refine zN_sub rfl (by omega) ?_
    refine zN_add rfl ?_
    -- leaf 1
    exact zG_ret rfl rfl (by rw [zBo, if_neg (by omega)])
  · skip
    refine zG_s rfl rfl ?_
    refine zG_s rfl rfl ?_
    refine zN_add rfl ?_
    -- leaf 2
    exact zG_ret rfl rfl (by rw [zBo, if_pos (by omega)])
/-- what numbersFrom may change -/
def zNfP (k k2 j : Nat) : Prop := (k2 = 7 ∧ k ≤ j ∧ j < 8) ∨ (k2 = 0 ∧ j = 21)
theorem zNfP.up {k k2 j : Nat} (h : zNfP (k + 1) k2 j) : zNfP k k2 j := by unfold zNfP at *; omega
theorem cr_nf0 {d r s n free c : Nat} {h : zH} {S : zRS} {lo Q : Nat → Nat} (hr : 2 ≤ r) (hS : zRs S s n lo) (hn : n < 6) (hb : ∀ x, x < n → lo x < 256) (hQ : ∀ j, j < n → S.2.1 7 j = nI (Q j) ∧ Q j < n) (h21 : S.1 21 = nI c) (hc : c < 2 ^ 21) : zCallP (d + 2) 225 [.ref r, .int (nI s), .int (nI n), .int (nI free)] (zRh h r S) (zRN (zRX h r S (zNfP n) (fun S1 => S1.1 21 = nI (zNf n lo 0 n free Q c)))) := by
  have hs := hS.2.1
  have hcl : zor (fun i => zor (zCdf n lo Q i) n) n < 2 ^ 20 := zCode_lt (n := n) (lo := lo) (Q := Q) hn
  refine zG_mP (t := tX10_numbersFrom) (ls0 := [.ref r, .int (nI s), .int (nI n), .int (nI free), .null, .null, .null, .null]) rfl rfl (zdnR (zdnI (zdnI (zdnI zdn0)))) rfl ?_
  refine zG_s rfl rfl ?_
  refine zN_get rfl zRh_o rfl ?_
  refine zG_s rfl rfl ?_
  refine zR_ald (k := 3) (n := 10) rfl rfl (by omega) hS.1 ?_
  refine zN_st4 rfl (fun _ _ _ => rfl) rfl ?_
  refine zG_s rfl rfl ?_
  refine zG_s rfl rfl ?_
  refine zN_ine rfl (by omega) (by omega) (fun c => absurd rfl c) (fun _ => ?_)
  refine zG_s rfl rfl ?_
  refine zN_st5 rfl (fun _ _ _ => rfl) rfl ?_
  refine zG_s rfl rfl ?_
  refine zN_st6 rfl (fun _ _ _ => rfl) rfl ?_
  have main20 : ∀ x, x ≤ n → ∀ x7 : Value, zGoP (d + 1) tX10_numbersFrom 20 [.ref r, .int (nI s), .int (nI n), .int (nI free), .int (nI n), .int (nI (zor (fun i => zor (zCdf n lo Q i) n) x)), .int (nI x), x7] [] (zRh h r S) (zRN (zRX h r S (zNfP n) (fun S1 => S1.1 21 = nI (zNf n lo 0 n free Q c)))) := by
    refine zdown (n) ?_ (fun x hp20 ih20 => ?_)
    · skip
      intro x7
      refine zG_s rfl rfl ?_
      refine zG_s rfl rfl ?_
      refine zN_ige rfl (by omega) (by omega) (fun c3 => ?_) (fun c4 => absurd c4 (by omega))
      refine zG_s rfl rfl ?_
      refine zG_s rfl rfl ?_
      refine zG_s rfl rfl ?_
      refine zN_get rfl zRh_o rfl ?_
      rw [h21]
      refine zN_ige rfl (by omega) (by omega) (fun c5 => ?_) (fun c6 => ?_)
      · skip
        refine zG_s rfl rfl ?_
        refine zN_get rfl zRh_o rfl ?_
        rw [h21]
        refine zR_put rfl rfl rfl (fun _ => rfl) ?_
        -- leaf 1
        have g5 : c ≤ zCode n lo Q := c5
        exact zG_ret rfl rfl ⟨rfl, _, rfl, zRF.rf.i (Or.inr ⟨rfl, rfl⟩), by rw [zNf, if_neg (by omega)]; rfl⟩
      · skip
        refine zG_s rfl rfl ?_
        refine zG_s rfl rfl ?_
        refine zR_put rfl rfl rfl (fun _ => rfl) ?_
        -- leaf 2
        have g5 : zCode n lo Q < c := c6
        exact zG_ret rfl rfl ⟨rfl, _, rfl, zRF.rf.i (Or.inr ⟨rfl, rfl⟩), by rw [zNf, if_pos g5]; rfl⟩
    · skip
      intro x7
      refine zG_s rfl rfl ?_
      refine zG_s rfl rfl ?_
      refine zN_ige rfl (by omega) (by omega) (fun c7 => absurd c7 (by omega)) (fun c8 => ?_)
      refine zG_s rfl rfl ?_
      refine zN_st7 rfl (fun _ _ _ => rfl) rfl ?_
      have main30 : ∀ y, y ≤ n → zGoP (d + 1) tX10_numbersFrom 30 [.ref r, .int (nI s), .int (nI n), .int (nI free), .int (nI n), .int (nI (zor (fun i => zor (zCdf n lo Q i) n) x ||| zor (zCdf n lo Q x) y)), .int (nI x), .int (nI y)] [] (zRh h r S) (zRN (zRX h r S (zNfP n) (fun S1 => S1.1 21 = nI (zNf n lo 0 n free Q c)))) := by
        refine zdown (n) ?_ (fun y hp30 ih30 => ?_)
        · skip
          refine zG_s rfl rfl ?_
          refine zG_s rfl rfl ?_
          refine zN_ige rfl (by omega) (by omega) (fun c9 => ?_) (fun c10 => absurd c10 (by omega))
          refine zN_inc6 rfl rfl ?_
          refine zG_s rfl rfl ?_
          -- leaf 3
          exact ih20 _
        · skip
          have hq1 := hQ x (by omega)
          have hq2 := hQ y (by omega)
          have hq3 := hb (Q x) hq1.2
          refine zG_s rfl rfl ?_
          refine zG_s rfl rfl ?_
          refine zN_ige rfl (by omega) (by omega) (fun c11 => absurd c11 (by omega)) (fun c12 => ?_)
          refine zG_s rfl rfl ?_
          refine zG_s rfl rfl ?_
          refine zG_s rfl rfl ?_
          refine zN_ieq rfl (by omega) (by omega) (fun c13 => ?_) (fun c14 => ?_)
          · skip
            refine zG_s rfl rfl ?_
            refine zN_or rfl ?_
            refine zN_st5 rfl (fun _ _ _ => rfl) rfl ?_
            refine zN_inc7 rfl rfl ?_
            refine zG_s rfl rfl ?_
            -- leaf 4
            have e0 : zCdf n lo Q x y = 0 := if_neg (fun g => g.1 (by omega))
            rw [show zor (zCdf n lo Q x) (y + 1) = zor (zCdf n lo Q x) y from by rw [zor, e0, Nat.or_zero]] at ih30
            rw [Nat.or_zero]
            exact ih30
          · skip
            refine zG_s rfl rfl ?_
            refine zN_get rfl zRh_o rfl ?_
            refine zG_s rfl rfl ?_
            refine zG_s rfl rfl ?_
            refine zN_mul rfl ?_
            refine zG_s rfl rfl ?_
            refine zN_get rfl zRh_o rfl ?_
            refine zG_s rfl rfl ?_
            refine zR_ald (k := 7) (n := 8) rfl rfl (by omega) hq1.1 ?_
            refine zN_add rfl ?_
            refine zR_ald (k := 1) (n := 80) rfl rfl (by omega) (hS.2.2 (Q x) hq1.2).1 ?_
            refine zG_s rfl rfl ?_
            refine zN_get rfl zRh_o rfl ?_
            refine zG_s rfl rfl ?_
            refine zR_ald (k := 7) (n := 8) rfl rfl (by omega) hq2.1 ?_
            refine zG_cS1 rfl rfl (cr_has _ (by omega) (by omega)) ?_
            first | refine zN_ifb rfl (fun c15 => ?_) (fun c16 => ?_) | refine zN_eq0 rfl (by omega) (fun c15 => ?_) (fun c16 => ?_)
            · skip
              refine zG_s rfl rfl ?_
              refine zN_or rfl ?_
              refine zN_st5 rfl (fun _ _ _ => rfl) rfl ?_
              refine zN_inc7 rfl rfl ?_
              refine zG_s rfl rfl ?_
              -- leaf 5
              have e0 : zCdf n lo Q x y = 0 := if_neg (fun g => by rw [g.2] at c15; exact absurd c15 (by decide))
              rw [show zor (zCdf n lo Q x) (y + 1) = zor (zCdf n lo Q x) y from by rw [zor, e0, Nat.or_zero]] at ih30
              rw [Nat.or_zero]
              exact ih30
            · skip
              refine zG_s rfl rfl ?_
              refine zG_s rfl rfl ?_
              refine zG_s rfl rfl ?_
              refine zG_s rfl rfl ?_
              have hbo := zBo_lt n hn x (by omega) y (by omega) (by omega)
              have h20 := zn20 n hn
              refine zG_cS1 rfl rfl (cr_bitOf (by omega) (by omega) (by omega) (by omega)) ?_
              refine zN_shl rfl (by omega) ?_
              refine zG_s rfl rfl ?_
              refine zN_or rfl ?_
              refine zN_st5 rfl (fun _ _ _ => rfl) rfl ?_
              refine zN_inc7 rfl rfl ?_
              refine zG_s rfl rfl ?_
              -- leaf 6
              have e1 : zCdf n lo Q x y = 1 <<< zBo n x y := if_pos ⟨by omega, by assumption⟩
              rw [show zor (zCdf n lo Q x) (y + 1) = zor (zCdf n lo Q x) y ||| 1 <<< zBo n x y from by rw [zor, e1], ← Nat.or_assoc] at ih30
              exact ih30
      have e30 := main30 0 (by omega); rw [show zor (zCdf n lo Q x) 0 = 0 from rfl, Nat.or_zero] at e30; exact e30
  exact main20 0 (by omega) _
theorem cr_nfS {d r s n q k free c : Nat} {h : zH} {S : zRS} {lo Q : Nat → Nat} (hr : 2 ≤ r) (hS : zRs S s n lo) (hn : n < 6) (hkq : k + (q + 1) = n) (hfr : free < 256) (hQ : ∀ j, j < k → S.2.1 7 j = nI (Q j) ∧ Q j < n) (h21 : S.1 21 = nI c) (hc : c < 2 ^ 21)
    (IH : ∀ (S : zRS) (k free c : Nat) (Q : Nat → Nat), k + q = n → zRs S s n lo → free < 256 → (∀ j, j < k → S.2.1 7 j = nI (Q j) ∧ Q j < n) → S.1 21 = nI c → c < 2 ^ 21 → zCallP (d + q + 2) 225 [.ref r, .int (nI s), .int (nI k), .int (nI free)] (zRh h r S) (zRN (zRX h r S (zNfP k) (fun S1 => S1.1 21 = nI (zNf n lo q k free Q c))))) :
    zCallP (d + q + 3) 225 [.ref r, .int (nI s), .int (nI k), .int (nI free)] (zRh h r S) (zRN (zRX h r S (zNfP k) (fun S1 => S1.1 21 = nI (zNf n lo (q + 1) k free Q c)))) := by
  have hs := hS.2.1
  rw [zNf]
  generalize hG : (fun x c => if free.testBit x then zNf n lo q (k + 1) (zan free (1 <<< x)) (zupd Q k x) c else c) = G
  have hGx : ∀ x c, G x c = if free.testBit x then zNf n lo q (k + 1) (zan free (1 <<< x)) (zupd Q k x) c else c := fun x c => by rw [← hG]
  have hle : ∀ x, zNxf G x c ≤ c := fun x => by
    induction x with
    | zero => exact Nat.le_refl c
    | succ x ih =>
      rw [zNxf, hGx]
      split
      · have := (zNf_is (n := n) (lo := lo) q (k + 1) (zan free (1 <<< x)) (zupd Q k x) (zNxf G x c) (by omega)).1
        omega
      · exact ih
  refine zG_mP (t := tX10_numbersFrom) (ls0 := [.ref r, .int (nI s), .int (nI k), .int (nI free), .null, .null, .null, .null]) rfl rfl (zdnR (zdnI (zdnI (zdnI zdn0)))) rfl ?_
  refine zG_s rfl rfl ?_
  refine zN_get rfl zRh_o rfl ?_
  refine zG_s rfl rfl ?_
  refine zR_ald (k := 3) (n := 10) rfl rfl (by omega) hS.1 ?_
  refine zN_st4 rfl (fun _ _ _ => rfl) rfl ?_
  refine zG_s rfl rfl ?_
  refine zG_s rfl rfl ?_
  refine zN_ine rfl (by omega) (by omega) (fun _ => ?_) (fun c => absurd c (by omega))
  refine zG_s rfl rfl ?_
  refine zN_st5 rfl (fun _ _ _ => rfl) rfl ?_
  have main132 : ∀ x, x ≤ n → ∀ S1 : zRS, zRF (zNfP k) S S1 → S1.1 21 = nI (zNxf G x c) → zGoP (d + q + 2) tX10_numbersFrom 132 [.ref r, .int (nI s), .int (nI k), .int (nI free), .int (nI n), .int (nI x), .null, .null] [] (zRh h r S1) (zRN (zRX h r S (zNfP k) (fun S1 => S1.1 21 = nI (zNxf G n c)))) := by
    refine zdown (n) ?_ (fun x hp132 ih132 => ?_)
    · skip
      intro S1 hF1 h21
      refine zG_s rfl rfl ?_
      refine zG_s rfl rfl ?_
      refine zN_ige rfl (by omega) (by omega) (fun c3 => ?_) (fun c4 => absurd c4 (by omega))
      -- leaf 1
      exact zG_ret rfl rfl ⟨rfl, S1, rfl, hF1, h21⟩
    · skip
      intro S1 hF1 h21
      have hS1 := hS.fr (by omega) hF1 (fun k2 j g => by unfold zRsp at g; unfold zNfP; omega)
      have hQ1 : ∀ j, j < k → S1.2.1 7 j = nI (Q j) ∧ Q j < n := fun j hj => ⟨(hF1.2.1 7 j (by unfold zNfP; omega)).trans (hQ j hj).1, (hQ j hj).2⟩
      have hgx := hGx x (zNxf G x c)
      have hlx := hle x
      refine zG_s rfl rfl ?_
      refine zG_s rfl rfl ?_
      refine zN_ige rfl (by omega) (by omega) (fun c5 => absurd c5 (by omega)) (fun c6 => ?_)
      refine zG_s rfl rfl ?_
      refine zG_s rfl rfl ?_
      refine zG_cS1 rfl rfl (cr_has _ (by omega) (by omega)) ?_
      first | refine zN_ifb rfl (fun c7 => ?_) (fun c8 => ?_) | refine zN_eq0 rfl (by omega) (fun c7 => ?_) (fun c8 => ?_)
      · skip
        refine zN_inc5 rfl rfl ?_
        refine zG_s rfl rfl ?_
        -- leaf 2
        have e : zNxf G (x + 1) c = zNxf G x c := by rw [zNxf, hgx, c7]; rfl
        rw [e] at ih132
        exact ih132 _ hF1 h21
      · skip
        refine zG_s rfl rfl ?_
        refine zN_get rfl zRh_o rfl ?_
        refine zG_s rfl rfl ?_
        refine zG_s rfl rfl ?_
        refine zR_ast (k := 7) (n := 8) rfl rfl (by omega) hr ?_
        refine zG_s rfl rfl ?_
        refine zG_s rfl rfl ?_
        refine zG_s rfl rfl ?_
        refine zG_s rfl rfl ?_
        refine zN_add rfl ?_
        refine zG_s rfl rfl ?_
        refine zG_s rfl rfl ?_
        refine zG_s rfl rfl ?_
        refine zN_shl rfl (by omega) ?_
        refine zG_s rfl rfl ?_
        refine zN_not rfl ?_
        refine zN_andn rfl ?_
        have hS2 := hS1.fr (by omega) (zRF.rf.a (w := nI x) (show zNfP k 7 k from Or.inl ⟨rfl, Nat.le_refl k, by omega⟩)) (fun k2 j g => by unfold zRsp at g; unfold zNfP; omega)
        have hQ2 : ∀ j, j < k + 1 → (zRa S1 7 k (nI x)).2.1 7 j = nI (zupd Q k x j) ∧ zupd Q k x j < n := fun j hj => by
          by_cases e : j = k
          · rw [e, zRa_at, zupd_at]
            exact ⟨rfl, by omega⟩
          · rw [zRa_ne (Or.inr e), zupd_ne _ _ e]
            exact hQ1 j (by omega)
        refine zG_cQN rfl rfl zRh_o rfl rfl (IH _ (k + 1) (zan free (1 <<< x)) (zNxf G x c) (zupd Q k x) (by omega) hS2 (Nat.lt_of_le_of_lt (zan_le _ _) hfr) hQ2 h21 (by omega)) (fun h1 hB => ?_)
        obtain ⟨S2, rfl, hF2, h22⟩ := hB
        refine zN_inc5 rfl rfl ?_
        refine zG_s rfl rfl ?_
        -- leaf 3
        have e : zNxf G (x + 1) c = zNf n lo q (k + 1) (zan free (1 <<< x)) (zupd Q k x) (zNxf G x c) := by rw [zNxf, hgx, c8]; rfl
        rw [← e] at h22
        exact ih132 S2 ((hF1.a (Or.inl ⟨rfl, Nat.le_refl k, by omega⟩)).tr (hF2.mono (fun _ _ => zNfP.up))) h22
  exact main132 0 (by omega) _ zRF.rf h21
theorem cr_nf {d r s n : Nat} {h : zH} {lo : Nat → Nat} (hr : 2 ≤ r) (hn : n < 6) (hb : ∀ x, x < n → lo x < 256) : ∀ (q : Nat) (S : zRS) (k free c : Nat) (Q : Nat → Nat), k + q = n → zRs S s n lo → free < 256 → (∀ j, j < k → S.2.1 7 j = nI (Q j) ∧ Q j < n) → S.1 21 = nI c → c < 2 ^ 21 → zCallP (d + q + 2) 225 [.ref r, .int (nI s), .int (nI k), .int (nI free)] (zRh h r S) (zRN (zRX h r S (zNfP k) (fun S1 => S1.1 21 = nI (zNf n lo q k free Q c))))
  | 0, S, k, free, c, Q, hk, hS, hf, hQ, h21, hc => by
    have hk : k = n := by omega
    subst hk
    exact cr_nf0 (d := d) hr hS hn hb hQ h21 hc
  | q + 1, S, k, free, c, Q, hk, hS, hf, hQ, h21, hc => cr_nfS hr hS hn hk hf hQ h21 hc (cr_nf hr hn hb q)
theorem cr_formOf {d r s n : Nat} {h : zH} {S : zRS} {lo : Nat → Nat} (hr : 2 ≤ r) (hS : zRs S s n lo) (hn : n < 6) (hb : ∀ x, x < n → lo x < 256) : zCallP (d + 8) 226 [.ref r, .int (nI s)] (zRh h r S) (zRV (.int (nI (zFm n lo (zFac n)).1)) (zRX h r S (zNfP 0) (fun _ => True))) := by
  have hs := hS.2.1
  have hpw := zpow_le (show n ≤ 8 by omega)
  refine zG_mP (t := tX10_formOf) (ls0 := [.ref r, .int (nI s)]) rfl rfl (zdnR (zdnI zdn0)) rfl ?_
  refine zG_s rfl rfl ?_
  refine zG_s rfl rfl ?_
  refine zR_put rfl rfl rfl (fun _ => rfl) ?_
  refine zG_s rfl rfl ?_
  refine zG_s rfl rfl ?_
  refine zG_s rfl rfl ?_
  refine zG_s rfl rfl ?_
  refine zG_s rfl rfl ?_
  refine zG_cV1 rfl rfl zRh_o rfl rfl (cr_all (S := zRi S 21 (nI (1 <<< 20))) hS (by omega)) ?_
  have g := cr_nf (d := d + (5 - n)) (h := h) hr hn hb n (zRi S 21 (nI (1 <<< 20))) 0 (1 <<< n - 1) (1 <<< 20) (fun _ => 0) (by omega) hS (by omega) (fun j hj => absurd hj (by omega)) rfl (by decide)
  rw [show d + (5 - n) + n + 2 = d + 7 by omega] at g
  refine zG_cQN rfl rfl zRh_o rfl rfl g (fun h1 hB => ?_)
  obtain ⟨S1, rfl, hF1, h21⟩ := hB
  rw [zNf_fm hn] at h21
  refine zG_s rfl rfl ?_
  refine zN_get rfl zRh_o rfl ?_
  rw [h21]
  -- leaf 1
  exact zG_ret rfl rfl ⟨rfl, S1, rfl, (zRF.rf.i (Or.inr ⟨rfl, rfl⟩)).tr hF1, trivial⟩
theorem cr_form {d r : Nat} {h : zH} {S : zRS} {s : zST} {a : Int32} (hr : 2 ≤ r) (hI : zRI S s) (hW : zWT s) : zCallP (d + 9) 227 [.ref r, .int a] (zRh h r S) (zROut h r (zo_form s a)) := by
  refine zG_mP (t := tX10_form) (ls0 := [.ref r, .int a]) rfl rfl (zdnR (zdnI zdn0)) rfl ?_
  refine zG_s rfl rfl ?_
  refine zG_cS1 rfl rfl cr_isSpace ?_
  refine zN_ifb rfl (fun c1 => ?_) (fun c2 => ?_)
  · skip
    refine zG_s rfl rfl ?_
    -- leaf 1
    exact zG_ret rfl rfl (zRfin (by rw [zo_form, zb_no c1]) hI)
  · skip
    obtain ⟨i, hi, rfl⟩ := zin_of c2 (by omega)
    have hS := hI.sp i hi
    have hP := hW.1 i hi
    have hn8 := hP.1
    refine zG_s rfl rfl ?_
    refine zN_get rfl zRh_o rfl ?_
    refine zG_s rfl rfl ?_
    refine zR_ald (k := 3) (n := 10) rfl rfl (by omega) hS.1 ?_
    refine zG_s rfl rfl ?_
    refine zN_igt rfl (by omega) (by omega) (fun c3 => ?_) (fun c4 => ?_)
    · skip
      refine zG_s rfl rfl ?_
      -- leaf 2
      exact zG_ret rfl rfl (zRfin (by rw [zo_form, zb_i hi (by omega), if_pos c3]) hI)
    · skip
      refine zG_s rfl rfl ?_
      refine zG_s rfl rfl ?_
      refine zG_cQV rfl rfl zRh_o rfl rfl (cr_formOf hr hS (by omega) (fun x hx => hP.b hx)) (fun h1 hB => ?_)
      obtain ⟨S1, rfl, hF1, _⟩ := hB
      have hI := hI.fr hW hF1 (fun k j g => by unfold zNfP at g; unfold zScr; omega)
      refine zG_s rfl rfl ?_
      -- leaf 3
      exact zG_ret rfl rfl (zRfin (by rw [zo_form, zb_i hi (by omega), if_neg (by omega)]) hI)
