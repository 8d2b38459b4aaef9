/-- renumberings, as the reference finds them: over points -/
def zRfit (lo lo2 P I : Nat → Nat) (k y j : Nat) : Bool := ((lo (P j)).testBit (P k) == (lo2 (I j)).testBit y) && ((lo (P k)).testBit (P j) == (lo2 y).testBit (I j))
def zGc (lo lo2 P : Nat → Nat) : Nat → Nat → Nat → (Nat → Nat) → Nat
  | 0, _, _, _ => 1
  | q + 1, k, free, I => zsm (fun y => if free.testBit y && zAl (zRfit lo lo2 P I k y) k then zGc lo lo2 P q (k + 1) (zan free (1 <<< y)) (zupd I k y) else 0) 8
def zGf (lo lo2 P : Nat → Nat) : Nat → Nat → Nat → (Nat → Nat) → Option (Nat → Nat)
  | 0, _, _, I => some I
  | q + 1, k, free, I => zfo (fun y => if free.testBit y && zAl (zRfit lo lo2 P I k y) k then zGf lo lo2 P q (k + 1) (zan free (1 <<< y)) (zupd I k y) else none) 8
theorem zsm_le8 {f : Nat → Nat} {b n x : Nat} (h : ∀ y, f y ≤ b) (hx : x < n) : zsm f x + f x ≤ zsm f n := by
  induction n with
  | zero => omega
  | succ n ih =>
    rw [zsm]
    by_cases e : x = n
    · rw [e]; exact Nat.le_refl _
    · have := ih (by omega)
      omega
theorem zGc_le (lo lo2 P : Nat → Nat) : ∀ q k free I, zGc lo lo2 P q k free I ≤ 8 ^ q
  | 0, _, _, _ => Nat.le_refl 1
  | q + 1, k, free, I => by
    rw [zGc, Nat.pow_succ, Nat.mul_comm]
    refine zsm_le (fun y _ => ?_)
    split
    · exact zGc_le lo lo2 P q ..
    · exact Nat.zero_le _
section ZIBB
variable {d : Nat} {t : Nat → Option zI} {pc : Nat} {ls st : List Value} {h : zH} {r : zR → Prop} {nx a b c : Nat} {v : Value}
theorem zN_ibb {z : Int} {x y : Bool} (hai : t pc = some (.if_icmp .ne z, nx, a, b, c, v)) (K1 : (x == y) = false → zGoP d t a ls st h r) (K2 : (x == y) = true → zGoP d t nx ls st h r) : zGoP d t pc ls (.int (nI (b2n y)) :: .int (nI (b2n x)) :: st) h r := by
  have hx := b2n_le x
  have hy := b2n_le y
  refine zN_ine hai (by omega) (by omega) (fun e => K1 ?_) (fun e => K2 ?_)
  · cases x <;> cases y <;> first | rfl | exact absurd rfl e
  · cases x <;> cases y <;> first | rfl | exact absurd e (by decide)
end ZIBB
theorem cr_fitsSo {d r s t n n2 k y m : Nat} {h : zH} {S : zRS} {lo lo2 P I : Nat → Nat} (hS : zRs S s n lo) (hP : zPre n lo) (hT : zRs S t n2 lo2) (hP2 : zPre n2 lo2) (h14 : S.1 14 = nI s) (h15 : S.1 15 = nI t) (hk : k < m) (hm : m ≤ 8) (hp : ∀ j, j < m → S.2.1 10 j = nI (P j)) (hpn : ∀ j, j < m → P j < n) (hi : ∀ j, j < k → S.2.1 11 j = nI (I j)) (hin : ∀ j, j < k → I j < n2) (hy : y < n2) : zCall (d + 2) 219 [.ref r, .int (nI k), .int (nI y)] (zRh h r S) (some (.int (nI (b2n (zAl (zRfit lo lo2 P I k y) k)))), zRh h r S) := by
  have hn := hP.1
  have hn2 := hP2.1
  have hs := hS.2.1
  have ht := hT.2.1
  have hpk := hpn k hk
  have hlk := hP.b hpk
  have hly := hP2.b hy
  refine zG_m (t := tX10_fitsSo) (ls0 := [.ref r, .int (nI k), .int (nI y), .null, .null, .null, .null]) rfl rfl (zdnR (zdnI (zdnI zdn0))) rfl ?_
  refine zG_s rfl rfl ?_
  refine zN_st3 rfl (fun _ _ _ => rfl) rfl ?_
  refine zG_s rfl rfl ?_
  refine zN_st4 rfl (fun _ _ _ => rfl) rfl ?_
  have main5 : ∀ j, j ≤ k → ∀ x5 x6 : Value, zok1 [.ref r, .int (nI k), .int (nI y), .int (nI (b2n (zAl (zRfit lo lo2 P I k y) j))), .int (nI j), x5, x6] 6 = true → zGo (d + 1) tX10_fitsSo 5 [.ref r, .int (nI k), .int (nI y), .int (nI (b2n (zAl (zRfit lo lo2 P I k y) j))), .int (nI j), x5, x6] [] (zRh h r S) (some (.int (nI (b2n (zAl (zRfit lo lo2 P I k y) k)))), zRh h r S) := by
    refine zdown (k) ?_ (fun j hp5 ih5 => ?_)
    · skip
      intro x5 x6 e6
      refine zG_s rfl rfl ?_
      refine zG_s rfl rfl ?_
      refine zN_ige rfl (by omega) (by omega) (fun c1 => ?_) (fun c2 => absurd c2 (by omega))
      refine zG_s rfl rfl ?_
      -- leaf 1
      exact zG_retb rfl (fun k => by cases k <;> rfl) rfl
    · skip
      intro x5 x6 e6
      have hpj := hpn j (by omega)
      have hlj := hP.b hpj
      have hij := hin j hp5
      have hlij := hP2.b hij
      have hes : zAl (zRfit lo lo2 P I k y) (j + 1) = (zAl (zRfit lo lo2 P I k y) j && (((lo (P j)).testBit (P k) == (lo2 (I j)).testBit y) && ((lo (P k)).testBit (P j) == (lo2 y).testBit (I j)))) := rfl
      rw [hes] at ih5
      clear hes
      generalize zAl (zRfit lo lo2 P I k y) j = bb at *
      refine zG_s rfl rfl ?_
      refine zG_s rfl rfl ?_
      refine zN_ige rfl (by omega) (by omega) (fun c3 => absurd c3 (by omega)) (fun c4 => ?_)
      refine zG_s rfl rfl ?_
      refine zN_get rfl zRh_o rfl ?_
      refine zG_s rfl rfl ?_
      refine zR_ald (k := 10) (n := 8) rfl rfl (by omega) (hp j (by omega)) ?_
      refine zN_st5 rfl (fun _ _ _ => rfl) rfl ?_
      refine zG_s rfl rfl ?_
      refine zN_get rfl zRh_o rfl ?_
      refine zG_s rfl rfl ?_
      refine zR_ald (k := 10) (n := 8) rfl rfl (by omega) (hp k hk) ?_
      refine zN_st6 rfl (fun _ _ _ => rfl) rfl ?_
      have jn84 : True → zGo (d + 1) tX10_fitsSo 84 [.ref r, .int (nI k), .int (nI y), .int (nI (b2n bb)), .int (nI j), .int (nI (P j)), .int (nI (P k))] [.int (nI (b2n (bb && ((lo (P j)).testBit (P k) == (lo2 (I j)).testBit y))))] (zRh h r S) (some (.int (nI (b2n (zAl (zRfit lo lo2 P I k y) k)))), zRh h r S) := by
        intro _
        refine zN_st3 rfl (fun _ _ _ => rfl) rfl ?_
        refine zG_s rfl rfl ?_
        refine zN_ifb rfl (fun c5 => ?_) (fun c6 => ?_)
        · skip
          refine zG_s rfl rfl ?_
          refine zN_st3 rfl (fun _ _ _ => rfl) rfl ?_
          refine zN_inc4 rfl rfl ?_
          refine zG_s rfl rfl ?_
          -- leaf 2
          rw [← Bool.and_assoc, c5] at ih5
          exact ih5 _ _ rfl
        · skip
          refine zG_s rfl rfl ?_
          refine zN_get rfl zRh_o rfl ?_
          refine zG_s rfl rfl ?_
          refine zG_s rfl rfl ?_
          refine zN_get rfl zRh_o rfl ?_
          rw [h14]
          refine zN_mul rfl ?_
          refine zG_s rfl rfl ?_
          refine zN_add rfl ?_
          refine zR_ald (k := 1) (n := 80) rfl rfl (by omega) (hS.2.2 _ hpk).1 ?_
          refine zG_s rfl rfl ?_
          refine zG_cS1 rfl rfl (cr_has _ (by omega) (by omega)) ?_
          refine zG_s rfl rfl ?_
          refine zN_get rfl zRh_o rfl ?_
          refine zG_s rfl rfl ?_
          refine zG_s rfl rfl ?_
          refine zN_get rfl zRh_o rfl ?_
          rw [h15]
          refine zN_mul rfl ?_
          refine zG_s rfl rfl ?_
          refine zN_add rfl ?_
          refine zR_ald (k := 1) (n := 80) rfl rfl (by omega) (hT.2.2 _ hy).1 ?_
          refine zG_s rfl rfl ?_
          refine zN_get rfl zRh_o rfl ?_
          refine zG_s rfl rfl ?_
          refine zR_ald (k := 11) (n := 8) rfl rfl (by omega) (hi j hp5) ?_
          refine zG_cS1 rfl rfl (cr_has _ (by omega) (by omega)) ?_
          refine zN_ibb rfl (fun c7 => ?_) (fun c8 => ?_)
          · skip
            refine zG_s rfl rfl ?_
            refine zN_st3 rfl (fun _ _ _ => rfl) rfl ?_
            refine zN_inc4 rfl rfl ?_
            refine zG_s rfl rfl ?_
            -- leaf 3
            rw [← Bool.and_assoc, c6, c7] at ih5
            exact ih5 _ _ rfl
          · skip
            refine zG_s rfl rfl ?_
            refine zG_s rfl rfl ?_
            refine zN_st3 rfl (fun _ _ _ => rfl) rfl ?_
            refine zN_inc4 rfl rfl ?_
            refine zG_s rfl rfl ?_
            -- leaf 4
            rw [← Bool.and_assoc, c6, c8] at ih5
            exact ih5 _ _ rfl
      refine zG_s rfl rfl ?_
      refine zN_ifb rfl (fun c9 => ?_) (fun c10 => ?_)
      · skip
        refine zG_s rfl rfl ?_
        -- leaf 5
        rw [c9] at jn84 ⊢
        exact jn84 trivial
      · skip
        refine zG_s rfl rfl ?_
        refine zN_get rfl zRh_o rfl ?_
        refine zG_s rfl rfl ?_
        refine zG_s rfl rfl ?_
        refine zN_get rfl zRh_o rfl ?_
        rw [h14]
        refine zN_mul rfl ?_
        refine zG_s rfl rfl ?_
        refine zN_add rfl ?_
        refine zR_ald (k := 1) (n := 80) rfl rfl (by omega) (hS.2.2 _ hpj).1 ?_
        refine zG_s rfl rfl ?_
        refine zG_cS1 rfl rfl (cr_has _ (by omega) (by omega)) ?_
        refine zG_s rfl rfl ?_
        refine zN_get rfl zRh_o rfl ?_
        refine zG_s rfl rfl ?_
        refine zG_s rfl rfl ?_
        refine zN_get rfl zRh_o rfl ?_
        rw [h15]
        refine zN_mul rfl ?_
        refine zG_s rfl rfl ?_
        refine zN_get rfl zRh_o rfl ?_
        refine zG_s rfl rfl ?_
        refine zR_ald (k := 11) (n := 8) rfl rfl (by omega) (hi j hp5) ?_
        refine zN_add rfl ?_
        refine zR_ald (k := 1) (n := 80) rfl rfl (by omega) (hT.2.2 _ hij).1 ?_
        refine zG_s rfl rfl ?_
        refine zG_cS1 rfl rfl (cr_has _ (by omega) (by omega)) ?_
        refine zN_ibb rfl (fun c11 => ?_) (fun c12 => ?_)
        · skip
          refine zG_s rfl rfl ?_
          -- leaf 6
          rw [c10, c11] at jn84
          rw [c10]
          exact jn84 trivial
        · skip
          refine zG_s rfl rfl ?_
          refine zG_s rfl rfl ?_
          -- leaf 7
          rw [c10, c12] at jn84
          rw [c10]
          exact jn84 trivial
  exact main5 0 (by omega) _ _ rfl
/-- the state while they are counted -/
def zRnP (k k2 j : Nat) : Prop := (k2 = 11 ∧ k ≤ j ∧ j < 8) ∨ k2 = 12 ∨ (k2 = 0 ∧ j = 17)
theorem zRnP.sp {k s : Nat} : ∀ k2 j, zRsp s k2 j → ¬ zRnP k k2 j := fun k2 j h => by unfold zRsp at h; unfold zRnP; omega
theorem zRnP.up {k : Nat} : ∀ k2 j, zRnP (k + 1) k2 j → zRnP k k2 j := fun k2 j h => by unfold zRnP at *; omega
/-- what is known of the first one -/
def zFrt (m c : Nat) (o : Option (Nat → Nat)) (S S1 : zRS) : Prop := (0 < c → ∀ j, S1.2.1 12 j = S.2.1 12 j) ∧ (c = 0 → match o with
  | some J => ∀ j, j < m → S1.2.1 12 j = nI (J j)
  | none => True)
