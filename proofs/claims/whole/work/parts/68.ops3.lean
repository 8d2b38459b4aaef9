/-! what the calls answer: texts, draws, sheets, shelves, acts, what is kept -/
def zTpL (s : zST) : Nat := s.2.2.2.1.1
def zTpB (s : zST) : Nat → Nat := s.2.2.2.1.2
def zo_feed (s : zST) (e : Int64) (b : Int32) : Int32 × zST := zb1 s b 9 fun n => if 100 < s.2.2.2.1.1 + n then (-2, s) else (nI (s.2.2.2.1.1 + n), zsTp s (s.2.2.2.1.1 + n) (fun j => if j < s.2.2.2.1.1 then s.2.2.2.1.2 j else zEb e (j - s.2.2.2.1.1)))
def zo_space (s : zST) (a : Int32) : Int32 × zST := zb s (zn a 6) fun i =>
  if (zRead s.2.2.2.1.2 s.2.2.2.1.1).1 then (nI (zRead s.2.2.2.1.2 s.2.2.2.1.1).2.2.1, zsSp (zsTp s 0 s.2.2.2.1.2) i (zRead s.2.2.2.1.2 s.2.2.2.1.1).2.2.1 (zRead s.2.2.2.1.2 s.2.2.2.1.1).2.2.2)
  else (-100 - nI (zRead s.2.2.2.1.2 s.2.2.2.1.1).2.1, zsTp s 0 s.2.2.2.1.2)
def zo_seed (s : zST) (v : Int32) : Int32 × zST := (s.2.2.1.1, zsZ s v)
def zNxt (z : Int32) : Int32 := z * nI 1103515245 + nI 12345
def zTop16 (z : Int32) : Nat := z.toBitVec.toNat >>> 16
def zDr1 (v x : Nat) : Nat → Int32 × (Nat → Nat) → Int32 × (Nat → Nat)
  | 0, q => q
  | y + 1, q => if y = x then zDr1 v x y q else (zNxt (zDr1 v x y q).1, if zTop16 (zNxt (zDr1 v x y q).1) % 100 < v then zNst (zDr1 v x y q).2 x y else (zDr1 v x y q).2)
def zDr2 (v n : Nat) (q : Int32 × (Nat → Nat)) : Nat → Int32 × (Nat → Nat)
  | 0 => q
  | x + 1 => zDr1 v x n (zDr2 v n q x)
def zStr (n : Nat) (lo : Nat → Nat) : Nat := zsm (fun x => zcnt (zan (lo x) (zTr n lo x))) n
def zo_draw (s : zST) (a b c : Int32) : Int32 × zST := zb s (zn a 6) fun i => zb s (zn b 9) fun n => zb s (zn c 101) fun v => (nI (zStr n (zDr2 v n (s.2.2.1.1, zDisc) n).2), zsZ (zsSp s i n (zDr2 v n (s.2.2.1.1, zDisc) n).2) (zDr2 v n (s.2.2.1.1, zDisc) n).1)
def zShs (s : zST) (i : Nat) : Nat × Nat × (Nat → Int32) := s.2.2.2.2.1 i
def zo_sheet (s : zST) (a b c : Int32) : Int32 × zST := zb s (zn a 4) fun i => if b = -1 then (1, zsSh s i 0 (s.2.2.2.2.1 i).2.1 (s.2.2.2.2.1 i).2.2) else zb s (zn b 3) fun st => if nI 40 < c then (-1, s) else if c < 0 then (-14, s) else (1, zsSh s i (st + 1) c.toNatClampNeg (fun _ => nI 0))
def zo_put (s : zST) (a b c : Int32) : Int32 × zST := zb s (zn a 4) fun i => if (s.2.2.2.2.1 i).1 = 0 then (-11, s) else if zInr (s.2.2.2.2.1 i).2.1 b (nI 1) = false then (-12, s) else (1, zsSh s i (s.2.2.2.2.1 i).1 (s.2.2.2.2.1 i).2.1 (upd (s.2.2.2.2.1 i).2.2 b.toNatClampNeg (zNar (s.2.2.2.2.1 i).1 c)))
def zo_item (s : zST) (a b c : Int32) : Int32 × zST := zb s (zn a 4) fun i => zb s (zn b 3) fun st => if (s.2.2.2.2.1 i).1 = 0 then (-11, s) else if (s.2.2.2.2.1 i).1 ≠ st + 1 then (-13, s) else if zInr (s.2.2.2.2.1 i).2.1 c (nI 1) = false then (-12, s) else ((s.2.2.2.2.1 i).2.2 c.toNatClampNeg, s)
def zo_copy (s : zST) (a b c e g : Int32) : Int32 × zST := zb s (zn a 4) fun i => zb s (zn c 4) fun k => if (s.2.2.2.2.1 i).1 = 0 ∨ (s.2.2.2.2.1 k).1 = 0 then (-11, s) else if (s.2.2.2.2.1 i).1 ≠ (s.2.2.2.2.1 k).1 then (-13, s)
  else if zInr (s.2.2.2.2.1 i).2.1 b g = false ∨ zInr (s.2.2.2.2.1 k).2.1 e g = false then (-12, s) else (g, zsSh s k (s.2.2.2.2.1 k).1 (s.2.2.2.2.1 k).2.1 (va_cpy (s.2.2.2.2.1 i).2.2 (s.2.2.2.2.1 k).2.2 b.toNatClampNeg e.toNatClampNeg g.toNatClampNeg))
def zRfs (st ln : Nat) (i : Int32) (n : Nat) : Option Int32 := if st = 0 then some (-11) else if st = 3 then some (-13) else if zInr ln i (nI n) = false then some (-12) else none
def zLay (st n : Nat) (lo : Nat → Nat) (p : Nat) (f : Nat → Int32) : Nat → (Nat → Int32)
  | 0 => f
  | x + 1 => upd (zLay st n lo p f x) (p + x) (zNar st (nI (lo x)))
def zo_lay (s : zST) (a b c : Int32) : Int32 × zST := zb s (zn a 6) fun i => zb s (zn b 4) fun k => match zRfs (s.2.2.2.2.1 k).1 (s.2.2.2.2.1 k).2.1 c (s.1 i).1 with
  | some w => (w, s)
  | none => (nI (s.1 i).1, zsSh s k (s.2.2.2.2.1 k).1 (s.2.2.2.2.1 k).2.1 (zLay (s.2.2.2.2.1 k).1 (s.1 i).1 (s.1 i).2 c.toNatClampNeg (s.2.2.2.2.1 k).2.2 (s.1 i).1))
/-- bit y of an int -/
def zhb (x : Int32) (y : Nat) : Bool := x.toBitVec.toNat.testBit y
def zTk1 (w : Int32) (x : Nat) : Nat → (Nat → Nat) → (Nat → Nat)
  | 0, lo => lo
  | y + 1, lo => if zhb w y then zNst (zTk1 w x y lo) x y else zTk1 w x y lo
def zTk2 (f : Nat → Int32) (p n : Nat) (lo : Nat → Nat) : Nat → (Nat → Nat)
  | 0 => lo
  | x + 1 => zTk1 (f (p + x)) x n (zTk2 f p n lo x)
def zo_take (s : zST) (a b c e : Int32) : Int32 × zST := zb s (zn a 4) fun k => zb s (zn c 9) fun n => zb s (zn e 6) fun i => match zRfs (s.2.2.2.2.1 k).1 (s.2.2.2.2.1 k).2.1 b n with
  | some w => (w, s)
  | none => (nI (zStr n (zTk2 (s.2.2.2.2.1 k).2.2 b.toNatClampNeg n zDisc n)), zsSp s i n (zTk2 (s.2.2.2.2.1 k).2.2 b.toNatClampNeg n zDisc n))
def zo_shelf (s : zST) (a b c : Int32) : Int32 × zST := zb s (zn a 4) fun i => zb s (zn b 3) fun w => if w = 0 then zb s (zn c 6) fun k => (1, zsHv s i (k + 1) (s.2.2.2.2.2.1 i).2) else if w = 1 then zb s (zn c 4) fun k => if (s.2.2.2.2.1 k).1 = 0 then (1, zsHv s i 0 (s.2.2.2.2.2.1 i).2) else (1, zsHv s i (10 + (s.2.2.2.2.1 k).1) (s.2.2.2.2.1 k).2.1) else (1, zsHv s i 0 (s.2.2.2.2.2.1 i).2)
def zTkn (c l k : Nat) : Int32 := if c = 0 then -11 else if 10 ≤ k then (if c - 1 = k then nI l else -13) else (if c ≤ 6 ∧ zUnd (c - 1) k = true then nI (c - 1) else -13)
def zo_taken (s : zST) (a b : Int32) : Int32 × zST := zb s (zn a 4) fun i => zb s (zn b 13) fun k => if 6 ≤ k ∧ k < 10 then (-1, s) else (zTkn (s.2.2.2.2.2.1 i).1 (s.2.2.2.2.2.1 i).2 k, s)
def zAct (w : Nat) (b c : Int32) : Int32 × List Nat := match zn b 3 with
  | some 0 => zGoK w (nI w) c
  | some 1 => zPaK w w c
  | some 2 => zTeK w w c
  | _ => (nI 0, [])
def zo_act (s : zST) (a b c : Int32) : Int32 × zST := match zn a 4 with
  | none => (0, zsTr s [])
  | some i => if 1 ≤ (s.2.2.2.2.2.1 i).1 ∧ (s.2.2.2.2.2.1 i).1 ≤ 6 then ((zAct ((s.2.2.2.2.2.1 i).1 - 1) b c).1, zsTr s (zAct ((s.2.2.2.2.2.1 i).1 - 1) b c).2) else (0, zsTr s [])
def zo_trace (s : zST) (a : Int32) : Int32 × zST := (if zin a s.2.2.2.2.2.2.length then nI (s.2.2.2.2.2.2.getD a.toNatClampNeg 0) else -3, s)
def zPlain (n : Nat) (lo : Nat → Nat) : Bool := decide (zFst n lo (zTr n lo) = 1 <<< n - 1)
def zMany (s : zST) : Nat → Int32
  | 0 => nI (zct (fun i => decide (0 < (s.1 i).1)) 6)
  | 1 => nI (zsm (fun i => (s.1 i).1) 6)
  | 2 => nI (zbits (fun i => zPlain (s.1 i).1 (s.1 i).2) 6)
  | 3 => nI s.2.2.2.1.1
  | _ => nI s.2.2.2.2.2.2.length
def zo_many (s : zST) (a : Int32) : Int32 × zST := zb s (zn a 5) fun w => (zMany s w, s)
def zo_keep (s : zST) : Int32 × zST := (1, (s.1, s.1, (s.2.2.1.1, s.2.2.1.1, true), s.2.2.2))
def zo_again (s : zST) : Int32 × zST := if s.2.2.1.2.2 then (nI (zsm (fun i => (s.2.1 i).1) 6), (s.2.1, s.2.1, (s.2.2.1.2.1, s.2.2.1.2.1, true), s.2.2.2)) else (-3, s)
theorem zhb_n {w y : Nat} (hw : w < 2 ^ 32) : zhb (nI w) y = w.testBit y := by unfold zhb; rw [pk_tn hw]
theorem zhas_i : ∀ (x : Int32) (y : Nat), y < 32 → (x >>> (nI y &&& 31)) &&& nI 1 = nI (b2n (zhb x y)) := by
  intro x y hy
  have hk := nI_cnt y hy
  apply Int32.toBitVec_inj.mp
  apply BitVec.eq_of_getLsbD_eq
  intro i hi
  rw [Int32.toBitVec_and, BitVec.getLsbD_and]
  have h1 : (x >>> (nI y &&& 31)).toBitVec = x.toBitVec.sshiftRight y := by
    show x.toBitVec.sshiftRight ((nI y &&& 31).toBitVec.smod 32).toNat = _
    rw [hk]
  have e1 : ∀ j, j < 32 → (nI 1).toBitVec.getLsbD j = decide (j = 0) := by decide +kernel
  have e2 : ∀ j, j < 32 → (nI 0).toBitVec.getLsbD j = false := by decide +kernel
  rw [h1, e1 i hi]
  by_cases hi0 : i = 0
  · subst hi0
    have hz : zhb x y = x.toBitVec.getLsbD y := rfl
    rw [BitVec.getLsbD_sshiftRight, if_pos (by omega), Nat.add_zero, hz]
    generalize x.toBitVec.getLsbD y = b
    cases b with
    | false => decide +kernel
    | true => decide +kernel
  · rw [decide_eq_false hi0, Bool.and_false]
    cases zhb x y with
    | false => exact (e2 i hi).symm
    | true => rw [show nI (b2n true) = nI 1 from rfl, e1 i hi, decide_eq_false hi0]
theorem ztop {z : Int32} : (z.toUInt32 >>> ((nI 16).toUInt32 &&& Int32.toUInt32 31)).toInt32 = nI (zTop16 z) := by
  obtain ⟨w, hw, rfl⟩ := zw32 z
  rw [nI_ushr hw (by decide)]
  unfold zTop16
  rw [pk_tn hw]
theorem ztop_lt (z : Int32) : zTop16 z < 65536 := by
  unfold zTop16
  have := z.toBitVec.isLt
  rw [Nat.shiftRight_eq_div_pow]
  omega
theorem zf15 {x : Int32} : zin (x - nI 1) 15 = true ↔ ∃ F, 1 ≤ F ∧ F ≤ 15 ∧ x = nI F := by
  constructor
  · intro h
    obtain ⟨v, hv, e⟩ := zin_of h (by decide)
    refine ⟨v + 1, by omega, by omega, ?_⟩
    have := congrArg (fun z => z + nI 1) e
    rw [← nI_add]
    simpa [Int32.sub_add_cancel] using this
  · rintro ⟨F, h1, h2, rfl⟩
    rw [pk_sub h1]
    exact zin_n (by omega) (by decide)
theorem zfct {x : Int32} (h1 : zc2 .lt x (nI 1) = false) (h2 : zc2 .le x (nI 15) = true) : ∃ F, F ≤ 15 ∧ 1 ≤ F ∧ x = nI F := by
  obtain ⟨F, a, b, c⟩ := zraw1_le (n := 15) (by decide) h1 h2
  exact ⟨F, by omega, b, c⟩
theorem zfF {f : Nat → Int32} {i n : Nat} (h : zAl (fun k => zin (f (i + k) - nI 1) 15) n = true) : ∀ j, j < n → f (i + j) = nI (f (i + j)).toNatClampNeg ∧ 1 ≤ (f (i + j)).toNatClampNeg ∧ (f (i + j)).toNatClampNeg ≤ 15 := fun j hj => by
  obtain ⟨F, h1, h2, e⟩ := zf15.mp (zAl_iff.mp h j hj)
  rw [e, nI_cl (by omega)]
  exact ⟨rfl, h1, h2⟩
theorem zFc1_cg {F G : Nat → Nat} {n s : Nat} (h : ∀ j, j < n → F j = G j) : zFc1 F n s = zFc1 G n s := by
  unfold zFc1
  rw [zAl_cong (q := fun j => !decide (zan s (G j) = 0)) (fun j hj => by
    show (!decide (zan s (F j) = 0)) = (!decide (zan s (G j) = 0))
    rw [h j hj])]
section ZSO
variable {d : Nat} {t : Nat → Option zI} {pc : Nat} {ls st : List Value} {h : zH} {r : zR → Prop} {nx a b c : Nat} {v : Value} {z : Int} {k so : Nat}
theorem zbv_m1 (hs : so < 2 ^ 31) : zbv so = -1 ↔ so = 0 := by
  unfold zbv
  split
  · next e => exact ⟨fun _ => e, fun _ => rfl⟩
  · next e => exact ⟨fun g => absurd g (znm1 (by omega)), fun g => absurd g e⟩
theorem zN_sne1 (hai : t pc = some (.if_icmp .ne z, nx, a, b, c, v)) (hs : so < 2 ^ 31) (K1 : so ≠ 0 → zGoP d t a ls st h r) (K2 : so = 0 → zGoP d t nx ls st h r) : zGoP d t pc ls (.int (-1) :: .int (zbv so) :: st) h r := by
  refine zN_if2 hai (fun q => K1 ?_) (fun q => K2 ?_)
  · exact fun e => (of_decide_eq_true q : ¬ zbv so = -1) ((zbv_m1 hs).mpr e)
  · exact (zbv_m1 hs).mp (Decidable.not_not.mp (of_decide_eq_false q))
theorem zN_seq1 (hai : t pc = some (.if_icmp .eq z, nx, a, b, c, v)) (hs : so < 2 ^ 31) (K1 : so = 0 → zGoP d t a ls st h r) (K2 : so ≠ 0 → zGoP d t nx ls st h r) : zGoP d t pc ls (.int (-1) :: .int (zbv so) :: st) h r := by
  refine zN_if2 hai (fun q => K1 ?_) (fun q => K2 ?_)
  · exact (zbv_m1 hs).mp (of_decide_eq_true q)
  · exact fun e => (of_decide_eq_false q : ¬ zbv so = -1) ((zbv_m1 hs).mpr e)
theorem zN_seqk (hai : t pc = some (.if_icmp .eq z, nx, a, b, c, v)) (hk : k < 2 ^ 31) (hs : so < 2 ^ 31) (K1 : so = k + 1 → zGoP d t a ls st h r) (K2 : so ≠ k + 1 → zGoP d t nx ls st h r) : zGoP d t pc ls (.int (nI k) :: .int (zbv so) :: st) h r := by
  refine zN_if2 hai (fun q => K1 ?_) (fun q => K2 ?_)
  · exact (zbv_in hk hs).mp (of_decide_eq_true q)
  · exact fun e => (of_decide_eq_false q : ¬ zbv so = nI k) ((zbv_in hk hs).mpr e)
theorem zN_snek (hai : t pc = some (.if_icmp .ne z, nx, a, b, c, v)) (hk : k < 2 ^ 31) (hs : so < 2 ^ 31) (K1 : so ≠ k + 1 → zGoP d t a ls st h r) (K2 : so = k + 1 → zGoP d t nx ls st h r) : zGoP d t pc ls (.int (nI k) :: .int (zbv so) :: st) h r := by
  refine zN_if2 hai (fun q => K1 ?_) (fun q => K2 ?_)
  · exact fun e => (of_decide_eq_true q : ¬ zbv so = nI k) ((zbv_in hk hs).mpr e)
  · exact (zbv_in hk hs).mp (Decidable.not_not.mp (of_decide_eq_false q))
theorem zN_seqs {s2 : Nat} (hai : t pc = some (.if_icmp .eq z, nx, a, b, c, v)) (h2 : s2 < 2 ^ 31) (hs : so < 2 ^ 31) (K1 : so = s2 → zGoP d t a ls st h r) (K2 : so ≠ s2 → zGoP d t nx ls st h r) : zGoP d t pc ls (.int (zbv s2) :: .int (zbv so) :: st) h r := by
  have key : zbv so = zbv s2 ↔ so = s2 := by
    constructor
    · intro e
      rcases Nat.eq_zero_or_pos s2 with g | g
      · subst g; exact (zbv_m1 hs).mp e
      · obtain ⟨j, rfl⟩ : ∃ j, s2 = j + 1 := ⟨s2 - 1, by omega⟩
        exact (zbv_in (by omega) hs).mp e
    · intro e; rw [e]
  refine zN_if2 hai (fun q => K1 ?_) (fun q => K2 ?_)
  · exact key.mp (of_decide_eq_true q)
  · exact fun e => (of_decide_eq_false q : ¬ zbv so = zbv s2) (key.mpr e)
end ZSO
theorem zInr_p {ln n : Nat} {i : Int32} (hl : ln ≤ 40) (h : zInr ln i (nI n) = true) (hn : n < 2 ^ 31) : ∃ p, p + n ≤ ln ∧ i = nI p := by
  unfold zInr at h
  rw [Bool.and_eq_true] at h
  obtain ⟨p, hp, rfl⟩ := zin_of h.1 (by omega)
  rw [nI_cl (by omega)] at h
  obtain ⟨m, hm, e⟩ := zin_of h.2 (by omega)
  have := (nI_inj hn (by omega)).mp e
  exact ⟨p, by omega, rfl⟩
theorem zInr_q {ln : Nat} {i n : Int32} (hl : ln ≤ 40) (h : zInr ln i n = true) : ∃ p m, p + m ≤ ln ∧ i = nI p ∧ n = nI m := by
  unfold zInr at h
  rw [Bool.and_eq_true] at h
  obtain ⟨p, hp, rfl⟩ := zin_of h.1 (by omega)
  rw [nI_cl (by omega)] at h
  obtain ⟨m, hm, e⟩ := zin_of h.2 (by omega)
  exact ⟨p, m, by omega, rfl, e⟩
theorem zCI.sp9 {h : zH} {s : zST} {i n : Nat} {lo : Nat → Nat} {z : Int32} (hI : zCI h (zsZ (zsSp s i n lo) z)) (hi : i < 6) : zSq h (68 + 6 * i) n lo := by
  have this : zSq h (68 + 6 * i) (if i = i then (n, lo) else s.1 i).1 (if i = i then (n, lo) else s.1 i).2 := hI.sp i hi
  rw [if_pos rfl] at this
  exact this
theorem zsSp2 {s : zST} {i n m : Nat} {lo l2 : Nat → Nat} {z : Int32} : zsSp (zsZ (zsSp s i n lo) z) i m l2 = zsZ (zsSp s i m l2) z := by
  unfold zsSp zsZ
  have e : (fun j => if j = i then (m, l2) else (if j = i then (n, lo) else s.1 j)) = (fun j => if j = i then (m, l2) else s.1 j) := by
    funext j
    by_cases g : j = i
    · rw [if_pos g, if_pos g]
    · rw [if_neg g, if_neg g, if_neg g]
  show ((fun j => if j = i then (m, l2) else (if j = i then (n, lo) else s.1 j)), _) = _
  rw [e]
theorem zDr1_pre {v x n : Nat} {q : Int32 × (Nat → Nat)} (hP : zPre n q.2) : ∀ y, y ≤ n → zPre n (zDr1 v x y q).2
  | 0, _ => hP
  | y + 1, hy => by
    have ih := zDr1_pre (v := v) (x := x) hP y (by omega)
    rw [zDr1]
    split
    · exact ih
    · show zPre n (if _ then _ else _)
      split
      · exact ih.nst (by omega)
      · exact ih
theorem zDr2_pre {v n : Nat} {q : Int32 × (Nat → Nat)} (hP : zPre n q.2) : ∀ x, zPre n (zDr2 v n q x).2
  | 0 => hP
  | x + 1 => zDr1_pre (zDr2_pre hP x) n (Nat.le_refl n)
theorem zTk1_pre {w : Int32} {x n : Nat} {lo : Nat → Nat} (hP : zPre n lo) : ∀ y, y ≤ n → zPre n (zTk1 w x y lo)
  | 0, _ => hP
  | y + 1, hy => by
    have ih := zTk1_pre (w := w) (x := x) hP y (by omega)
    rw [zTk1]
    split
    · exact ih.nst (by omega)
    · exact ih
theorem zTk2_pre {f : Nat → Int32} {p n : Nat} {lo : Nat → Nat} (hP : zPre n lo) : ∀ x, zPre n (zTk2 f p n lo x)
  | 0 => hP
  | x + 1 => zTk1_pre (zTk2_pre hP x) n (Nat.le_refl n)
theorem zsort3 {b : Int32} (h1 : zc2 .lt b (-1) = false) (h2 : zc2 .le b (nI 2) = true) : b = -1 ∨ zin b 3 = true := by
  by_cases g : zc1 .ge b = false
  · exact Or.inl (zs_m1 h1 g)
  · right
    have g : zc1 .ge b = true := by simpa using g
    have g2 : ¬ b < 0 := Int32.not_lt.mpr (of_decide_eq_true g)
    exact zraw_le (n := 2) (by decide) (decide_eq_false g2) h2
theorem zc40 {c : Int32} (h1 : zc2 .le c (nI 40) = true) (h2 : zc1 .ge c = true) : ∃ m, m ≤ 40 ∧ c = nI m := by
  obtain ⟨m, hm, e⟩ := zin_of (zraw_le (n := 40) (by decide) (decide_eq_false (Int32.not_lt.mpr (of_decide_eq_true h2))) h1) (by decide)
  exact ⟨m, by omega, e⟩
theorem zle_lt {x y : Int32} (h : zc2 .le x y = true) : ¬ y < x := Int32.not_lt.mpr (of_decide_eq_true h)
theorem znle_lt {x y : Int32} (h : zc2 .le x y = false) : y < x := Int32.not_le.mp (of_decide_eq_false h)
theorem zge_lt {x : Int32} (h : zc1 .ge x = true) : ¬ x < 0 := Int32.not_lt.mpr (of_decide_eq_true h)
theorem znge_lt {x : Int32} (h : zc1 .ge x = false) : x < 0 := Int32.not_le.mp (of_decide_eq_false h)
theorem zRfs_neg {st ln n : Nat} {i w : Int32} (h : zRfs st ln i n = some w) : zc1 .ge w = false := by
  unfold zRfs at h
  split at h
  · cases h; decide
  · split at h
    · cases h; decide
    · split at h
      · cases h; decide
      · cases h
theorem zRfs_no {st ln n : Nat} {i : Int32} (h : zRfs st ln i n = none) : st ≠ 0 ∧ st ≠ 3 ∧ zInr ln i (nI n) = true := by
  unfold zRfs at h
  split at h
  · cases h
  · next g1 =>
    split at h
    · cases h
    · next g2 =>
      split at h
      · cases h
      · next g3 => exact ⟨g1, g2, by simpa using g3⟩
theorem zN_cpy {d : Nat} {t : Nat → Option zI} {pc : Nat} {ls st : List Value} {h : zH} {r : zR → Prop} {nx a b m : Nat} {v : Value} {qa qb sp dp k n0 n1 : Nat} {f g : Nat → Int32} (hai : t pc = some (.invokestatic m, nx, a, b, 2, v)) (ha : h.2.2 qa = .inl (0, n0, .inl f)) (hb : h.2.2 qb = .inl (0, n1, .inl g)) (h1 : sp + k ≤ n0) (h2 : dp + k ≤ n1) (h3 : n0 < 1000) (h4 : n1 < 1000) (h5 : 2 ≤ qa) (h6 : 2 ≤ qb) (hr : Nat.ble st.length 4 = true) (K : zGoP d t nx ls st (zset h qb (.inl (0, n1, .inl (va_cpy f g sp dp k)))) r) : zGoP d t pc ls (.int (nI k) :: .int (nI dp) :: .ref qb :: .int (nI sp) :: .ref qa :: st) h r := by
  refine zG_s hai (pc' := nx) (ls' := ls) (st' := st) (h' := zset h qb (.inl (0, n1, .inl (va_cpy f g sp dp k)))) ?_ K
  show zcpy nx ls (.int (nI k) :: .int (nI dp) :: .ref qb :: .int (nI sp) :: .ref qa :: st) h = _
  have e : ∀ j, j < 1000 → (nI j).toNatClampNeg = j ∧ decide (0 ≤ (nI j).toInt) = true := fun j hj => by
    refine ⟨nI_cl (by omega), decide_eq_true ?_⟩
    have h0 := nI_pos (show j < 2 ^ 31 by omega)
    have e0 : (0 : Int32).toInt = 0 := by decide
    have h1 : ¬ (nI j).toInt < (0 : Int32).toInt := fun g => h0 (Int32.lt_iff_toInt_lt.mpr g)
    omega
  obtain ⟨e1, e2⟩ := e sp (by omega)
  obtain ⟨e3, e4⟩ := e dp (by omega)
  obtain ⟨e5, e6⟩ := e k (by omega)
  simp only [zcpy, ha, hb, e1, e2, e3, e4, e5, e6, Nat.ble_eq_true_of_le h1, Nat.ble_eq_true_of_le h2, Nat.ble_eq_true_of_le h5, Nat.ble_eq_true_of_le h6, hr]
  rfl
theorem zcpy_cg {f f' g g' : Nat → Int32} {sp dp n j : Nat} (hf : ∀ q, sp ≤ q → q < sp + n → f q = f' q) (hg : g j = g' j) : va_cpy f g sp dp n j = va_cpy f' g' sp dp n j := by
  unfold va_cpy
  split
  · exact hf _ (by omega) (by omega)
  · exact hg
theorem zHvI_s {c : Nat} (h : c ≠ 0) : zHvI c = nI (c - 1) := if_neg h
theorem zHvI_0 {c : Nat} (h : c = 0) : zHvI c = -11 := if_pos h
theorem zHvI_ge {c : Nat} (hc : c < 2 ^ 31) : zc1 .ge (zHvI c) = decide (c ≠ 0) := by
  by_cases e : c = 0
  · subst e; rfl
  · rw [zHvI_s e, decide_eq_true e]
    exact decide_eq_true (Int32.not_lt.mp (nI_pos (by omega)))
theorem zHvI_k {c : Nat} (hc : c < 2 ^ 31) : zin (zHvI c) 6 = decide (1 ≤ c ∧ c ≤ 6) := by
  by_cases e : c = 0
  · subst e; rfl
  · rw [zHvI_s e]
    cases q : zin (nI (c - 1)) 6 with
    | true =>
      obtain ⟨j, hj, e2⟩ := zin_of q (by decide)
      have := (nI_inj (by omega) (by omega)).mp e2
      exact (decide_eq_true (by omega)).symm
    | false =>
      refine (decide_eq_false (fun g => ?_)).symm
      rw [zin_n (by omega) (by decide)] at q
      cases q
theorem zn_none {x : Int32} {n : Nat} (h : zin x n = false) : zn x n = none := zn_no h
theorem zKp_s {s : zST} {i : Nat} : ((s.1, (fun j => if j = i then ((s.1 i).1, (s.1 i).2) else (if j < i then s.1 j else s.2.1 j)), s.2.2) : zST) = (s.1, (fun j => if j < i + 1 then s.1 j else s.2.1 j), s.2.2) := by
  have e : (fun j => if j = i then ((s.1 i).1, (s.1 i).2) else (if j < i then s.1 j else s.2.1 j)) = (fun j => if j < i + 1 then s.1 j else s.2.1 j) := by
    funext j
    by_cases g : j = i
    · subst g; rw [if_pos rfl, if_pos (by omega)]
    · rw [if_neg g]
      by_cases g2 : j < i
      · rw [if_pos g2, if_pos (by omega)]
      · rw [if_neg g2, if_neg (by omega)]
  rw [e]
/-- of rows of spaces the first six count alone -/
theorem zCI.kp6 {h : zH} {s : zST} {Q : Nat → Nat × (Nat → Nat)} (hI : zCI h s) (e : ∀ i, i < 6 → s.2.1 i = Q i) : zCI h (s.1, Q, s.2.2) := by
  have h1 : zc_kp h Q := fun i hi => by rw [← e i hi]; exact hI.kp i hi
  exact ⟨hI.ob, hI.as, hI.ak, hI.wk, hI.go, hI.ma, hI.fe, hI.co, hI.se, hI.ta, hI.ac, hI.ah, hI.sv, hI.sp, h1, hI.sh, hI.ka⟩
theorem zCI.sp6 {h : zH} {s : zST} {Q : Nat → Nat × (Nat → Nat)} (hI : zCI h s) (e : ∀ i, i < 6 → s.1 i = Q i) : zCI h (Q, s.2) := by
  have h1 : zc_sp h Q := fun i hi => by rw [← e i hi]; exact hI.sp i hi
  exact ⟨hI.ob, hI.as, hI.ak, hI.wk, hI.go, hI.ma, hI.fe, hI.co, hI.se, hI.ta, hI.ac, hI.ah, hI.sv, h1, hI.kp, hI.sh, hI.ka⟩
theorem zSp_s9 {s : zST} {i : Nat} : (((fun j => if j = i then ((s.2.1 i).1, (s.2.1 i).2) else (if j < i then s.2.1 j else s.1 j)), s.2) : zST) = ((fun j => if j < i + 1 then s.2.1 j else s.1 j), s.2) := by
  have e : (fun j => if j = i then ((s.2.1 i).1, (s.2.1 i).2) else (if j < i then s.2.1 j else s.1 j)) = (fun j => if j < i + 1 then s.2.1 j else s.1 j) := by
    funext j
    by_cases g : j = i
    · subst g; rw [if_pos rfl, if_pos (by omega)]
    · rw [if_neg g]
      by_cases g2 : j < i
      · rw [if_pos g2, if_pos (by omega)]
      · rw [if_neg g2, if_neg (by omega)]
  rw [e]
theorem zSv_up {V : Nat → Nat × Nat} {f g : Nat → Int32} {i c l : Nat} {w : Int32} (h : ∀ j, j < 4 → f j = zHvI (V j).1 ∧ (11 ≤ (V j).1 → g j = nI (V j).2)) (hw : w = zHvI c) (hg : 11 ≤ c → g i = nI l) : ∀ j, j < 4 → upd f i w j = zHvI (if j = i then (c, l) else V j).1 ∧ (11 ≤ (if j = i then (c, l) else V j).1 → g j = nI (if j = i then (c, l) else V j).2) := by
  intro j hj
  by_cases e : j = i
  · subst e
    rw [upd_at, if_pos rfl]
    exact ⟨hw, hg⟩
  · rw [upd_ne _ _ e, if_neg e]
    exact h j hj
theorem zSv_up2 {V : Nat → Nat × Nat} {f g : Nat → Int32} {i c l : Nat} {w : Int32} (h : ∀ j, j < 4 → f j = zHvI (V j).1 ∧ (11 ≤ (V j).1 → g j = nI (V j).2)) (hw : w = zHvI c) : ∀ j, j < 4 → upd f i w j = zHvI (if j = i then (c, l) else V j).1 ∧ (11 ≤ (if j = i then (c, l) else V j).1 → upd g i (nI l) j = nI (if j = i then (c, l) else V j).2) := by
  intro j hj
  by_cases e : j = i
  · subst e
    rw [upd_at, upd_at, if_pos rfl]
    exact ⟨hw, fun _ => rfl⟩
  · rw [upd_ne _ _ e, upd_ne _ _ e, if_neg e]
    exact h j hj
theorem zb12 {b : Int32} (h1 : zc2 .lt b (nI 10) = false) (h2 : zc2 .gt b (nI 12) = false) : zin b 13 = true := by
  refine zraw_in2 (n := 12) (by decide) ?_ h2
  have h1 : ¬ b < nI 10 := of_decide_eq_false h1
  refine decide_eq_false (fun g => h1 ?_)
  have a := Int32.lt_iff_toInt_lt.mp g
  refine Int32.lt_iff_toInt_lt.mpr ?_
  have e1 : (0 : Int32).toInt = 0 := by decide
  have e2 : (nI 10).toInt = 10 := by decide
  omega
theorem zHvI_eq {c k : Nat} (hc : c < 2 ^ 31) (hk : k < 2 ^ 31) (h0 : c ≠ 0) : zc2 .ne (zHvI c) (nI k) = decide (c - 1 ≠ k) := by
  rw [zHvI_s h0]
  show decide (¬ nI (c - 1) = nI k) = _
  rw [decide_eq_decide, nI_inj (by omega) hk]
