/-! the class' Matcher -/
def zmS (o : Nat) : Nat → Prop := fun j => o ≤ j ∧ j ≤ o + 7
theorem zmS_in {o k : Nat} (h : k ≤ 7) : zmS o (o + k) := ⟨by omega, by omega⟩
def zM0 (h : zH) (o nA nB : Nat) (ex fe : Bool) (fl fh tl th : Nat → Nat) (im : Nat → Int32) : Prop :=
  h.2.2 o = .inr (4, [.ref (o + 1), .ref (o + 4), .ref (o + 7), .int (nI (b2n ex)), .int (nI (b2n fe))]) ∧ h.2.2 (o + 7) = .inl (0, 8, .inl im) ∧ zSp h (o + 1) nA fl fh ∧ zSp h (o + 4) nB tl th
theorem zM0.p_im {h : zH} {o nA nB : Nat} {ex fe : Bool} {fl fh tl th : Nat → Nat} {im q : Nat → Int32} (hM : zM0 h o nA nB ex fe fl fh tl th im) : zM0 (zset h (o + 7) (.inl (0, 8, .inl q))) o nA nB ex fe fl fh tl th q := by
  obtain ⟨h1, h2, ⟨h3, a, b, h4, h5, h6⟩, ⟨h7, a', b', h8, h9, h10⟩⟩ := hM
  refine ⟨?_, zset_eq _ _ _, ⟨?_, a, b, ?_, ?_, h6⟩, ⟨?_, a', b', ?_, ?_, h10⟩⟩
  all_goals (rw [zset_ne _ _ (by omega)]; assumption)
def zCh1 (ex b : Bool) (open9 s : Nat) : Nat := if b then open9 &&& s else if ex then zan open9 s else open9
def zCho (ex : Bool) (nB : Nat) (fl fh tl th I : Nat → Nat) (k u : Nat) : Nat → Nat
  | 0 => if ex then zan (1 <<< nB - 1) u else 1 <<< nB - 1
  | j + 1 => zCh1 ex ((fh k).testBit j) (zCh1 ex ((fl k).testBit j) (zCho ex nB fl fh tl th I k u j) (th (I j))) (tl (I j))
theorem zCh1_le (ex b : Bool) (a s : Nat) : zCh1 ex b a s ≤ a := by
  unfold zCh1
  split
  · exact Nat.and_le_left
  · split
    · exact zan_le _ _
    · exact Nat.le_refl _
theorem zCho_le (ex : Bool) (nB : Nat) (fl fh tl th I : Nat → Nat) (k u : Nat) : ∀ j, zCho ex nB fl fh tl th I k u j ≤ 1 <<< nB - 1
  | 0 => by
    unfold zCho
    split
    · exact zan_le _ _
    · exact Nat.le_refl _
  | j + 1 => Nat.le_trans (zCh1_le ..) (Nat.le_trans (zCh1_le ..) (zCho_le ex nB fl fh tl th I k u j))
theorem zCho_cong {ex : Bool} {nB : Nat} {fl fh tl th I J : Nat → Nat} {k u : Nat} : ∀ {j}, (∀ i, i < j → I i = J i) → zCho ex nB fl fh tl th I k u j = zCho ex nB fl fh tl th J k u j
  | 0, _ => rfl
  | j + 1, h => by rw [zCho, zCho, zCho_cong (fun i hi => h i (by omega)), h j (by omega)]
/-- how many ways to fill the rest -/
def zFc (ex : Bool) (nB : Nat) (fl fh tl th : Nat → Nat) : Nat → Nat → Nat → (Nat → Nat) → Nat
  | 0, _, _, _ => 1
  | r + 1, k, u, I => if r = 0 then zcnt (zCho ex nB fl fh tl th I k u k) else zsm (fun y => if (zCho ex nB fl fh tl th I k u k).testBit y then zFc ex nB fl fh tl th r (k + 1) (u ||| 1 <<< y) (zupd I k y) else 0) nB
/-- the first of some -/
def zfo {α : Type} (f : Nat → Option α) : Nat → Option α
  | 0 => none
  | n + 1 => match zfo f n with
    | some v => some v
    | none => f n
theorem zfo_more {α : Type} {f : Nat → Option α} {v : α} {m : Nat} (h : zfo f m = some v) : ∀ k, zfo f (m + k) = some v
  | 0 => h
  | k + 1 => by show (match zfo f (m + k) with | some v => some v | none => f (m + k)) = _; rw [zfo_more h k]
/-- the first way to fill the rest -/
def zFf (ex : Bool) (nB : Nat) (fl fh tl th : Nat → Nat) : Nat → Nat → Nat → (Nat → Nat) → Option (Nat → Nat)
  | 0, _, _, I => some I
  | r + 1, k, u, I => zfo (fun y => if (zCho ex nB fl fh tl th I k u k).testBit y then zFf ex nB fl fh tl th r (k + 1) (u ||| 1 <<< y) (zupd I k y) else none) nB
