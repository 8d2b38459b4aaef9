/-! the reference's invariant -/
def zScr (k j : Nat) : Prop := (k = 0 ∧ (12 ≤ j ∧ j ≤ 17 ∨ j = 21 ∨ j = 28 ∨ j = 38)) ∨ (6 ≤ k ∧ k ≤ 16) ∨ k = 21 ∨ ((k = 1 ∨ k = 2) ∧ 48 ≤ j) ∨ (k = 3 ∧ 6 ≤ j)
def zr_sp (S : zRS) (Q : Nat → Nat × (Nat → Nat)) : Prop := ∀ i, i < 6 → zRs S i (Q i).1 (Q i).2
def zr_kp (S : zRS) (Q : Nat → Nat × (Nat → Nat)) : Prop := ∀ i, i < 6 → S.2.1 5 i = nI (Q i).1 ∧ ∀ x, x < (Q i).1 → S.2.1 4 (8 * i + x) = nI ((Q i).2 x)
def zr_z (S : zRS) (Z : Int32 × Int32 × Bool) : Prop := S.1 5 = Z.1 ∧ (Z.2.2 = true → S.1 6 = Z.2.1) ∧ S.1 7 = nI (b2n Z.2.2)
def zr_tp (S : zRS) (P : Nat × (Nat → Nat)) : Prop := S.1 27 = nI P.1 ∧ ∀ i, i < P.1 → S.2.1 17 i = nI (P.2 i)
def zr_sh (S : zRS) (Q : Nat → Nat × Nat × (Nat → Int32)) : Prop := ∀ i, i < 4 → S.2.1 18 i = zbv (Q i).1 ∧ (0 < (Q i).1 → S.2.1 19 i = nI (Q i).2.1 ∧ ∀ j, j < (Q i).2.1 → S.2.2 20 (40 * i + j) = ((Q i).2.2 j).toInt64)
def zr_hv (S : zRS) (V : Nat → Nat × Nat) : Prop := ∀ i, i < 4 → ((V i).1 = 0 → S.2.1 22 i = nI 0) ∧ (1 ≤ (V i).1 → (V i).1 ≤ 6 → S.2.1 22 i = nI 1 ∧ S.2.1 23 i = nI ((V i).1 - 1)) ∧ (11 ≤ (V i).1 → S.2.1 22 i = nI 2 ∧ S.2.1 23 i = nI ((V i).1 - 11) ∧ S.2.1 24 i = nI (V i).2)
def zr_tr (S : zRS) (L : List Nat) : Prop := S.1 37 = nI L.length ∧ ∀ i, i < L.length → S.2.1 25 i = nI (L.getD i 0)
def zRI (S : zRS) (s : zST) : Prop := zr_sp S s.1 ∧ zr_kp S s.2.1 ∧ zr_z S s.2.2.1 ∧ zr_tp S s.2.2.2.1 ∧ zr_sh S s.2.2.2.2.1 ∧ zr_hv S s.2.2.2.2.2.1 ∧ zr_tr S s.2.2.2.2.2.2
section ZRI
variable {P : Nat → Nat → Prop} {S S1 : zRS} {s : zST}
theorem zRI.sp (hI : zRI S s) : zr_sp S s.1 := hI.1
theorem zRI.kp (hI : zRI S s) : zr_kp S s.2.1 := hI.2.1
theorem zRI.z (hI : zRI S s) : zr_z S s.2.2.1 := hI.2.2.1
theorem zRI.tp (hI : zRI S s) : zr_tp S s.2.2.2.1 := hI.2.2.2.1
theorem zRI.sh (hI : zRI S s) : zr_sh S s.2.2.2.2.1 := hI.2.2.2.2.1
theorem zRI.hv (hI : zRI S s) : zr_hv S s.2.2.2.2.2.1 := hI.2.2.2.2.2.1
theorem zRI.tr (hI : zRI S s) : zr_tr S s.2.2.2.2.2.2 := hI.2.2.2.2.2.2
theorem zr_sp.fr {Q : Nat → Nat × (Nat → Nat)} (h : zr_sp S Q) (hq : ∀ i, i < 6 → (Q i).1 ≤ 8) (hF : zRF P S S1) (hP : ∀ k j, (k = 1 ∨ k = 2) ∧ j < 48 ∨ k = 3 ∧ j < 6 → ¬ P k j) : zr_sp S1 Q := fun i hi => (h i hi).fr (hq i hi) hF (fun k j g => hP k j (by unfold zRsp at g; omega))
theorem zr_kp.fr {Q : Nat → Nat × (Nat → Nat)} (h : zr_kp S Q) (hF : zRF P S S1) (hP : ∀ k j, k = 4 ∨ k = 5 → ¬ P k j) : zr_kp S1 Q := fun i hi => ⟨(hF.2.1 5 i (hP 5 i (by omega))).trans (h i hi).1, fun x hx => (hF.2.1 4 _ (hP 4 _ (by omega))).trans ((h i hi).2 x hx)⟩
theorem zr_z.fr {Z : Int32 × Int32 × Bool} (h : zr_z S Z) (hF : zRF P S S1) (hP : ∀ j, 5 ≤ j → j ≤ 7 → ¬ P 0 j) : zr_z S1 Z := ⟨(hF.1 5 (hP 5 (by omega) (by omega))).trans h.1, fun q => (hF.1 6 (hP 6 (by omega) (by omega))).trans (h.2.1 q), (hF.1 7 (hP 7 (by omega) (by omega))).trans h.2.2⟩
theorem zr_tp.fr {Q : Nat × (Nat → Nat)} (h : zr_tp S Q) (hF : zRF P S S1) (h0 : ¬ P 0 27) (hP : ∀ j, ¬ P 17 j) : zr_tp S1 Q := ⟨(hF.1 27 h0).trans h.1, fun i hi => (hF.2.1 17 i (hP i)).trans (h.2 i hi)⟩
theorem zr_sh.fr {Q : Nat → Nat × Nat × (Nat → Int32)} (h : zr_sh S Q) (hF : zRF P S S1) (hP : ∀ k j, 18 ≤ k → k ≤ 20 → ¬ P k j) : zr_sh S1 Q := fun i hi => ⟨(hF.2.1 18 i (hP 18 i (by omega) (by omega))).trans (h i hi).1, fun h0 => ⟨(hF.2.1 19 i (hP 19 i (by omega) (by omega))).trans ((h i hi).2 h0).1, fun j hj => (hF.2.2 20 _ (hP 20 _ (by omega) (by omega))).trans (((h i hi).2 h0).2 j hj)⟩⟩
theorem zr_hv.fr {Q : Nat → Nat × Nat} (h : zr_hv S Q) (hF : zRF P S S1) (hP : ∀ k j, 22 ≤ k → k ≤ 24 → ¬ P k j) : zr_hv S1 Q := fun i hi => by
  have h2 := hF.2.1 22 i (hP 22 i (by omega) (by omega))
  have h3 := hF.2.1 23 i (hP 23 i (by omega) (by omega))
  have h4 := hF.2.1 24 i (hP 24 i (by omega) (by omega))
  have h1 := h i hi
  exact ⟨fun a => h2.trans (h1.1 a), fun a b => ⟨h2.trans (h1.2.1 a b).1, h3.trans (h1.2.1 a b).2⟩, fun a => ⟨h2.trans (h1.2.2 a).1, h3.trans (h1.2.2 a).2.1, h4.trans (h1.2.2 a).2.2⟩⟩
theorem zr_tr.fr {L : List Nat} (h : zr_tr S L) (hF : zRF P S S1) (h0 : ¬ P 0 37) (hP : ∀ j, ¬ P 25 j) : zr_tr S1 L := ⟨(hF.1 37 h0).trans h.1, fun i hi => (hF.2.1 25 i (hP i)).trans (h.2 i hi)⟩
/-- what is not told by the state -/
theorem zRI.fr (hI : zRI S s) (hW : zWT s) (hF : zRF P S S1) (hP : ∀ k j, P k j → zScr k j) : zRI S1 s :=
  ⟨hI.sp.fr (fun i hi => (hW.1 i hi).1) hF (fun k j g h => by have := hP k j h; unfold zScr at this; omega), hI.kp.fr hF (fun k j g h => by have := hP k j h; unfold zScr at this; omega), hI.z.fr hF (fun j g1 g2 h => by have := hP 0 j h; unfold zScr at this; omega), hI.tp.fr hF (fun h => by have := hP 0 27 h; unfold zScr at this; omega) (fun j h => by have := hP 17 j h; unfold zScr at this; omega), hI.sh.fr hF (fun k j g1 g2 h => by have := hP k j h; unfold zScr at this; omega), hI.hv.fr hF (fun k j g1 g2 h => by have := hP k j h; unfold zScr at this; omega), hI.tr.fr hF (fun h => by have := hP 0 37 h; unfold zScr at this; omega) (fun j h => by have := hP 25 j h; unfold zScr at this; omega)⟩
/-- a space has become another -/
theorem zRI.u_sp {i n : Nat} {lo : Nat → Nat} (hi : i < 6) (hX : zRs S1 i n lo) (hI : zRI S s) (hW : zWT s) (hF : zRF P S S1) (hP : ∀ k j, P k j → zScr k j ∨ zRsp i k j) : zRI S1 (zsSp s i n lo) :=
  ⟨fun j hj => by
    show zRs S1 j (if j = i then (n, lo) else s.1 j).1 (if j = i then (n, lo) else s.1 j).2
    by_cases e : j = i
    · subst e; rw [if_pos rfl]; exact hX
    · rw [if_neg e]
      exact (hI.sp j hj).fr (hW.1 j hj).1 hF (fun k q g h => by have := hP k q h; unfold zScr zRsp at this; unfold zRsp at g; omega), hI.kp.fr hF (fun k j g h => by have := hP k j h; unfold zScr zRsp at this; omega), hI.z.fr hF (fun j g1 g2 h => by have := hP 0 j h; unfold zScr zRsp at this; omega), hI.tp.fr hF (fun h => by have := hP 0 27 h; unfold zScr zRsp at this; omega) (fun j h => by have := hP 17 j h; unfold zScr zRsp at this; omega), hI.sh.fr hF (fun k j g1 g2 h => by have := hP k j h; unfold zScr zRsp at this; omega), hI.hv.fr hF (fun k j g1 g2 h => by have := hP k j h; unfold zScr zRsp at this; omega), hI.tr.fr hF (fun h => by have := hP 0 37 h; unfold zScr zRsp at this; omega) (fun j h => by have := hP 25 j h; unfold zScr zRsp at this; omega)⟩
end ZRI
def zROut (h : zH) (r : Nat) (p : Int32 × zST) : zR → Prop := zRV (.int p.1) (fun h1 => ∃ S1, h1 = zRh h r S1 ∧ zRI S1 p.2)
theorem zRfin {h : zH} {r : Nat} {S : zRS} {p : Int32 × zST} {w : Int32} {s' : zST} (e : p = (w, s')) (hI : zRI S s') : zROut h r p (some (.int w), zRh h r S) := by
  rw [e]
  exact ⟨rfl, S, rfl, hI⟩
