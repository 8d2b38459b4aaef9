/-! the law: what holds at the head of its loop -/
def zJ (xs : Nat → Int32) (L m : Nat) (h : zH) (s : zST) : Prop := h.2.2 0 = .inl (0, L, .inl xs) ∧ zCI h s ∧ zWT s ∧ (∃ (h9 : zH) (S : zRS), h = zRh h9 112 S ∧ zRI S s) ∧ h.1 = 138 ∧ h.2.1 = m
theorem zRh_re {h9 h1 : zH} {S : zRS} (hF : zFr zcR (zRh h9 112 S) h1) : h1 = zRh h1 112 S := by
  obtain ⟨a, b, f⟩ := h1
  refine Prod.ext rfl (Prod.ext rfl ?_)
  funext j
  show f j = (zRh (a, b, f) 112 S).2.2 j
  by_cases e : 112 ≤ j ∧ j ≤ 137
  · have h1 : f j = (zRh h9 112 S).2.2 j := hF.2.2 j (by unfold zcR; omega)
    rw [h1]
    unfold zRh
    by_cases e2 : j = 112
    · simp only [e2, if_true]
    · simp only [e2, if_false, show 112 < j ∧ j ≤ 112 + 25 from by omega, and_self, if_true]
  · exact (zRh_ne (h := (a, b, f)) (r := 112) (S := S) (show j < 112 ∨ 112 + 25 < j by omega)).symm
theorem zCI.up {h h1 : zH} {s : zST} (hI : zCI h s) (hF : zFr (fun j => 112 ≤ j) h h1) : zCI h1 s :=
  ⟨(hI.ob).fr hF (fun j g1 g2 g => by omega), (hI.as).fr hF (fun j g1 g2 g => by omega), (hI.ak).fr hF (fun j g1 g2 g => by omega), (hI.wk).fr hF (fun j g1 g2 g => by omega), (hI.go).fr hF (fun j g1 g2 g => by omega), (hI.ma).fr hF (fun j g1 g2 g => by omega), (hI.fe).fr hF (fun j g1 g2 g => by omega), (hI.co).fr hF (fun j g1 g2 g => by omega), (hI.se).fr hF (fun j g1 g2 g => by omega), (hI.ta).fr hF (fun j g1 g2 g => by omega), (hI.ac).fr hF (fun j g1 g2 g => by omega), (hI.ah).fr hF (fun j g1 g2 g => by omega), (hI.sv).fr hF (fun j g1 g2 g => by omega), (hI.sp).fr hF (fun j g1 g2 g => by omega), (hI.kp).fr hF (fun j g1 g2 g => by omega), (hI.sh).fr hF (fun j g1 g2 g => by omega), (hI.ka).fr hF (fun j g1 g2 g => by omega)⟩
theorem zRh_up {h9 : zH} {S S1 : zRS} : zFr (fun j => 112 ≤ j) (zRh h9 112 S) (zRh h9 112 S1) := ⟨rfl, rfl, fun j hj => by rw [zRh_ne (by omega), zRh_ne (by omega)]⟩
section ZLAW
variable {xs : Nat → Int32} {L m : Nat} {h h1 : zH} {s : zST}
/-- after the class' call -/
theorem zJ_a (hJ : zJ xs L m h s) (hF : zFr zcR h h1) : ∃ S, h1 = zRh h1 112 S ∧ zRI S s ∧ (zRh h1 112 S).2.2 0 = .inl (0, L, .inl xs) := by
  obtain ⟨h0, hI, hW, ⟨h9, S, e, hR⟩, hc⟩ := hJ
  subst e
  refine ⟨S, zRh_re hF, hR, ?_⟩
  rw [← zRh_re hF, hF.2.2 0 (by unfold zcR; omega)]
  exact h0
/-- after the reference's -/
theorem zJ_b {S S1 : zRS} {s1 : zST} (hJ : zJ xs L m h s) (hF : zFr zcR h h1) (e : h1 = zRh h1 112 S) (hI : zCI h1 s1) (hW : zWT s1) (hR : zRI S1 s1) : zJ xs L m (zRh h1 112 S1) s1 := by
  obtain ⟨h0, -, -, -, c1, c2⟩ := hJ
  have hI2 : zCI (zRh h1 112 S) s1 := by rw [← e]; exact hI
  refine ⟨?_, hI2.up zRh_up, hW, ⟨h1, S1, rfl, hR⟩, hF.1.trans c1, hF.2.1.trans c2⟩
  rw [zRh_ne (by omega), hF.2.2 0 (by unfold zcR; omega)]
  exact h0
end ZLAW
