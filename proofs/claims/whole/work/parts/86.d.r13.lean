def zRcn (lo lo2 : Nat → Nat) (p p2 : Nat) : Nat := if zcnt p2 = zPos p 8 then zGc lo lo2 (zNth p) (zPos p 8) 0 p2 (fun _ => 0) else 0
def zRcf (lo lo2 : Nat → Nat) (p p2 : Nat) : Option (Nat → Nat) := if zcnt p2 = zPos p 8 then zGf lo lo2 (zNth p) (zPos p 8) 0 p2 (fun _ => 0) else none
def zRfn (m : Nat) (o : Option (Nat → Nat)) (S1 : zRS) : Prop := match o with
  | some J => ∀ j, j < m → S1.2.1 12 j = nI (J j)
  | none => True
def zRnR (k j : Nat) : Prop := k = 10 ∨ k = 11 ∨ k = 12 ∨ (k = 0 ∧ 14 ≤ j ∧ j ≤ 17)
theorem zRnR.sp {s : Nat} : ∀ k j, zRsp s k j → ¬ zRnR k j := fun k j h => by unfold zRsp at h; unfold zRnR; omega
theorem zRnR.p : ∀ k j, zRnP 0 k j → zRnR k j := fun k j h => by unfold zRnP at h; unfold zRnR; omega
theorem zRnR.scr : ∀ k j, zRnR k j → zScr k j := fun k j h => by unfold zRnR at h; unfold zScr; omega
theorem cr_renumberings {d r s t n n2 p p2 : Nat} {h : zH} {S : zRS} {lo lo2 : Nat → Nat} (hr : 2 ≤ r) (hS : zRs S s n lo) (hP : zPre n lo) (hT : zRs S t n2 lo2) (hP2 : zPre n2 lo2) (hp : p < 1 <<< n) (hp2 : p2 < 1 <<< n2) : zCallP (d + 12) 221 [.ref r, .int (nI s), .int (nI p), .int (nI t), .int (nI p2)] (zRh h r S) (zRV (.int (nI (zRcn lo lo2 p p2))) (zRX h r S zRnR (zRfn (zPos p 8) (zRcf lo lo2 p p2)))) := by
  have hn := hP.1
  have hn2 := hP2.1
  have hpw := zpow_le hn
  have hpw2 := zpow_le hn2
  have hm : zPos p 8 ≤ 8 := zct_le _ _
  have hc8 := zcnt_le p2
  have hNn : ∀ j, j < zPos p 8 → zNth p j < n := fun j hj => zlt_bit hp (zNth_in hj).2.1
  have h88 : 8 ^ zPos p 8 ≤ 8 ^ 8 := Nat.pow_le_pow_right (by decide) hm
  have h89 : 8 ^ 8 ≤ 2 ^ 30 := by decide
  have hFa : zRF zRnR S (zRi (zRi S 14 (nI s)) 15 (nI t)) := (zRF.rf.i (Or.inr (Or.inr (Or.inr ⟨rfl, by omega, by omega⟩)))).i (Or.inr (Or.inr (Or.inr ⟨rfl, by omega, by omega⟩)))
  refine zG_mP (t := tX10_renumberings) (ls0 := [.ref r, .int (nI s), .int (nI p), .int (nI t), .int (nI p2)]) rfl rfl (zdnR (zdnI (zdnI (zdnI (zdnI zdn0))))) rfl ?_
  refine zG_s rfl rfl ?_
  refine zG_s rfl rfl ?_
  refine zR_put rfl rfl rfl (fun _ => rfl) ?_
  refine zG_s rfl rfl ?_
  refine zG_s rfl rfl ?_
  refine zR_put rfl rfl rfl (fun _ => rfl) ?_
  refine zG_s rfl rfl ?_
  refine zG_s rfl rfl ?_
  refine zG_s rfl rfl ?_
  refine zG_s rfl rfl ?_
  refine zN_get rfl zRh_o rfl ?_
  refine zG_cQV rfl rfl zRh_o rfl rfl (cr_lists hr (Or.inr rfl) (by omega)) (fun h1 hB => ?_)
  obtain ⟨S1, rfl, hF1, hN1⟩ := hB
  have hF2 : zRF zRnR S (zRi (zRi S1 16 (nI (zPos p 8))) 17 (nI 0)) := ((hFa.tr (hF1.mono (fun k j g => Or.inl g))).i (Or.inr (Or.inr (Or.inr ⟨rfl, by omega, by omega⟩)))).i (Or.inr (Or.inr (Or.inr ⟨rfl, by omega, by omega⟩)))
  have h14 : S1.1 14 = nI s := (hF1.1 14 (by omega)).trans rfl
  have h15 : S1.1 15 = nI t := (hF1.1 15 (by omega)).trans rfl
  have hE : zRe (zRi (zRi S1 16 (nI (zPos p 8))) 17 (nI 0)) s n lo t n2 lo2 (zPos p 8) (zNth p) := ⟨hS.fr hn hF2 zRnR.sp, hT.fr hn2 hF2 zRnR.sp, h14, h15, rfl, hN1⟩
  refine zR_put rfl rfl rfl (fun _ => rfl) ?_
  refine zG_s rfl rfl ?_
  refine zG_s rfl rfl ?_
  refine zR_put rfl rfl rfl (fun _ => rfl) ?_
  refine zG_s rfl rfl ?_
  refine zG_cS1 rfl rfl (cr_size (by omega)) ?_
  refine zG_s rfl rfl ?_
  refine zN_get rfl zRh_o rfl ?_
  rw [show (zRi (zRi S1 16 (nI (zPos p 8))) 17 (nI 0)).1 16 = nI (zPos p 8) from rfl]
  refine zN_ine rfl (by omega) (by omega) (fun c1 => ?_) (fun c2 => ?_)
  · skip
    refine zG_s rfl rfl ?_
    refine zN_get rfl zRh_o rfl ?_
    -- leaf 1
    exact zG_ret rfl rfl ⟨by rw [zRcn, if_neg c1]; rfl, _, rfl, hF2, by rw [zRcf, if_neg c1]; exact trivial⟩
  · skip
    refine zG_s rfl rfl ?_
    refine zG_s rfl rfl ?_
    refine zG_s rfl rfl ?_
    have hK := cr_renumK (d := d + (8 - zPos p 8)) (h := h) hr hP hP2 hm hNn (zPos p 8) (zRi (zRi S1 16 (nI (zPos p 8))) 17 (nI 0)) 0 p2 0 (fun _ => 0) (by omega) hE (fun j hj => absurd hj (Nat.not_lt_zero j)) (fun j hj => absurd hj (Nat.not_lt_zero j)) hp2 rfl (by omega)
    rw [show d + (8 - zPos p 8) + zPos p 8 + 3 = d + 11 by omega] at hK
    refine zG_cQN rfl rfl zRh_o rfl rfl hK (fun h1 hB => ?_)
    obtain ⟨S3, rfl, hF3, h17, hfi⟩ := hB
    refine zG_s rfl rfl ?_
    refine zN_get rfl zRh_o rfl ?_
    -- leaf 2
    exact zG_ret rfl rfl ⟨by rw [zRcn, if_pos c2, h17, Nat.zero_add], S3, rfl, hF2.tr (hF3.mono zRnR.p), by rw [zRcf, if_pos c2]; exact hfi.2 rfl⟩
