theorem zRI.u_z {S : zRS} {s : zST} {z : Int32} (hI : zRI S s) : zRI (zRi S 5 z) (zsZ s z) := ⟨hI.1, hI.2.1, ⟨rfl, hI.z.2.1, hI.z.2.2⟩, hI.tp, hI.sh, hI.hv, hI.tr⟩
theorem cr_seed {d r : Nat} {h : zH} {S : zRS} {s : zST} {v : Int32} (hr : 2 ≤ r) (hI : zRI S s) (hW : zWT s) : zCallP (d + 1) 265 [.ref r, .int v] (zRh h r S) (zROut h r (zo_seed s v)) := by
  refine zG_mP (t := tX10_seed) (ls0 := [.ref r, .int v, .null]) rfl rfl (zdnR (zdnI zdn0)) rfl ?_
  refine zG_s rfl rfl ?_
  refine zN_get rfl zRh_o rfl ?_
  rw [hI.z.1]
  refine zN_st2 rfl (fun _ _ _ => rfl) rfl ?_
  refine zG_s rfl rfl ?_
  refine zG_s rfl rfl ?_
  refine zR_put rfl rfl rfl (fun _ => rfl) ?_
  refine zG_s rfl rfl ?_
  -- leaf 1
  exact zG_ret rfl rfl (zRfin rfl hI.u_z)
theorem cr_trace {d r : Nat} {h : zH} {S : zRS} {s : zST} {a : Int32} (hr : 2 ≤ r) (hI : zRI S s) (hW : zWT s) : zCallP (d + 2) 285 [.ref r, .int a] (zRh h r S) (zROut h r (zo_trace s a)) := by
  have hl : s.2.2.2.2.2.2.length ≤ 30 := hW.2.2.2.2.2
  refine zG_mP (t := tX10_trace) (ls0 := [.ref r, .int a]) rfl rfl (zdnR (zdnI zdn0)) rfl ?_
  refine zG_s rfl rfl ?_
  refine zG_s rfl rfl ?_
  refine zG_s rfl rfl ?_
  refine zN_get rfl zRh_o rfl ?_
  rw [hI.tr.1]
  refine zG_s rfl rfl ?_
  refine zG_s rfl rfl ?_
  refine zG_cS1 rfl rfl (cr_inm (n := s.2.2.2.2.2.2.length) (by omega)) ?_
  refine zN_ifb rfl (fun c1 => ?_) (fun c2 => ?_)
  · skip
    refine zG_s rfl rfl ?_
    -- leaf 1
    exact zG_ret rfl rfl (zRfin (by rw [zo_trace, if_neg (by rw [c1]; decide)]) hI)
  · skip
    refine zG_s rfl rfl ?_
    refine zN_get rfl zRh_o rfl ?_
    refine zG_s rfl rfl ?_
    obtain ⟨i, hi, hx⟩ := zin_of c2 (by omega)
    subst hx
    refine zR_ald (k := 25) (n := 30) rfl rfl (by omega) (hI.tr.2 i hi) ?_
    refine zG_s rfl rfl ?_
    -- leaf 2
    exact zG_ret rfl rfl (zRfin (by rw [zo_trace, if_pos c2, nI_cl (by omega)]) hI)
