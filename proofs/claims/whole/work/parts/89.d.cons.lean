theorem zdnR0 {o : Nat} : ∀ v ∈ ([.ref o] : List Value), ∀ x, v ≠ .double x := zdnR zdn0
theorem zN_putS {d : Nat} {t : Nat → Option zI} {pc nx c : Nat} {v : Value} {ls st : List Value} {h h9 : zH} {r : zR → Prop} {q x ci k : Nat} {fs fs' : List Value} {w : Value} (hai : t pc = some (.putfield x, nx, ci, k, c, v)) (ho : h.2.2 q = .inr (ci, fs)) (hk : Nat.blt k fs.length = true) (hw : zfit (ztf ci k) w = true) (hf : fs.set k w = fs') (e : zset h q (.inr (ci, fs')) = h9) (K : zGoP d t nx ls st h9 r) : zGoP d t pc ls (w :: .ref q :: st) h r := by
  subst e
  exact zN_put hai ho hk hw hf K
def zk0_0 (o : Nat) (F : Nat → zC) : Nat → zC := fun j => if j = o + 1 then .inl (0, 30, .inl (fun _ => 0)) else F j
def zk0_1 (o : Nat) (F : Nat → zC) : Nat → zC := fun j => if j = o then .inr (0, [.ref (o + 1), .int 0, .int 0]) else (zk0_0 o F) j
def zk0_2 (o : Nat) (F : Nat → zC) : Nat → zC := fun j => if j = o then .inr (0, [.ref (o + 1), .int (nI 0), .int 0]) else (zk0_1 o F) j
def zk0_3 (o : Nat) (F : Nat → zC) : Nat → zC := fun j => if j = o then .inr (0, [.ref (o + 1), .int (nI 0), .int (nI 0)]) else (zk0_2 o F) j
def zkE0 (o : Nat) (F : Nat → zC) : Nat → zC := zk0_3 o F
theorem zk0_lt {o j : Nat} {F : Nat → zC} (h : j < o) : zkE0 o F j = F j := ((if_neg (by omega)).trans ((if_neg (by omega)).trans ((if_neg (by omega)).trans (if_neg (by omega)))))
theorem ci_0 {d o s : Nat} {F : Nat → zC} (hF : F o = .inr (0, zdef 0 3)) : zCall (d + 1) 0 [.ref o] (o + 1, s, F) (none, (o + 2, s + 30, zkE0 o F)) := by
  refine zG_m (t := tX0_init) (ls0 := [.ref o]) rfl rfl zdnR0 rfl ?_
  refine zG_s (st' := [.ref o]) rfl rfl ?_
  refine zG_s (st' := []) rfl rfl ?_
  refine zG_s (st' := [.ref o]) rfl rfl ?_
  refine zG_s (st' := [.int (nI 30), .ref o]) rfl rfl ?_
  refine zG_s (st' := [.ref (o + 1), .ref o]) (h' := (o + 2, s + 30, (zk0_0 o F))) rfl rfl ?_
  refine zN_putS (fs := [.null, .int 0, .int 0]) (fs' := [.ref (o + 1), .int 0, .int 0]) (h9 := (o + 2, s + 30, (zk0_1 o F))) rfl ((if_neg (by omega)).trans hF) rfl rfl rfl rfl ?_
  refine zG_s (st' := [.ref o]) rfl rfl ?_
  refine zG_s (st' := [.int (nI 0), .ref o]) rfl rfl ?_
  refine zN_putS (fs := [.ref (o + 1), .int 0, .int 0]) (fs' := [.ref (o + 1), .int (nI 0), .int 0]) (h9 := (o + 2, s + 30, (zk0_2 o F))) rfl (if_pos rfl) rfl rfl rfl rfl ?_
  refine zG_s (st' := [.ref o]) rfl rfl ?_
  refine zG_s (st' := [.int (nI 0), .ref o]) rfl rfl ?_
  refine zN_putS (fs := [.ref (o + 1), .int (nI 0), .int 0]) (fs' := [.ref (o + 1), .int (nI 0), .int (nI 0)]) (h9 := (o + 2, s + 30, (zk0_3 o F))) rfl (if_pos rfl) rfl rfl rfl rfl ?_
  exact zG_ret rfl rfl rfl
def zk2_0 (o : Nat) (F : Nat → zC) : Nat → zC := fun j => if j = o + 1 then .inl (0, 512, .inl (fun _ => 0)) else F j
def zk2_1 (o : Nat) (F : Nat → zC) : Nat → zC := fun j => if j = o then .inr (2, [.ref (o + 1), .null]) else (zk2_0 o F) j
def zk2_2 (o : Nat) (F : Nat → zC) : Nat → zC := fun j => if j = o + 2 then .inl (0, 512, .inl (fun _ => 0)) else (zk2_1 o F) j
def zk2_3 (o : Nat) (F : Nat → zC) : Nat → zC := fun j => if j = o then .inr (2, [.ref (o + 1), .ref (o + 2)]) else (zk2_2 o F) j
def zkE2 (o : Nat) (F : Nat → zC) : Nat → zC := zk2_3 o F
theorem zk2_lt {o j : Nat} {F : Nat → zC} (h : j < o) : zkE2 o F j = F j := ((if_neg (by omega)).trans ((if_neg (by omega)).trans ((if_neg (by omega)).trans (if_neg (by omega)))))
theorem ci_2 {d o s : Nat} {F : Nat → zC} (hF : F o = .inr (2, zdef 2 2)) : zCall (d + 1) 17 [.ref o] (o + 1, s, F) (none, (o + 3, s + 1024, zkE2 o F)) := by
  refine zG_m (t := tX2_init) (ls0 := [.ref o]) rfl rfl zdnR0 rfl ?_
  refine zG_s (st' := [.ref o]) rfl rfl ?_
  refine zG_s (st' := []) rfl rfl ?_
  refine zG_s (st' := [.ref o]) rfl rfl ?_
  refine zG_s (st' := [.int (nI 512), .ref o]) rfl rfl ?_
  refine zG_s (st' := [.ref (o + 1), .ref o]) (h' := (o + 2, s + 512, (zk2_0 o F))) rfl rfl ?_
  refine zN_putS (fs := [.null, .null]) (fs' := [.ref (o + 1), .null]) (h9 := (o + 2, s + 512, (zk2_1 o F))) rfl ((if_neg (by omega)).trans hF) rfl rfl rfl rfl ?_
  refine zG_s (st' := [.ref o]) rfl rfl ?_
  refine zG_s (st' := [.int (nI 512), .ref o]) rfl rfl ?_
  refine zG_s (st' := [.ref (o + 2), .ref o]) (h' := (o + 3, s + 1024, (zk2_2 o F))) rfl rfl ?_
  refine zN_putS (fs := [.ref (o + 1), .null]) (fs' := [.ref (o + 1), .ref (o + 2)]) (h9 := (o + 3, s + 1024, (zk2_3 o F))) rfl ((if_neg (by omega)).trans (if_pos rfl)) rfl rfl rfl rfl ?_
  exact zG_ret rfl rfl rfl
def zk3_0 (o : Nat) (F : Nat → zC) : Nat → zC := fun j => if j = o then .inr (3, [.int (nI 0), .null, .null, .null, .null, .null, .null, .null, .null, .int 0, .null]) else F j
def zk3_1 (o : Nat) (F : Nat → zC) : Nat → zC := fun j => if j = o + 1 then .inl (0, 8, .inl (fun _ => 0)) else (zk3_0 o F) j
def zk3_2 (o : Nat) (F : Nat → zC) : Nat → zC := fun j => if j = o then .inr (3, [.int (nI 0), .ref (o + 1), .null, .null, .null, .null, .null, .null, .null, .int 0, .null]) else (zk3_1 o F) j
def zk3_3 (o : Nat) (F : Nat → zC) : Nat → zC := fun j => if j = o + 2 then .inl (0, 8, .inl (fun _ => 0)) else (zk3_2 o F) j
def zk3_4 (o : Nat) (F : Nat → zC) : Nat → zC := fun j => if j = o then .inr (3, [.int (nI 0), .ref (o + 1), .ref (o + 2), .null, .null, .null, .null, .null, .null, .int 0, .null]) else (zk3_3 o F) j
def zk3_5 (o : Nat) (F : Nat → zC) : Nat → zC := fun j => if j = o + 3 then .inl (0, 8, .inl (fun _ => 0)) else (zk3_4 o F) j
def zk3_6 (o : Nat) (F : Nat → zC) : Nat → zC := fun j => if j = o then .inr (3, [.int (nI 0), .ref (o + 1), .ref (o + 2), .ref (o + 3), .null, .null, .null, .null, .null, .int 0, .null]) else (zk3_5 o F) j
def zk3_7 (o : Nat) (F : Nat → zC) : Nat → zC := fun j => if j = o + 4 then .inl (0, 8, .inl (fun _ => 0)) else (zk3_6 o F) j
def zk3_8 (o : Nat) (F : Nat → zC) : Nat → zC := fun j => if j = o then .inr (3, [.int (nI 0), .ref (o + 1), .ref (o + 2), .ref (o + 3), .ref (o + 4), .null, .null, .null, .null, .int 0, .null]) else (zk3_7 o F) j
def zk3_9 (o : Nat) (F : Nat → zC) : Nat → zC := fun j => if j = o + 5 then .inl (0, 8, .inl (fun _ => 0)) else (zk3_8 o F) j
def zk3_10 (o : Nat) (F : Nat → zC) : Nat → zC := fun j => if j = o then .inr (3, [.int (nI 0), .ref (o + 1), .ref (o + 2), .ref (o + 3), .ref (o + 4), .ref (o + 5), .null, .null, .null, .int 0, .null]) else (zk3_9 o F) j
def zk3_11 (o : Nat) (F : Nat → zC) : Nat → zC := fun j => if j = o + 6 then .inl (0, 256, .inl (fun _ => 0)) else (zk3_10 o F) j
def zk3_12 (o : Nat) (F : Nat → zC) : Nat → zC := fun j => if j = o then .inr (3, [.int (nI 0), .ref (o + 1), .ref (o + 2), .ref (o + 3), .ref (o + 4), .ref (o + 5), .ref (o + 6), .null, .null, .int 0, .null]) else (zk3_11 o F) j
def zk3_13 (o : Nat) (F : Nat → zC) : Nat → zC := fun j => if j = o + 7 then .inl (0, 256, .inl (fun _ => 0)) else (zk3_12 o F) j
def zk3_14 (o : Nat) (F : Nat → zC) : Nat → zC := fun j => if j = o then .inr (3, [.int (nI 0), .ref (o + 1), .ref (o + 2), .ref (o + 3), .ref (o + 4), .ref (o + 5), .ref (o + 6), .ref (o + 7), .null, .int 0, .null]) else (zk3_13 o F) j
def zk3_15 (o : Nat) (F : Nat → zC) : Nat → zC := fun j => if j = o + 8 then .inl (0, 256, .inl (fun _ => 0)) else (zk3_14 o F) j
def zk3_16 (o : Nat) (F : Nat → zC) : Nat → zC := fun j => if j = o then .inr (3, [.int (nI 0), .ref (o + 1), .ref (o + 2), .ref (o + 3), .ref (o + 4), .ref (o + 5), .ref (o + 6), .ref (o + 7), .ref (o + 8), .int 0, .null]) else (zk3_15 o F) j
def zk3_17 (o : Nat) (F : Nat → zC) : Nat → zC := fun j => if j = o then .inr (3, [.int (nI 0), .ref (o + 1), .ref (o + 2), .ref (o + 3), .ref (o + 4), .ref (o + 5), .ref (o + 6), .ref (o + 7), .ref (o + 8), .int (nI 0), .null]) else (zk3_16 o F) j
def zk3_18 (o : Nat) (F : Nat → zC) : Nat → zC := fun j => if j = o + 9 then .inl (0, 8, .inl (fun _ => 0)) else (zk3_17 o F) j
def zk3_19 (o : Nat) (F : Nat → zC) : Nat → zC := fun j => if j = o then .inr (3, [.int (nI 0), .ref (o + 1), .ref (o + 2), .ref (o + 3), .ref (o + 4), .ref (o + 5), .ref (o + 6), .ref (o + 7), .ref (o + 8), .int (nI 0), .ref (o + 9)]) else (zk3_18 o F) j
def zkE3 (o : Nat) (F : Nat → zC) : Nat → zC := zk3_19 o F
theorem zk3_lt {o j : Nat} {F : Nat → zC} (h : j < o) : zkE3 o F j = F j := ((if_neg (by omega)).trans ((if_neg (by omega)).trans ((if_neg (by omega)).trans ((if_neg (by omega)).trans ((if_neg (by omega)).trans ((if_neg (by omega)).trans ((if_neg (by omega)).trans ((if_neg (by omega)).trans ((if_neg (by omega)).trans ((if_neg (by omega)).trans ((if_neg (by omega)).trans ((if_neg (by omega)).trans ((if_neg (by omega)).trans ((if_neg (by omega)).trans ((if_neg (by omega)).trans ((if_neg (by omega)).trans ((if_neg (by omega)).trans ((if_neg (by omega)).trans ((if_neg (by omega)).trans (if_neg (by omega)))))))))))))))))))))
theorem ci_3 {d o s : Nat} {F : Nat → zC} (hF : F o = .inr (3, zdef 3 11)) : zCall (d + 1) 20 [.ref o] (o + 1, s, F) (none, (o + 10, s + 816, zkE3 o F)) := by
  refine zG_m (t := tX3_init) (ls0 := [.ref o]) rfl rfl zdnR0 rfl ?_
  refine zG_s (st' := [.ref o]) rfl rfl ?_
  refine zG_s (st' := []) rfl rfl ?_
  refine zG_s (st' := [.ref o]) rfl rfl ?_
  refine zG_s (st' := [.int (nI 0), .ref o]) rfl rfl ?_
  refine zN_putS (fs := [.int 0, .null, .null, .null, .null, .null, .null, .null, .null, .int 0, .null]) (fs' := [.int (nI 0), .null, .null, .null, .null, .null, .null, .null, .null, .int 0, .null]) (h9 := (o + 1, s + 0, (zk3_0 o F))) rfl hF rfl rfl rfl rfl ?_
  refine zG_s (st' := [.ref o]) rfl rfl ?_
  refine zG_s (st' := [.int (nI 8), .ref o]) rfl rfl ?_
  refine zG_s (st' := [.ref (o + 1), .ref o]) (h' := (o + 2, s + 8, (zk3_1 o F))) rfl rfl ?_
  refine zN_putS (fs := [.int (nI 0), .null, .null, .null, .null, .null, .null, .null, .null, .int 0, .null]) (fs' := [.int (nI 0), .ref (o + 1), .null, .null, .null, .null, .null, .null, .null, .int 0, .null]) (h9 := (o + 2, s + 8, (zk3_2 o F))) rfl ((if_neg (by omega)).trans (if_pos rfl)) rfl rfl rfl rfl ?_
  refine zG_s (st' := [.ref o]) rfl rfl ?_
  refine zG_s (st' := [.int (nI 8), .ref o]) rfl rfl ?_
  refine zG_s (st' := [.ref (o + 2), .ref o]) (h' := (o + 3, s + 16, (zk3_3 o F))) rfl rfl ?_
  refine zN_putS (fs := [.int (nI 0), .ref (o + 1), .null, .null, .null, .null, .null, .null, .null, .int 0, .null]) (fs' := [.int (nI 0), .ref (o + 1), .ref (o + 2), .null, .null, .null, .null, .null, .null, .int 0, .null]) (h9 := (o + 3, s + 16, (zk3_4 o F))) rfl ((if_neg (by omega)).trans (if_pos rfl)) rfl rfl rfl rfl ?_
  refine zG_s (st' := [.ref o]) rfl rfl ?_
  refine zG_s (st' := [.int (nI 8), .ref o]) rfl rfl ?_
  refine zG_s (st' := [.ref (o + 3), .ref o]) (h' := (o + 4, s + 24, (zk3_5 o F))) rfl rfl ?_
  refine zN_putS (fs := [.int (nI 0), .ref (o + 1), .ref (o + 2), .null, .null, .null, .null, .null, .null, .int 0, .null]) (fs' := [.int (nI 0), .ref (o + 1), .ref (o + 2), .ref (o + 3), .null, .null, .null, .null, .null, .int 0, .null]) (h9 := (o + 4, s + 24, (zk3_6 o F))) rfl ((if_neg (by omega)).trans (if_pos rfl)) rfl rfl rfl rfl ?_
  refine zG_s (st' := [.ref o]) rfl rfl ?_
  refine zG_s (st' := [.int (nI 8), .ref o]) rfl rfl ?_
  refine zG_s (st' := [.ref (o + 4), .ref o]) (h' := (o + 5, s + 32, (zk3_7 o F))) rfl rfl ?_
  refine zN_putS (fs := [.int (nI 0), .ref (o + 1), .ref (o + 2), .ref (o + 3), .null, .null, .null, .null, .null, .int 0, .null]) (fs' := [.int (nI 0), .ref (o + 1), .ref (o + 2), .ref (o + 3), .ref (o + 4), .null, .null, .null, .null, .int 0, .null]) (h9 := (o + 5, s + 32, (zk3_8 o F))) rfl ((if_neg (by omega)).trans (if_pos rfl)) rfl rfl rfl rfl ?_
  refine zG_s (st' := [.ref o]) rfl rfl ?_
  refine zG_s (st' := [.int (nI 8), .ref o]) rfl rfl ?_
  refine zG_s (st' := [.ref (o + 5), .ref o]) (h' := (o + 6, s + 40, (zk3_9 o F))) rfl rfl ?_
  refine zN_putS (fs := [.int (nI 0), .ref (o + 1), .ref (o + 2), .ref (o + 3), .ref (o + 4), .null, .null, .null, .null, .int 0, .null]) (fs' := [.int (nI 0), .ref (o + 1), .ref (o + 2), .ref (o + 3), .ref (o + 4), .ref (o + 5), .null, .null, .null, .int 0, .null]) (h9 := (o + 6, s + 40, (zk3_10 o F))) rfl ((if_neg (by omega)).trans (if_pos rfl)) rfl rfl rfl rfl ?_
  refine zG_s (st' := [.ref o]) rfl rfl ?_
  refine zG_s (st' := [.int (nI 256), .ref o]) rfl rfl ?_
  refine zG_s (st' := [.ref (o + 6), .ref o]) (h' := (o + 7, s + 296, (zk3_11 o F))) rfl rfl ?_
  refine zN_putS (fs := [.int (nI 0), .ref (o + 1), .ref (o + 2), .ref (o + 3), .ref (o + 4), .ref (o + 5), .null, .null, .null, .int 0, .null]) (fs' := [.int (nI 0), .ref (o + 1), .ref (o + 2), .ref (o + 3), .ref (o + 4), .ref (o + 5), .ref (o + 6), .null, .null, .int 0, .null]) (h9 := (o + 7, s + 296, (zk3_12 o F))) rfl ((if_neg (by omega)).trans (if_pos rfl)) rfl rfl rfl rfl ?_
  refine zG_s (st' := [.ref o]) rfl rfl ?_
  refine zG_s (st' := [.int (nI 256), .ref o]) rfl rfl ?_
  refine zG_s (st' := [.ref (o + 7), .ref o]) (h' := (o + 8, s + 552, (zk3_13 o F))) rfl rfl ?_
  refine zN_putS (fs := [.int (nI 0), .ref (o + 1), .ref (o + 2), .ref (o + 3), .ref (o + 4), .ref (o + 5), .ref (o + 6), .null, .null, .int 0, .null]) (fs' := [.int (nI 0), .ref (o + 1), .ref (o + 2), .ref (o + 3), .ref (o + 4), .ref (o + 5), .ref (o + 6), .ref (o + 7), .null, .int 0, .null]) (h9 := (o + 8, s + 552, (zk3_14 o F))) rfl ((if_neg (by omega)).trans (if_pos rfl)) rfl rfl rfl rfl ?_
  refine zG_s (st' := [.ref o]) rfl rfl ?_
  refine zG_s (st' := [.int (nI 256), .ref o]) rfl rfl ?_
  refine zG_s (st' := [.ref (o + 8), .ref o]) (h' := (o + 9, s + 808, (zk3_15 o F))) rfl rfl ?_
  refine zN_putS (fs := [.int (nI 0), .ref (o + 1), .ref (o + 2), .ref (o + 3), .ref (o + 4), .ref (o + 5), .ref (o + 6), .ref (o + 7), .null, .int 0, .null]) (fs' := [.int (nI 0), .ref (o + 1), .ref (o + 2), .ref (o + 3), .ref (o + 4), .ref (o + 5), .ref (o + 6), .ref (o + 7), .ref (o + 8), .int 0, .null]) (h9 := (o + 9, s + 808, (zk3_16 o F))) rfl ((if_neg (by omega)).trans (if_pos rfl)) rfl rfl rfl rfl ?_
  refine zG_s (st' := [.ref o]) rfl rfl ?_
  refine zG_s (st' := [.int (nI 0), .ref o]) rfl rfl ?_
  refine zN_putS (fs := [.int (nI 0), .ref (o + 1), .ref (o + 2), .ref (o + 3), .ref (o + 4), .ref (o + 5), .ref (o + 6), .ref (o + 7), .ref (o + 8), .int 0, .null]) (fs' := [.int (nI 0), .ref (o + 1), .ref (o + 2), .ref (o + 3), .ref (o + 4), .ref (o + 5), .ref (o + 6), .ref (o + 7), .ref (o + 8), .int (nI 0), .null]) (h9 := (o + 9, s + 808, (zk3_17 o F))) rfl (if_pos rfl) rfl rfl rfl rfl ?_
  refine zG_s (st' := [.ref o]) rfl rfl ?_
  refine zG_s (st' := [.int (nI 8), .ref o]) rfl rfl ?_
  refine zG_s (st' := [.ref (o + 9), .ref o]) (h' := (o + 10, s + 816, (zk3_18 o F))) rfl rfl ?_
  refine zN_putS (fs := [.int (nI 0), .ref (o + 1), .ref (o + 2), .ref (o + 3), .ref (o + 4), .ref (o + 5), .ref (o + 6), .ref (o + 7), .ref (o + 8), .int (nI 0), .null]) (fs' := [.int (nI 0), .ref (o + 1), .ref (o + 2), .ref (o + 3), .ref (o + 4), .ref (o + 5), .ref (o + 6), .ref (o + 7), .ref (o + 8), .int (nI 0), .ref (o + 9)]) (h9 := (o + 10, s + 816, (zk3_19 o F))) rfl ((if_neg (by omega)).trans (if_pos rfl)) rfl rfl rfl rfl ?_
  exact zG_ret rfl rfl rfl
def zk5_0 (o : Nat) (F : Nat → zC) : Nat → zC := fun j => if j = o + 1 then .inl (0, 256, .inl (fun _ => 0)) else F j
def zk5_1 (o : Nat) (F : Nat → zC) : Nat → zC := fun j => if j = o then .inr (5, [.ref (o + 1), .null, .null, .null]) else (zk5_0 o F) j
def zk5_2 (o : Nat) (F : Nat → zC) : Nat → zC := fun j => if j = o + 2 then .inl (0, 256, .inl (fun _ => 0)) else (zk5_1 o F) j
def zk5_3 (o : Nat) (F : Nat → zC) : Nat → zC := fun j => if j = o then .inr (5, [.ref (o + 1), .ref (o + 2), .null, .null]) else (zk5_2 o F) j
def zk5_4 (o : Nat) (F : Nat → zC) : Nat → zC := fun j => if j = o + 3 then .inl (1, 64, .inr (.inl (fun _ => 0))) else (zk5_3 o F) j
def zk5_5 (o : Nat) (F : Nat → zC) : Nat → zC := fun j => if j = o then .inr (5, [.ref (o + 1), .ref (o + 2), .ref (o + 3), .null]) else (zk5_4 o F) j
def zk5_6 (o : Nat) (F : Nat → zC) : Nat → zC := fun j => if j = o + 4 then .inl (0, 8, .inl (fun _ => 0)) else (zk5_5 o F) j
def zk5_7 (o : Nat) (F : Nat → zC) : Nat → zC := fun j => if j = o then .inr (5, [.ref (o + 1), .ref (o + 2), .ref (o + 3), .ref (o + 4)]) else (zk5_6 o F) j
def zkE5 (o : Nat) (F : Nat → zC) : Nat → zC := zk5_7 o F
theorem zk5_lt {o j : Nat} {F : Nat → zC} (h : j < o) : zkE5 o F j = F j := ((if_neg (by omega)).trans ((if_neg (by omega)).trans ((if_neg (by omega)).trans ((if_neg (by omega)).trans ((if_neg (by omega)).trans ((if_neg (by omega)).trans ((if_neg (by omega)).trans (if_neg (by omega)))))))))
theorem ci_5 {d o s : Nat} {F : Nat → zC} (hF : F o = .inr (5, zdef 5 4)) : zCall (d + 1) 45 [.ref o] (o + 1, s, F) (none, (o + 5, s + 584, zkE5 o F)) := by
  refine zG_m (t := tX5_init) (ls0 := [.ref o]) rfl rfl zdnR0 rfl ?_
  refine zG_s (st' := [.ref o]) rfl rfl ?_
  refine zG_s (st' := []) rfl rfl ?_
  refine zG_s (st' := [.ref o]) rfl rfl ?_
  refine zG_s (st' := [.int (nI 256), .ref o]) rfl rfl ?_
  refine zG_s (st' := [.ref (o + 1), .ref o]) (h' := (o + 2, s + 256, (zk5_0 o F))) rfl rfl ?_
  refine zN_putS (fs := [.null, .null, .null, .null]) (fs' := [.ref (o + 1), .null, .null, .null]) (h9 := (o + 2, s + 256, (zk5_1 o F))) rfl ((if_neg (by omega)).trans hF) rfl rfl rfl rfl ?_
  refine zG_s (st' := [.ref o]) rfl rfl ?_
  refine zG_s (st' := [.int (nI 256), .ref o]) rfl rfl ?_
  refine zG_s (st' := [.ref (o + 2), .ref o]) (h' := (o + 3, s + 512, (zk5_2 o F))) rfl rfl ?_
  refine zN_putS (fs := [.ref (o + 1), .null, .null, .null]) (fs' := [.ref (o + 1), .ref (o + 2), .null, .null]) (h9 := (o + 3, s + 512, (zk5_3 o F))) rfl ((if_neg (by omega)).trans (if_pos rfl)) rfl rfl rfl rfl ?_
  refine zG_s (st' := [.ref o]) rfl rfl ?_
  refine zG_s (st' := [.int (nI 64), .ref o]) rfl rfl ?_
  refine zG_s (st' := [.ref (o + 3), .ref o]) (h' := (o + 4, s + 576, (zk5_4 o F))) rfl rfl ?_
  refine zN_putS (fs := [.ref (o + 1), .ref (o + 2), .null, .null]) (fs' := [.ref (o + 1), .ref (o + 2), .ref (o + 3), .null]) (h9 := (o + 4, s + 576, (zk5_5 o F))) rfl ((if_neg (by omega)).trans (if_pos rfl)) rfl rfl rfl rfl ?_
  refine zG_s (st' := [.ref o]) rfl rfl ?_
  refine zG_s (st' := [.int (nI 8), .ref o]) rfl rfl ?_
  refine zG_s (st' := [.ref (o + 4), .ref o]) (h' := (o + 5, s + 584, (zk5_6 o F))) rfl rfl ?_
  refine zN_putS (fs := [.ref (o + 1), .ref (o + 2), .ref (o + 3), .null]) (fs' := [.ref (o + 1), .ref (o + 2), .ref (o + 3), .ref (o + 4)]) (h9 := (o + 5, s + 584, (zk5_7 o F))) rfl ((if_neg (by omega)).trans (if_pos rfl)) rfl rfl rfl rfl ?_
  exact zG_ret rfl rfl rfl
def zk6_0 (o : Nat) (F : Nat → zC) : Nat → zC := fun j => if j = o then .inr (6, [.int (-1), .int 0, .null]) else F j
def zk6_1 (o : Nat) (F : Nat → zC) : Nat → zC := fun j => if j = o then .inr (6, [.int (-1), .int (nI 0), .null]) else (zk6_0 o F) j
def zk6_2 (o : Nat) (F : Nat → zC) : Nat → zC := fun j => if j = o + 1 then .inl (0, 40, .inl (fun _ => 0)) else (zk6_1 o F) j
def zk6_3 (o : Nat) (F : Nat → zC) : Nat → zC := fun j => if j = o then .inr (6, [.int (-1), .int (nI 0), .ref (o + 1)]) else (zk6_2 o F) j
def zkE6 (o : Nat) (F : Nat → zC) : Nat → zC := zk6_3 o F
theorem zk6_lt {o j : Nat} {F : Nat → zC} (h : j < o) : zkE6 o F j = F j := ((if_neg (by omega)).trans ((if_neg (by omega)).trans ((if_neg (by omega)).trans (if_neg (by omega)))))
theorem ci_6 {d o s : Nat} {F : Nat → zC} (hF : F o = .inr (6, zdef 6 3)) : zCall (d + 1) 54 [.ref o] (o + 1, s, F) (none, (o + 2, s + 40, zkE6 o F)) := by
  refine zG_m (t := tX6_init) (ls0 := [.ref o]) rfl rfl zdnR0 rfl ?_
  refine zG_s (st' := [.ref o]) rfl rfl ?_
  refine zG_s (st' := []) rfl rfl ?_
  refine zG_s (st' := [.ref o]) rfl rfl ?_
  refine zG_s (st' := [.int (-1), .ref o]) rfl rfl ?_
  refine zN_putS (fs := [.int 0, .int 0, .null]) (fs' := [.int (-1), .int 0, .null]) (h9 := (o + 1, s + 0, (zk6_0 o F))) rfl hF rfl rfl rfl rfl ?_
  refine zG_s (st' := [.ref o]) rfl rfl ?_
  refine zG_s (st' := [.int (nI 0), .ref o]) rfl rfl ?_
  refine zN_putS (fs := [.int (-1), .int 0, .null]) (fs' := [.int (-1), .int (nI 0), .null]) (h9 := (o + 1, s + 0, (zk6_1 o F))) rfl (if_pos rfl) rfl rfl rfl rfl ?_
  refine zG_s (st' := [.ref o]) rfl rfl ?_
  refine zG_s (st' := [.int (nI 40), .ref o]) rfl rfl ?_
  refine zG_s (st' := [.ref (o + 1), .ref o]) (h' := (o + 2, s + 40, (zk6_2 o F))) rfl rfl ?_
  refine zN_putS (fs := [.int (-1), .int (nI 0), .null]) (fs' := [.int (-1), .int (nI 0), .ref (o + 1)]) (h9 := (o + 2, s + 40, (zk6_3 o F))) rfl ((if_neg (by omega)).trans (if_pos rfl)) rfl rfl rfl rfl ?_
  exact zG_ret rfl rfl rfl
def zk7_0 (o : Nat) (F : Nat → zC) : Nat → zC := fun j => if j = o then .inr (7, [.int (nI 0), .null, .null]) else F j
def zk7_1 (o : Nat) (F : Nat → zC) : Nat → zC := fun j => if j = o + 1 then .inl (0, 8, .inl (fun _ => 0)) else (zk7_0 o F) j
def zk7_2 (o : Nat) (F : Nat → zC) : Nat → zC := fun j => if j = o then .inr (7, [.int (nI 0), .ref (o + 1), .null]) else (zk7_1 o F) j
def zk7_3 (o : Nat) (F : Nat → zC) : Nat → zC := fun j => if j = o + 2 then .inl (0, 8, .inl (fun _ => 0)) else (zk7_2 o F) j
def zk7_4 (o : Nat) (F : Nat → zC) : Nat → zC := fun j => if j = o then .inr (7, [.int (nI 0), .ref (o + 1), .ref (o + 2)]) else (zk7_3 o F) j
def zkE7 (o : Nat) (F : Nat → zC) : Nat → zC := zk7_4 o F
theorem zk7_lt {o j : Nat} {F : Nat → zC} (h : j < o) : zkE7 o F j = F j := ((if_neg (by omega)).trans ((if_neg (by omega)).trans ((if_neg (by omega)).trans ((if_neg (by omega)).trans (if_neg (by omega))))))
theorem ci_7 {d o s : Nat} {F : Nat → zC} (hF : F o = .inr (7, zdef 7 3)) : zCall (d + 1) 58 [.ref o] (o + 1, s, F) (none, (o + 3, s + 16, zkE7 o F)) := by
  refine zG_m (t := tX7_init) (ls0 := [.ref o]) rfl rfl zdnR0 rfl ?_
  refine zG_s (st' := [.ref o]) rfl rfl ?_
  refine zG_s (st' := []) rfl rfl ?_
  refine zG_s (st' := [.ref o]) rfl rfl ?_
  refine zG_s (st' := [.int (nI 0), .ref o]) rfl rfl ?_
  refine zN_putS (fs := [.int 0, .null, .null]) (fs' := [.int (nI 0), .null, .null]) (h9 := (o + 1, s + 0, (zk7_0 o F))) rfl hF rfl rfl rfl rfl ?_
  refine zG_s (st' := [.ref o]) rfl rfl ?_
  refine zG_s (st' := [.int (nI 8), .ref o]) rfl rfl ?_
  refine zG_s (st' := [.ref (o + 1), .ref o]) (h' := (o + 2, s + 8, (zk7_1 o F))) rfl rfl ?_
  refine zN_putS (fs := [.int (nI 0), .null, .null]) (fs' := [.int (nI 0), .ref (o + 1), .null]) (h9 := (o + 2, s + 8, (zk7_2 o F))) rfl ((if_neg (by omega)).trans (if_pos rfl)) rfl rfl rfl rfl ?_
  refine zG_s (st' := [.ref o]) rfl rfl ?_
  refine zG_s (st' := [.int (nI 8), .ref o]) rfl rfl ?_
  refine zG_s (st' := [.ref (o + 2), .ref o]) (h' := (o + 3, s + 16, (zk7_3 o F))) rfl rfl ?_
  refine zN_putS (fs := [.int (nI 0), .ref (o + 1), .null]) (fs' := [.int (nI 0), .ref (o + 1), .ref (o + 2)]) (h9 := (o + 3, s + 16, (zk7_4 o F))) rfl ((if_neg (by omega)).trans (if_pos rfl)) rfl rfl rfl rfl ?_
  exact zG_ret rfl rfl rfl
def zk8_0 (o : Nat) (F : Nat → zC) : Nat → zC := fun j => if j = o + 1 then .inl (2, 100, .inl (fun _ => 0)) else F j
def zk8_1 (o : Nat) (F : Nat → zC) : Nat → zC := fun j => if j = o then .inr (8, [.ref (o + 1), .int 0, .int 0]) else (zk8_0 o F) j
def zk8_2 (o : Nat) (F : Nat → zC) : Nat → zC := fun j => if j = o then .inr (8, [.ref (o + 1), .int (nI 0), .int 0]) else (zk8_1 o F) j
def zk8_3 (o : Nat) (F : Nat → zC) : Nat → zC := fun j => if j = o then .inr (8, [.ref (o + 1), .int (nI 0), .int (nI 0)]) else (zk8_2 o F) j
def zkE8 (o : Nat) (F : Nat → zC) : Nat → zC := zk8_3 o F
theorem zk8_lt {o j : Nat} {F : Nat → zC} (h : j < o) : zkE8 o F j = F j := ((if_neg (by omega)).trans ((if_neg (by omega)).trans ((if_neg (by omega)).trans (if_neg (by omega)))))
theorem ci_8 {d o s : Nat} {F : Nat → zC} (hF : F o = .inr (8, zdef 8 3)) : zCall (d + 1) 90 [.ref o] (o + 1, s, F) (none, (o + 2, s + 100, zkE8 o F)) := by
  refine zG_m (t := tX8_init) (ls0 := [.ref o]) rfl rfl zdnR0 rfl ?_
  refine zG_s (st' := [.ref o]) rfl rfl ?_
  refine zG_s (st' := []) rfl rfl ?_
  refine zG_s (st' := [.ref o]) rfl rfl ?_
  refine zG_s (st' := [.int (nI 100), .ref o]) rfl rfl ?_
  refine zG_s (st' := [.ref (o + 1), .ref o]) (h' := (o + 2, s + 100, (zk8_0 o F))) rfl rfl ?_
  refine zN_putS (fs := [.null, .int 0, .int 0]) (fs' := [.ref (o + 1), .int 0, .int 0]) (h9 := (o + 2, s + 100, (zk8_1 o F))) rfl ((if_neg (by omega)).trans hF) rfl rfl rfl rfl ?_
  refine zG_s (st' := [.ref o]) rfl rfl ?_
  refine zG_s (st' := [.int (nI 0), .ref o]) rfl rfl ?_
  refine zN_putS (fs := [.ref (o + 1), .int 0, .int 0]) (fs' := [.ref (o + 1), .int (nI 0), .int 0]) (h9 := (o + 2, s + 100, (zk8_2 o F))) rfl (if_pos rfl) rfl rfl rfl rfl ?_
  refine zG_s (st' := [.ref o]) rfl rfl ?_
  refine zG_s (st' := [.int (nI 0), .ref o]) rfl rfl ?_
  refine zN_putS (fs := [.ref (o + 1), .int (nI 0), .int 0]) (fs' := [.ref (o + 1), .int (nI 0), .int (nI 0)]) (h9 := (o + 2, s + 100, (zk8_3 o F))) rfl (if_pos rfl) rfl rfl rfl rfl ?_
  exact zG_ret rfl rfl rfl
def zk1_0 (o : Nat) (F : Nat → zC) : Nat → zC := fun j => if j = o + 1 then .inr (7, zdef 7 3) else F j
def zk1_1 (o : Nat) (F : Nat → zC) : Nat → zC := zkE7 (o + 1) (zk1_0 o F)
def zk1_2 (o : Nat) (F : Nat → zC) : Nat → zC := fun j => if j = o then .inr (1, [.ref (o + 1), .null, .int 0, .null, .null, .null, .null, .null, .null, .null]) else (zk1_1 o F) j
def zk1_3 (o : Nat) (F : Nat → zC) : Nat → zC := fun j => if j = o + 4 then .inl (0, 5, .inl (fun _ => 0)) else (zk1_2 o F) j
def zk1_4 (o : Nat) (F : Nat → zC) : Nat → zC := fun j => if j = o then .inr (1, [.ref (o + 1), .ref (o + 4), .int 0, .null, .null, .null, .null, .null, .null, .null]) else (zk1_3 o F) j
def zk1_5 (o : Nat) (F : Nat → zC) : Nat → zC := fun j => if j = o then .inr (1, [.ref (o + 1), .ref (o + 4), .int (nI 0), .null, .null, .null, .null, .null, .null, .null]) else (zk1_4 o F) j
def zk1_6 (o : Nat) (F : Nat → zC) : Nat → zC := fun j => if j = o + 5 then .inl (3, 5, .inl (fun _ => 0)) else (zk1_5 o F) j
def zk1_7 (o : Nat) (F : Nat → zC) : Nat → zC := fun j => if j = o then .inr (1, [.ref (o + 1), .ref (o + 4), .int (nI 0), .ref (o + 5), .null, .null, .null, .null, .null, .null]) else (zk1_6 o F) j
def zk1_8 (o : Nat) (F : Nat → zC) : Nat → zC := fun j => if j = o + 6 then .inl (0, 5, .inl (fun _ => 0)) else (zk1_7 o F) j
def zk1_9 (o : Nat) (F : Nat → zC) : Nat → zC := fun j => if j = o then .inr (1, [.ref (o + 1), .ref (o + 4), .int (nI 0), .ref (o + 5), .ref (o + 6), .null, .null, .null, .null, .null]) else (zk1_8 o F) j
def zk1_10 (o : Nat) (F : Nat → zC) : Nat → zC := fun j => if j = o + 7 then .inl (0, 5, .inl (fun _ => 0)) else (zk1_9 o F) j
def zk1_11 (o : Nat) (F : Nat → zC) : Nat → zC := fun j => if j = o then .inr (1, [.ref (o + 1), .ref (o + 4), .int (nI 0), .ref (o + 5), .ref (o + 6), .ref (o + 7), .null, .null, .null, .null]) else (zk1_10 o F) j
def zk1_12 (o : Nat) (F : Nat → zC) : Nat → zC := fun j => if j = o + 8 then .inl (0, 5, .inl (fun _ => 0)) else (zk1_11 o F) j
def zk1_13 (o : Nat) (F : Nat → zC) : Nat → zC := fun j => if j = o then .inr (1, [.ref (o + 1), .ref (o + 4), .int (nI 0), .ref (o + 5), .ref (o + 6), .ref (o + 7), .ref (o + 8), .null, .null, .null]) else (zk1_12 o F) j
def zk1_14 (o : Nat) (F : Nat → zC) : Nat → zC := fun j => if j = o + 9 then .inl (6, 5, .inr (.inr (fun i => if i < 5 then some (o + 9 + 1 + i) else none))) else if o + 9 < j ∧ j < o + 9 + 1 + 5 then .inl (0, 33, .inl (fun _ => 0)) else (zk1_13 o F) j
def zk1_15 (o : Nat) (F : Nat → zC) : Nat → zC := fun j => if j = o then .inr (1, [.ref (o + 1), .ref (o + 4), .int (nI 0), .ref (o + 5), .ref (o + 6), .ref (o + 7), .ref (o + 8), .ref (o + 9), .null, .null]) else (zk1_14 o F) j
def zk1_16 (o : Nat) (F : Nat → zC) : Nat → zC := fun j => if j = o + 15 then .inl (6, 5, .inr (.inr (fun i => if i < 5 then some (o + 15 + 1 + i) else none))) else if o + 15 < j ∧ j < o + 15 + 1 + 5 then .inl (0, 33, .inl (fun _ => 0)) else (zk1_15 o F) j
def zk1_17 (o : Nat) (F : Nat → zC) : Nat → zC := fun j => if j = o then .inr (1, [.ref (o + 1), .ref (o + 4), .int (nI 0), .ref (o + 5), .ref (o + 6), .ref (o + 7), .ref (o + 8), .ref (o + 9), .ref (o + 15), .null]) else (zk1_16 o F) j
def zk1_18 (o : Nat) (F : Nat → zC) : Nat → zC := fun j => if j = o + 21 then .inl (6, 5, .inr (.inr (fun i => if i < 5 then some (o + 21 + 1 + i) else none))) else if o + 21 < j ∧ j < o + 21 + 1 + 5 then .inl (0, 33, .inl (fun _ => 0)) else (zk1_17 o F) j
def zk1_19 (o : Nat) (F : Nat → zC) : Nat → zC := fun j => if j = o then .inr (1, [.ref (o + 1), .ref (o + 4), .int (nI 0), .ref (o + 5), .ref (o + 6), .ref (o + 7), .ref (o + 8), .ref (o + 9), .ref (o + 15), .ref (o + 21)]) else (zk1_18 o F) j
def zkE1 (o : Nat) (F : Nat → zC) : Nat → zC := zk1_19 o F
theorem zk1_lt {o j : Nat} {F : Nat → zC} (h : j < o) : zkE1 o F j = F j := ((if_neg (by omega)).trans (((if_neg (by omega)).trans (if_neg (by omega))).trans ((if_neg (by omega)).trans (((if_neg (by omega)).trans (if_neg (by omega))).trans ((if_neg (by omega)).trans (((if_neg (by omega)).trans (if_neg (by omega))).trans ((if_neg (by omega)).trans ((if_neg (by omega)).trans ((if_neg (by omega)).trans ((if_neg (by omega)).trans ((if_neg (by omega)).trans ((if_neg (by omega)).trans ((if_neg (by omega)).trans ((if_neg (by omega)).trans ((if_neg (by omega)).trans ((if_neg (by omega)).trans ((if_neg (by omega)).trans ((if_neg (by omega)).trans ((zk7_lt (by omega)).trans (if_neg (by omega)))))))))))))))))))))
theorem ci_1 {d o s : Nat} {F : Nat → zC} (hF : F o = .inr (1, zdef 1 10)) : zCall (d + 2) 8 [.ref o] (o + 1, s, F) (none, (o + 27, s + 554, zkE1 o F)) := by
  refine zG_m (t := tX1_init) (ls0 := [.ref o]) rfl rfl zdnR0 rfl ?_
  refine zG_s (st' := [.ref o]) rfl rfl ?_
  refine zG_s (st' := []) rfl rfl ?_
  refine zG_s (st' := [.ref o]) rfl rfl ?_
  refine zG_s (st' := [.ref (o + 1), .ref o]) (h' := (o + 2, s + 3, (zk1_0 o F))) rfl rfl ?_
  refine zG_s (st' := [.ref (o + 1), .ref (o + 1), .ref o]) rfl rfl ?_
  refine zG_cS0 (h1 := (o + 4, s + 19, (zk1_1 o F))) (st' := [.ref (o + 1), .ref o]) rfl rfl (ci_7 (o := o + 1) (if_pos rfl)) ?_
  refine zN_putS (fs := [.null, .null, .int 0, .null, .null, .null, .null, .null, .null, .null]) (fs' := [.ref (o + 1), .null, .int 0, .null, .null, .null, .null, .null, .null, .null]) (h9 := (o + 4, s + 19, (zk1_2 o F))) rfl ((zk7_lt (by omega)).trans ((if_neg (by omega)).trans hF)) rfl rfl rfl rfl ?_
  refine zG_s (st' := [.ref o]) rfl rfl ?_
  refine zG_s (st' := [.int (nI 5), .ref o]) rfl rfl ?_
  refine zG_s (st' := [.ref (o + 4), .ref o]) (h' := (o + 5, s + 24, (zk1_3 o F))) rfl rfl ?_
  refine zN_putS (fs := [.ref (o + 1), .null, .int 0, .null, .null, .null, .null, .null, .null, .null]) (fs' := [.ref (o + 1), .ref (o + 4), .int 0, .null, .null, .null, .null, .null, .null, .null]) (h9 := (o + 5, s + 24, (zk1_4 o F))) rfl ((if_neg (by omega)).trans (if_pos rfl)) rfl rfl rfl rfl ?_
  refine zG_s (st' := [.ref o]) rfl rfl ?_
  refine zG_s (st' := [.int (nI 0), .ref o]) rfl rfl ?_
  refine zN_putS (fs := [.ref (o + 1), .ref (o + 4), .int 0, .null, .null, .null, .null, .null, .null, .null]) (fs' := [.ref (o + 1), .ref (o + 4), .int (nI 0), .null, .null, .null, .null, .null, .null, .null]) (h9 := (o + 5, s + 24, (zk1_5 o F))) rfl (if_pos rfl) rfl rfl rfl rfl ?_
  refine zG_s (st' := [.ref o]) rfl rfl ?_
  refine zG_s (st' := [.int (nI 5), .ref o]) rfl rfl ?_
  refine zG_s (st' := [.ref (o + 5), .ref o]) (h' := (o + 6, s + 29, (zk1_6 o F))) rfl rfl ?_
  refine zN_putS (fs := [.ref (o + 1), .ref (o + 4), .int (nI 0), .null, .null, .null, .null, .null, .null, .null]) (fs' := [.ref (o + 1), .ref (o + 4), .int (nI 0), .ref (o + 5), .null, .null, .null, .null, .null, .null]) (h9 := (o + 6, s + 29, (zk1_7 o F))) rfl ((if_neg (by omega)).trans (if_pos rfl)) rfl rfl rfl rfl ?_
  refine zG_s (st' := [.ref o]) rfl rfl ?_
  refine zG_s (st' := [.int (nI 5), .ref o]) rfl rfl ?_
  refine zG_s (st' := [.ref (o + 6), .ref o]) (h' := (o + 7, s + 34, (zk1_8 o F))) rfl rfl ?_
  refine zN_putS (fs := [.ref (o + 1), .ref (o + 4), .int (nI 0), .ref (o + 5), .null, .null, .null, .null, .null, .null]) (fs' := [.ref (o + 1), .ref (o + 4), .int (nI 0), .ref (o + 5), .ref (o + 6), .null, .null, .null, .null, .null]) (h9 := (o + 7, s + 34, (zk1_9 o F))) rfl ((if_neg (by omega)).trans (if_pos rfl)) rfl rfl rfl rfl ?_
  refine zG_s (st' := [.ref o]) rfl rfl ?_
  refine zG_s (st' := [.int (nI 5), .ref o]) rfl rfl ?_
  refine zG_s (st' := [.ref (o + 7), .ref o]) (h' := (o + 8, s + 39, (zk1_10 o F))) rfl rfl ?_
  refine zN_putS (fs := [.ref (o + 1), .ref (o + 4), .int (nI 0), .ref (o + 5), .ref (o + 6), .null, .null, .null, .null, .null]) (fs' := [.ref (o + 1), .ref (o + 4), .int (nI 0), .ref (o + 5), .ref (o + 6), .ref (o + 7), .null, .null, .null, .null]) (h9 := (o + 8, s + 39, (zk1_11 o F))) rfl ((if_neg (by omega)).trans (if_pos rfl)) rfl rfl rfl rfl ?_
  refine zG_s (st' := [.ref o]) rfl rfl ?_
  refine zG_s (st' := [.int (nI 5), .ref o]) rfl rfl ?_
  refine zG_s (st' := [.ref (o + 8), .ref o]) (h' := (o + 9, s + 44, (zk1_12 o F))) rfl rfl ?_
  refine zN_putS (fs := [.ref (o + 1), .ref (o + 4), .int (nI 0), .ref (o + 5), .ref (o + 6), .ref (o + 7), .null, .null, .null, .null]) (fs' := [.ref (o + 1), .ref (o + 4), .int (nI 0), .ref (o + 5), .ref (o + 6), .ref (o + 7), .ref (o + 8), .null, .null, .null]) (h9 := (o + 9, s + 44, (zk1_13 o F))) rfl ((if_neg (by omega)).trans (if_pos rfl)) rfl rfl rfl rfl ?_
  refine zG_s (st' := [.ref o]) rfl rfl ?_
  refine zG_s (st' := [.int (nI 5), .ref o]) rfl rfl ?_
  refine zG_s (st' := [.int (nI 33), .int (nI 5), .ref o]) rfl rfl ?_
  refine zG_s (st' := [.ref (o + 9), .ref o]) (h' := (o + 15, s + 214, (zk1_14 o F))) rfl rfl ?_
  refine zN_putS (fs := [.ref (o + 1), .ref (o + 4), .int (nI 0), .ref (o + 5), .ref (o + 6), .ref (o + 7), .ref (o + 8), .null, .null, .null]) (fs' := [.ref (o + 1), .ref (o + 4), .int (nI 0), .ref (o + 5), .ref (o + 6), .ref (o + 7), .ref (o + 8), .ref (o + 9), .null, .null]) (h9 := (o + 15, s + 214, (zk1_15 o F))) rfl (((if_neg (by omega)).trans (if_neg (by omega))).trans (if_pos rfl)) rfl rfl rfl rfl ?_
  refine zG_s (st' := [.ref o]) rfl rfl ?_
  refine zG_s (st' := [.int (nI 5), .ref o]) rfl rfl ?_
  refine zG_s (st' := [.int (nI 33), .int (nI 5), .ref o]) rfl rfl ?_
  refine zG_s (st' := [.ref (o + 15), .ref o]) (h' := (o + 21, s + 384, (zk1_16 o F))) rfl rfl ?_
  refine zN_putS (fs := [.ref (o + 1), .ref (o + 4), .int (nI 0), .ref (o + 5), .ref (o + 6), .ref (o + 7), .ref (o + 8), .ref (o + 9), .null, .null]) (fs' := [.ref (o + 1), .ref (o + 4), .int (nI 0), .ref (o + 5), .ref (o + 6), .ref (o + 7), .ref (o + 8), .ref (o + 9), .ref (o + 15), .null]) (h9 := (o + 21, s + 384, (zk1_17 o F))) rfl (((if_neg (by omega)).trans (if_neg (by omega))).trans (if_pos rfl)) rfl rfl rfl rfl ?_
  refine zG_s (st' := [.ref o]) rfl rfl ?_
  refine zG_s (st' := [.int (nI 5), .ref o]) rfl rfl ?_
  refine zG_s (st' := [.int (nI 33), .int (nI 5), .ref o]) rfl rfl ?_
  refine zG_s (st' := [.ref (o + 21), .ref o]) (h' := (o + 27, s + 554, (zk1_18 o F))) rfl rfl ?_
  refine zN_putS (fs := [.ref (o + 1), .ref (o + 4), .int (nI 0), .ref (o + 5), .ref (o + 6), .ref (o + 7), .ref (o + 8), .ref (o + 9), .ref (o + 15), .null]) (fs' := [.ref (o + 1), .ref (o + 4), .int (nI 0), .ref (o + 5), .ref (o + 6), .ref (o + 7), .ref (o + 8), .ref (o + 9), .ref (o + 15), .ref (o + 21)]) (h9 := (o + 27, s + 554, (zk1_19 o F))) rfl (((if_neg (by omega)).trans (if_neg (by omega))).trans (if_pos rfl)) rfl rfl rfl rfl ?_
  exact zG_ret rfl rfl rfl
def zk4_0 (o : Nat) (F : Nat → zC) : Nat → zC := fun j => if j = o + 1 then .inr (7, zdef 7 3) else F j
def zk4_1 (o : Nat) (F : Nat → zC) : Nat → zC := zkE7 (o + 1) (zk4_0 o F)
def zk4_2 (o : Nat) (F : Nat → zC) : Nat → zC := fun j => if j = o then .inr (4, [.ref (o + 1), .null, .null, .int 0, .int 0]) else (zk4_1 o F) j
def zk4_3 (o : Nat) (F : Nat → zC) : Nat → zC := fun j => if j = o + 4 then .inr (7, zdef 7 3) else (zk4_2 o F) j
def zk4_4 (o : Nat) (F : Nat → zC) : Nat → zC := zkE7 (o + 4) (zk4_3 o F)
def zk4_5 (o : Nat) (F : Nat → zC) : Nat → zC := fun j => if j = o then .inr (4, [.ref (o + 1), .ref (o + 4), .null, .int 0, .int 0]) else (zk4_4 o F) j
def zk4_6 (o : Nat) (F : Nat → zC) : Nat → zC := fun j => if j = o + 7 then .inl (0, 8, .inl (fun _ => 0)) else (zk4_5 o F) j
def zk4_7 (o : Nat) (F : Nat → zC) : Nat → zC := fun j => if j = o then .inr (4, [.ref (o + 1), .ref (o + 4), .ref (o + 7), .int 0, .int 0]) else (zk4_6 o F) j
def zk4_8 (o : Nat) (F : Nat → zC) : Nat → zC := fun j => if j = o then .inr (4, [.ref (o + 1), .ref (o + 4), .ref (o + 7), .int (nI 0), .int 0]) else (zk4_7 o F) j
def zk4_9 (o : Nat) (F : Nat → zC) : Nat → zC := fun j => if j = o then .inr (4, [.ref (o + 1), .ref (o + 4), .ref (o + 7), .int (nI 0), .int (nI 0)]) else (zk4_8 o F) j
def zkE4 (o : Nat) (F : Nat → zC) : Nat → zC := zk4_9 o F
theorem zk4_lt {o j : Nat} {F : Nat → zC} (h : j < o) : zkE4 o F j = F j := ((if_neg (by omega)).trans ((if_neg (by omega)).trans ((if_neg (by omega)).trans ((if_neg (by omega)).trans ((if_neg (by omega)).trans ((zk7_lt (by omega)).trans ((if_neg (by omega)).trans ((if_neg (by omega)).trans ((zk7_lt (by omega)).trans (if_neg (by omega)))))))))))
theorem ci_4 {d o s : Nat} {F : Nat → zC} (hF : F o = .inr (4, zdef 4 5)) : zCall (d + 2) 39 [.ref o] (o + 1, s, F) (none, (o + 8, s + 46, zkE4 o F)) := by
  refine zG_m (t := tX4_init) (ls0 := [.ref o]) rfl rfl zdnR0 rfl ?_
  refine zG_s (st' := [.ref o]) rfl rfl ?_
  refine zG_s (st' := []) rfl rfl ?_
  refine zG_s (st' := [.ref o]) rfl rfl ?_
  refine zG_s (st' := [.ref (o + 1), .ref o]) (h' := (o + 2, s + 3, (zk4_0 o F))) rfl rfl ?_
  refine zG_s (st' := [.ref (o + 1), .ref (o + 1), .ref o]) rfl rfl ?_
  refine zG_cS0 (h1 := (o + 4, s + 19, (zk4_1 o F))) (st' := [.ref (o + 1), .ref o]) rfl rfl (ci_7 (o := o + 1) (if_pos rfl)) ?_
  refine zN_putS (fs := [.null, .null, .null, .int 0, .int 0]) (fs' := [.ref (o + 1), .null, .null, .int 0, .int 0]) (h9 := (o + 4, s + 19, (zk4_2 o F))) rfl ((zk7_lt (by omega)).trans ((if_neg (by omega)).trans hF)) rfl rfl rfl rfl ?_
  refine zG_s (st' := [.ref o]) rfl rfl ?_
  refine zG_s (st' := [.ref (o + 4), .ref o]) (h' := (o + 5, s + 22, (zk4_3 o F))) rfl rfl ?_
  refine zG_s (st' := [.ref (o + 4), .ref (o + 4), .ref o]) rfl rfl ?_
  refine zG_cS0 (h1 := (o + 7, s + 38, (zk4_4 o F))) (st' := [.ref (o + 4), .ref o]) rfl rfl (ci_7 (o := o + 4) (if_pos rfl)) ?_
  refine zN_putS (fs := [.ref (o + 1), .null, .null, .int 0, .int 0]) (fs' := [.ref (o + 1), .ref (o + 4), .null, .int 0, .int 0]) (h9 := (o + 7, s + 38, (zk4_5 o F))) rfl ((zk7_lt (by omega)).trans ((if_neg (by omega)).trans (if_pos rfl))) rfl rfl rfl rfl ?_
  refine zG_s (st' := [.ref o]) rfl rfl ?_
  refine zG_s (st' := [.int (nI 8), .ref o]) rfl rfl ?_
  refine zG_s (st' := [.ref (o + 7), .ref o]) (h' := (o + 8, s + 46, (zk4_6 o F))) rfl rfl ?_
  refine zN_putS (fs := [.ref (o + 1), .ref (o + 4), .null, .int 0, .int 0]) (fs' := [.ref (o + 1), .ref (o + 4), .ref (o + 7), .int 0, .int 0]) (h9 := (o + 8, s + 46, (zk4_7 o F))) rfl ((if_neg (by omega)).trans (if_pos rfl)) rfl rfl rfl rfl ?_
  refine zG_s (st' := [.ref o]) rfl rfl ?_
  refine zG_s (st' := [.int (nI 0), .ref o]) rfl rfl ?_
  refine zN_putS (fs := [.ref (o + 1), .ref (o + 4), .ref (o + 7), .int 0, .int 0]) (fs' := [.ref (o + 1), .ref (o + 4), .ref (o + 7), .int (nI 0), .int 0]) (h9 := (o + 8, s + 46, (zk4_8 o F))) rfl (if_pos rfl) rfl rfl rfl rfl ?_
  refine zG_s (st' := [.ref o]) rfl rfl ?_
  refine zG_s (st' := [.int (nI 0), .ref o]) rfl rfl ?_
  refine zN_putS (fs := [.ref (o + 1), .ref (o + 4), .ref (o + 7), .int (nI 0), .int 0]) (fs' := [.ref (o + 1), .ref (o + 4), .ref (o + 7), .int (nI 0), .int (nI 0)]) (h9 := (o + 8, s + 46, (zk4_9 o F))) rfl (if_pos rfl) rfl rfl rfl rfl ?_
  exact zG_ret rfl rfl rfl
