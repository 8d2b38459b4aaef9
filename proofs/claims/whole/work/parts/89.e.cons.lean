def zk9_0 (F : Nat → zC) : Nat → zC := fun j => if j = 3 then .inl (4, 6, .inr (.inr (fun _ => none))) else F j
def zk9_1 (F : Nat → zC) : Nat → zC := fun j => if j = 2 then .inr (9, [.ref 3, .null, .null, .null, .null, .null, .null, .null, .null, .null, .null, .null, .null, .int 0, .int 0, .int 0]) else (zk9_0 F) j
def zk9_2 (F : Nat → zC) : Nat → zC := fun j => if j = 4 then .inl (4, 6, .inr (.inr (fun _ => none))) else (zk9_1 F) j
def zk9_3 (F : Nat → zC) : Nat → zC := fun j => if j = 2 then .inr (9, [.ref 3, .ref 4, .null, .null, .null, .null, .null, .null, .null, .null, .null, .null, .null, .int 0, .int 0, .int 0]) else (zk9_2 F) j
def zk9_4 (F : Nat → zC) : Nat → zC := fun j => if j = 5 then .inr (7, zdef 7 3) else (zk9_3 F) j
def zk9_5 (F : Nat → zC) : Nat → zC := zkE7 (5) (zk9_4 F)
def zk9_6 (F : Nat → zC) : Nat → zC := fun j => if j = 2 then .inr (9, [.ref 3, .ref 4, .ref 5, .null, .null, .null, .null, .null, .null, .null, .null, .null, .null, .int 0, .int 0, .int 0]) else (zk9_5 F) j
def zk9_7 (F : Nat → zC) : Nat → zC := fun j => if j = 8 then .inr (3, zdef 3 11) else (zk9_6 F) j
def zk9_8 (F : Nat → zC) : Nat → zC := zkE3 (8) (zk9_7 F)
def zk9_9 (F : Nat → zC) : Nat → zC := fun j => if j = 2 then .inr (9, [.ref 3, .ref 4, .ref 5, .ref 8, .null, .null, .null, .null, .null, .null, .null, .null, .null, .int 0, .int 0, .int 0]) else (zk9_8 F) j
def zk9_10 (F : Nat → zC) : Nat → zC := fun j => if j = 18 then .inr (4, zdef 4 5) else (zk9_9 F) j
def zk9_11 (F : Nat → zC) : Nat → zC := zkE4 (18) (zk9_10 F)
def zk9_12 (F : Nat → zC) : Nat → zC := fun j => if j = 2 then .inr (9, [.ref 3, .ref 4, .ref 5, .ref 8, .ref 18, .null, .null, .null, .null, .null, .null, .null, .null, .int 0, .int 0, .int 0]) else (zk9_11 F) j
def zk9_13 (F : Nat → zC) : Nat → zC := fun j => if j = 26 then .inr (2, zdef 2 2) else (zk9_12 F) j
def zk9_14 (F : Nat → zC) : Nat → zC := zkE2 (26) (zk9_13 F)
def zk9_15 (F : Nat → zC) : Nat → zC := fun j => if j = 2 then .inr (9, [.ref 3, .ref 4, .ref 5, .ref 8, .ref 18, .ref 26, .null, .null, .null, .null, .null, .null, .null, .int 0, .int 0, .int 0]) else (zk9_14 F) j
def zk9_16 (F : Nat → zC) : Nat → zC := fun j => if j = 29 then .inr (1, zdef 1 10) else (zk9_15 F) j
def zk9_17 (F : Nat → zC) : Nat → zC := zkE1 (29) (zk9_16 F)
def zk9_18 (F : Nat → zC) : Nat → zC := fun j => if j = 2 then .inr (9, [.ref 3, .ref 4, .ref 5, .ref 8, .ref 18, .ref 26, .ref 29, .null, .null, .null, .null, .null, .null, .int 0, .int 0, .int 0]) else (zk9_17 F) j
def zk9_19 (F : Nat → zC) : Nat → zC := fun j => if j = 56 then .inr (5, zdef 5 4) else (zk9_18 F) j
def zk9_20 (F : Nat → zC) : Nat → zC := zkE5 (56) (zk9_19 F)
def zk9_21 (F : Nat → zC) : Nat → zC := fun j => if j = 2 then .inr (9, [.ref 3, .ref 4, .ref 5, .ref 8, .ref 18, .ref 26, .ref 29, .ref 56, .null, .null, .null, .null, .null, .int 0, .int 0, .int 0]) else (zk9_20 F) j
def zk9_22 (F : Nat → zC) : Nat → zC := fun j => if j = 61 then .inr (8, zdef 8 3) else (zk9_21 F) j
def zk9_23 (F : Nat → zC) : Nat → zC := zkE8 (61) (zk9_22 F)
def zk9_24 (F : Nat → zC) : Nat → zC := fun j => if j = 2 then .inr (9, [.ref 3, .ref 4, .ref 5, .ref 8, .ref 18, .ref 26, .ref 29, .ref 56, .ref 61, .null, .null, .null, .null, .int 0, .int 0, .int 0]) else (zk9_23 F) j
def zk9_25 (F : Nat → zC) : Nat → zC := fun j => if j = 63 then .inr (0, zdef 0 3) else (zk9_24 F) j
def zk9_26 (F : Nat → zC) : Nat → zC := zkE0 (63) (zk9_25 F)
def zk9_27 (F : Nat → zC) : Nat → zC := fun j => if j = 2 then .inr (9, [.ref 3, .ref 4, .ref 5, .ref 8, .ref 18, .ref 26, .ref 29, .ref 56, .ref 61, .ref 63, .null, .null, .null, .int 0, .int 0, .int 0]) else (zk9_26 F) j
def zk9_28 (F : Nat → zC) : Nat → zC := fun j => if j = 65 then .inl (5, 4, .inr (.inr (fun _ => none))) else (zk9_27 F) j
def zk9_29 (F : Nat → zC) : Nat → zC := fun j => if j = 2 then .inr (9, [.ref 3, .ref 4, .ref 5, .ref 8, .ref 18, .ref 26, .ref 29, .ref 56, .ref 61, .ref 63, .ref 65, .null, .null, .int 0, .int 0, .int 0]) else (zk9_28 F) j
def zk9_30 (F : Nat → zC) : Nat → zC := fun j => if j = 66 then .inl (0, 4, .inl (fun _ => 0)) else (zk9_29 F) j
def zk9_31 (F : Nat → zC) : Nat → zC := fun j => if j = 2 then .inr (9, [.ref 3, .ref 4, .ref 5, .ref 8, .ref 18, .ref 26, .ref 29, .ref 56, .ref 61, .ref 63, .ref 65, .ref 66, .null, .int 0, .int 0, .int 0]) else (zk9_30 F) j
def zk9_32 (F : Nat → zC) : Nat → zC := fun j => if j = 67 then .inl (0, 4, .inl (fun _ => 0)) else (zk9_31 F) j
def zk9_33 (F : Nat → zC) : Nat → zC := fun j => if j = 2 then .inr (9, [.ref 3, .ref 4, .ref 5, .ref 8, .ref 18, .ref 26, .ref 29, .ref 56, .ref 61, .ref 63, .ref 65, .ref 66, .ref 67, .int 0, .int 0, .int 0]) else (zk9_32 F) j
def zk9_34 (F : Nat → zC) : Nat → zC := fun j => if j = 2 then .inr (9, [.ref 3, .ref 4, .ref 5, .ref 8, .ref 18, .ref 26, .ref 29, .ref 56, .ref 61, .ref 63, .ref 65, .ref 66, .ref 67, .int (nI 1), .int 0, .int 0]) else (zk9_33 F) j
def zk9_35 (F : Nat → zC) : Nat → zC := fun j => if j = 2 then .inr (9, [.ref 3, .ref 4, .ref 5, .ref 8, .ref 18, .ref 26, .ref 29, .ref 56, .ref 61, .ref 63, .ref 65, .ref 66, .ref 67, .int (nI 1), .int (nI 1), .int 0]) else (zk9_34 F) j
def zk9_36 (F : Nat → zC) : Nat → zC := fun j => if j = 2 then .inr (9, [.ref 3, .ref 4, .ref 5, .ref 8, .ref 18, .ref 26, .ref 29, .ref 56, .ref 61, .ref 63, .ref 65, .ref 66, .ref 67, .int (nI 1), .int (nI 1), .int (nI 0)]) else (zk9_35 F) j
def zk9_37 (F : Nat → zC) : Nat → zC := fun j => if j = 68 then .inr (7, zdef 7 3) else (zk9_36 F) j
def zk9_38 (F : Nat → zC) : Nat → zC := zkE7 (68) (zk9_37 F)
def zk9_39 (F : Nat → zC) : Nat → zC := fun j => if j = 3 then .inl (4, 6, .inr (.inr (va_up (fun _ => none) 0 (some 68)))) else (zk9_38 F) j
def zk9_40 (F : Nat → zC) : Nat → zC := fun j => if j = 71 then .inr (7, zdef 7 3) else (zk9_39 F) j
def zk9_41 (F : Nat → zC) : Nat → zC := zkE7 (71) (zk9_40 F)
def zk9_42 (F : Nat → zC) : Nat → zC := fun j => if j = 4 then .inl (4, 6, .inr (.inr (va_up (fun _ => none) 0 (some 71)))) else (zk9_41 F) j
def zk9_43 (F : Nat → zC) : Nat → zC := fun j => if j = 74 then .inr (7, zdef 7 3) else (zk9_42 F) j
def zk9_44 (F : Nat → zC) : Nat → zC := zkE7 (74) (zk9_43 F)
def zk9_45 (F : Nat → zC) : Nat → zC := fun j => if j = 3 then .inl (4, 6, .inr (.inr (va_up (va_up (fun _ => none) 0 (some 68)) 1 (some 74)))) else (zk9_44 F) j
def zk9_46 (F : Nat → zC) : Nat → zC := fun j => if j = 77 then .inr (7, zdef 7 3) else (zk9_45 F) j
def zk9_47 (F : Nat → zC) : Nat → zC := zkE7 (77) (zk9_46 F)
def zk9_48 (F : Nat → zC) : Nat → zC := fun j => if j = 4 then .inl (4, 6, .inr (.inr (va_up (va_up (fun _ => none) 0 (some 71)) 1 (some 77)))) else (zk9_47 F) j
def zk9_49 (F : Nat → zC) : Nat → zC := fun j => if j = 80 then .inr (7, zdef 7 3) else (zk9_48 F) j
def zk9_50 (F : Nat → zC) : Nat → zC := zkE7 (80) (zk9_49 F)
def zk9_51 (F : Nat → zC) : Nat → zC := fun j => if j = 3 then .inl (4, 6, .inr (.inr (va_up (va_up (va_up (fun _ => none) 0 (some 68)) 1 (some 74)) 2 (some 80)))) else (zk9_50 F) j
def zk9_52 (F : Nat → zC) : Nat → zC := fun j => if j = 83 then .inr (7, zdef 7 3) else (zk9_51 F) j
def zk9_53 (F : Nat → zC) : Nat → zC := zkE7 (83) (zk9_52 F)
def zk9_54 (F : Nat → zC) : Nat → zC := fun j => if j = 4 then .inl (4, 6, .inr (.inr (va_up (va_up (va_up (fun _ => none) 0 (some 71)) 1 (some 77)) 2 (some 83)))) else (zk9_53 F) j
def zk9_55 (F : Nat → zC) : Nat → zC := fun j => if j = 86 then .inr (7, zdef 7 3) else (zk9_54 F) j
def zk9_56 (F : Nat → zC) : Nat → zC := zkE7 (86) (zk9_55 F)
def zk9_57 (F : Nat → zC) : Nat → zC := fun j => if j = 3 then .inl (4, 6, .inr (.inr (va_up (va_up (va_up (va_up (fun _ => none) 0 (some 68)) 1 (some 74)) 2 (some 80)) 3 (some 86)))) else (zk9_56 F) j
def zk9_58 (F : Nat → zC) : Nat → zC := fun j => if j = 89 then .inr (7, zdef 7 3) else (zk9_57 F) j
def zk9_59 (F : Nat → zC) : Nat → zC := zkE7 (89) (zk9_58 F)
def zk9_60 (F : Nat → zC) : Nat → zC := fun j => if j = 4 then .inl (4, 6, .inr (.inr (va_up (va_up (va_up (va_up (fun _ => none) 0 (some 71)) 1 (some 77)) 2 (some 83)) 3 (some 89)))) else (zk9_59 F) j
def zk9_61 (F : Nat → zC) : Nat → zC := fun j => if j = 92 then .inr (7, zdef 7 3) else (zk9_60 F) j
def zk9_62 (F : Nat → zC) : Nat → zC := zkE7 (92) (zk9_61 F)
def zk9_63 (F : Nat → zC) : Nat → zC := fun j => if j = 3 then .inl (4, 6, .inr (.inr (va_up (va_up (va_up (va_up (va_up (fun _ => none) 0 (some 68)) 1 (some 74)) 2 (some 80)) 3 (some 86)) 4 (some 92)))) else (zk9_62 F) j
def zk9_64 (F : Nat → zC) : Nat → zC := fun j => if j = 95 then .inr (7, zdef 7 3) else (zk9_63 F) j
def zk9_65 (F : Nat → zC) : Nat → zC := zkE7 (95) (zk9_64 F)
def zk9_66 (F : Nat → zC) : Nat → zC := fun j => if j = 4 then .inl (4, 6, .inr (.inr (va_up (va_up (va_up (va_up (va_up (fun _ => none) 0 (some 71)) 1 (some 77)) 2 (some 83)) 3 (some 89)) 4 (some 95)))) else (zk9_65 F) j
def zk9_67 (F : Nat → zC) : Nat → zC := fun j => if j = 98 then .inr (7, zdef 7 3) else (zk9_66 F) j
def zk9_68 (F : Nat → zC) : Nat → zC := zkE7 (98) (zk9_67 F)
def zk9_69 (F : Nat → zC) : Nat → zC := fun j => if j = 3 then .inl (4, 6, .inr (.inr (va_up (va_up (va_up (va_up (va_up (va_up (fun _ => none) 0 (some 68)) 1 (some 74)) 2 (some 80)) 3 (some 86)) 4 (some 92)) 5 (some 98)))) else (zk9_68 F) j
def zk9_70 (F : Nat → zC) : Nat → zC := fun j => if j = 101 then .inr (7, zdef 7 3) else (zk9_69 F) j
def zk9_71 (F : Nat → zC) : Nat → zC := zkE7 (101) (zk9_70 F)
def zk9_72 (F : Nat → zC) : Nat → zC := fun j => if j = 4 then .inl (4, 6, .inr (.inr (va_up (va_up (va_up (va_up (va_up (va_up (fun _ => none) 0 (some 71)) 1 (some 77)) 2 (some 83)) 3 (some 89)) 4 (some 95)) 5 (some 101)))) else (zk9_71 F) j
def zk9_73 (F : Nat → zC) : Nat → zC := fun j => if j = 104 then .inr (6, zdef 6 3) else (zk9_72 F) j
def zk9_74 (F : Nat → zC) : Nat → zC := zkE6 (104) (zk9_73 F)
def zk9_75 (F : Nat → zC) : Nat → zC := fun j => if j = 65 then .inl (5, 4, .inr (.inr (va_up (fun _ => none) 0 (some 104)))) else (zk9_74 F) j
def zk9_76 (F : Nat → zC) : Nat → zC := fun j => if j = 106 then .inr (6, zdef 6 3) else (zk9_75 F) j
def zk9_77 (F : Nat → zC) : Nat → zC := zkE6 (106) (zk9_76 F)
def zk9_78 (F : Nat → zC) : Nat → zC := fun j => if j = 65 then .inl (5, 4, .inr (.inr (va_up (va_up (fun _ => none) 0 (some 104)) 1 (some 106)))) else (zk9_77 F) j
def zk9_79 (F : Nat → zC) : Nat → zC := fun j => if j = 108 then .inr (6, zdef 6 3) else (zk9_78 F) j
def zk9_80 (F : Nat → zC) : Nat → zC := zkE6 (108) (zk9_79 F)
def zk9_81 (F : Nat → zC) : Nat → zC := fun j => if j = 65 then .inl (5, 4, .inr (.inr (va_up (va_up (va_up (fun _ => none) 0 (some 104)) 1 (some 106)) 2 (some 108)))) else (zk9_80 F) j
def zk9_82 (F : Nat → zC) : Nat → zC := fun j => if j = 110 then .inr (6, zdef 6 3) else (zk9_81 F) j
def zk9_83 (F : Nat → zC) : Nat → zC := zkE6 (110) (zk9_82 F)
def zk9_84 (F : Nat → zC) : Nat → zC := fun j => if j = 65 then .inl (5, 4, .inr (.inr (va_up (va_up (va_up (va_up (fun _ => none) 0 (some 104)) 1 (some 106)) 2 (some 108)) 3 (some 110)))) else (zk9_83 F) j
def zk9_85 (F : Nat → zC) : Nat → zC := fun j => if j = 66 then .inl (0, 4, .inl (upd (fun _ => 0) 0 (-11))) else (zk9_84 F) j
def zk9_86 (F : Nat → zC) : Nat → zC := fun j => if j = 66 then .inl (0, 4, .inl (upd (upd (fun _ => 0) 0 (-11)) 1 (-11))) else (zk9_85 F) j
def zk9_87 (F : Nat → zC) : Nat → zC := fun j => if j = 66 then .inl (0, 4, .inl (upd (upd (upd (fun _ => 0) 0 (-11)) 1 (-11)) 2 (-11))) else (zk9_86 F) j
def zk9_88 (F : Nat → zC) : Nat → zC := fun j => if j = 66 then .inl (0, 4, .inl (upd (upd (upd (upd (fun _ => 0) 0 (-11)) 1 (-11)) 2 (-11)) 3 (-11))) else (zk9_87 F) j
def zkE9 (F : Nat → zC) : Nat → zC := zk9_88 F
theorem ci_9 {d s : Nat} {F : Nat → zC} (hF : F 2 = .inr (9, zdef 9 16)) : zCall (d + 3) 97 [.ref 2] (3, s, F) (none, (112, s + 3635, zkE9 F)) := by
  refine zG_m (t := tX9_init) (ls0 := [.ref 2, .null]) rfl rfl zdnR0 rfl ?_
  refine zG_s (st' := [.ref 2]) rfl rfl ?_
  refine zG_s (st' := []) rfl rfl ?_
  refine zG_s (st' := [.ref 2]) rfl rfl ?_
  refine zG_s (st' := [.int (nI 6), .ref 2]) rfl rfl ?_
  refine zG_s (st' := [.ref 3, .ref 2]) (h' := (4, s + 6, (zk9_0 F))) rfl rfl ?_
  refine zN_putS (fs := [.null, .null, .null, .null, .null, .null, .null, .null, .null, .null, .null, .null, .null, .int 0, .int 0, .int 0]) (fs' := [.ref 3, .null, .null, .null, .null, .null, .null, .null, .null, .null, .null, .null, .null, .int 0, .int 0, .int 0]) (h9 := (4, s + 6, (zk9_1 F))) rfl hF rfl rfl rfl rfl ?_
  refine zG_s (st' := [.ref 2]) rfl rfl ?_
  refine zG_s (st' := [.int (nI 6), .ref 2]) rfl rfl ?_
  refine zG_s (st' := [.ref 4, .ref 2]) (h' := (5, s + 12, (zk9_2 F))) rfl rfl ?_
  refine zN_putS (fs := [.ref 3, .null, .null, .null, .null, .null, .null, .null, .null, .null, .null, .null, .null, .int 0, .int 0, .int 0]) (fs' := [.ref 3, .ref 4, .null, .null, .null, .null, .null, .null, .null, .null, .null, .null, .null, .int 0, .int 0, .int 0]) (h9 := (5, s + 12, (zk9_3 F))) rfl rfl rfl rfl rfl rfl ?_
  refine zG_s (st' := [.ref 2]) rfl rfl ?_
  refine zG_s (st' := [.ref 5, .ref 2]) (h' := (6, s + 15, (zk9_4 F))) rfl rfl ?_
  refine zG_s (st' := [.ref 5, .ref 5, .ref 2]) rfl rfl ?_
  refine zG_cS0 (h1 := (8, s + 31, (zk9_5 F))) (st' := [.ref 5, .ref 2]) rfl rfl (ci_7 (o := 5) rfl) ?_
  refine zN_putS (fs := [.ref 3, .ref 4, .null, .null, .null, .null, .null, .null, .null, .null, .null, .null, .null, .int 0, .int 0, .int 0]) (fs' := [.ref 3, .ref 4, .ref 5, .null, .null, .null, .null, .null, .null, .null, .null, .null, .null, .int 0, .int 0, .int 0]) (h9 := (8, s + 31, (zk9_6 F))) rfl rfl rfl rfl rfl rfl ?_
  refine zG_s (st' := [.ref 2]) rfl rfl ?_
  refine zG_s (st' := [.ref 8, .ref 2]) (h' := (9, s + 42, (zk9_7 F))) rfl rfl ?_
  refine zG_s (st' := [.ref 8, .ref 8, .ref 2]) rfl rfl ?_
  refine zG_cS0 (h1 := (18, s + 858, (zk9_8 F))) (st' := [.ref 8, .ref 2]) rfl rfl (ci_3 (o := 8) rfl) ?_
  refine zN_putS (fs := [.ref 3, .ref 4, .ref 5, .null, .null, .null, .null, .null, .null, .null, .null, .null, .null, .int 0, .int 0, .int 0]) (fs' := [.ref 3, .ref 4, .ref 5, .ref 8, .null, .null, .null, .null, .null, .null, .null, .null, .null, .int 0, .int 0, .int 0]) (h9 := (18, s + 858, (zk9_9 F))) rfl rfl rfl rfl rfl rfl ?_
  refine zG_s (st' := [.ref 2]) rfl rfl ?_
  refine zG_s (st' := [.ref 18, .ref 2]) (h' := (19, s + 863, (zk9_10 F))) rfl rfl ?_
  refine zG_s (st' := [.ref 18, .ref 18, .ref 2]) rfl rfl ?_
  refine zG_cS0 (h1 := (26, s + 909, (zk9_11 F))) (st' := [.ref 18, .ref 2]) rfl rfl (ci_4 (o := 18) rfl) ?_
  refine zN_putS (fs := [.ref 3, .ref 4, .ref 5, .ref 8, .null, .null, .null, .null, .null, .null, .null, .null, .null, .int 0, .int 0, .int 0]) (fs' := [.ref 3, .ref 4, .ref 5, .ref 8, .ref 18, .null, .null, .null, .null, .null, .null, .null, .null, .int 0, .int 0, .int 0]) (h9 := (26, s + 909, (zk9_12 F))) rfl rfl rfl rfl rfl rfl ?_
  refine zG_s (st' := [.ref 2]) rfl rfl ?_
  refine zG_s (st' := [.ref 26, .ref 2]) (h' := (27, s + 911, (zk9_13 F))) rfl rfl ?_
  refine zG_s (st' := [.ref 26, .ref 26, .ref 2]) rfl rfl ?_
  refine zG_cS0 (h1 := (29, s + 1935, (zk9_14 F))) (st' := [.ref 26, .ref 2]) rfl rfl (ci_2 (o := 26) rfl) ?_
  refine zN_putS (fs := [.ref 3, .ref 4, .ref 5, .ref 8, .ref 18, .null, .null, .null, .null, .null, .null, .null, .null, .int 0, .int 0, .int 0]) (fs' := [.ref 3, .ref 4, .ref 5, .ref 8, .ref 18, .ref 26, .null, .null, .null, .null, .null, .null, .null, .int 0, .int 0, .int 0]) (h9 := (29, s + 1935, (zk9_15 F))) rfl rfl rfl rfl rfl rfl ?_
  refine zG_s (st' := [.ref 2]) rfl rfl ?_
  refine zG_s (st' := [.ref 29, .ref 2]) (h' := (30, s + 1945, (zk9_16 F))) rfl rfl ?_
  refine zG_s (st' := [.ref 29, .ref 29, .ref 2]) rfl rfl ?_
  refine zG_cS0 (h1 := (56, s + 2499, (zk9_17 F))) (st' := [.ref 29, .ref 2]) rfl rfl (ci_1 (o := 29) rfl) ?_
  refine zN_putS (fs := [.ref 3, .ref 4, .ref 5, .ref 8, .ref 18, .ref 26, .null, .null, .null, .null, .null, .null, .null, .int 0, .int 0, .int 0]) (fs' := [.ref 3, .ref 4, .ref 5, .ref 8, .ref 18, .ref 26, .ref 29, .null, .null, .null, .null, .null, .null, .int 0, .int 0, .int 0]) (h9 := (56, s + 2499, (zk9_18 F))) rfl rfl rfl rfl rfl rfl ?_
  refine zG_s (st' := [.ref 2]) rfl rfl ?_
  refine zG_s (st' := [.ref 56, .ref 2]) (h' := (57, s + 2503, (zk9_19 F))) rfl rfl ?_
  refine zG_s (st' := [.ref 56, .ref 56, .ref 2]) rfl rfl ?_
  refine zG_cS0 (h1 := (61, s + 3087, (zk9_20 F))) (st' := [.ref 56, .ref 2]) rfl rfl (ci_5 (o := 56) rfl) ?_
  refine zN_putS (fs := [.ref 3, .ref 4, .ref 5, .ref 8, .ref 18, .ref 26, .ref 29, .null, .null, .null, .null, .null, .null, .int 0, .int 0, .int 0]) (fs' := [.ref 3, .ref 4, .ref 5, .ref 8, .ref 18, .ref 26, .ref 29, .ref 56, .null, .null, .null, .null, .null, .int 0, .int 0, .int 0]) (h9 := (61, s + 3087, (zk9_21 F))) rfl rfl rfl rfl rfl rfl ?_
  refine zG_s (st' := [.ref 2]) rfl rfl ?_
  refine zG_s (st' := [.ref 61, .ref 2]) (h' := (62, s + 3090, (zk9_22 F))) rfl rfl ?_
  refine zG_s (st' := [.ref 61, .ref 61, .ref 2]) rfl rfl ?_
  refine zG_cS0 (h1 := (63, s + 3190, (zk9_23 F))) (st' := [.ref 61, .ref 2]) rfl rfl (ci_8 (o := 61) rfl) ?_
  refine zN_putS (fs := [.ref 3, .ref 4, .ref 5, .ref 8, .ref 18, .ref 26, .ref 29, .ref 56, .null, .null, .null, .null, .null, .int 0, .int 0, .int 0]) (fs' := [.ref 3, .ref 4, .ref 5, .ref 8, .ref 18, .ref 26, .ref 29, .ref 56, .ref 61, .null, .null, .null, .null, .int 0, .int 0, .int 0]) (h9 := (63, s + 3190, (zk9_24 F))) rfl rfl rfl rfl rfl rfl ?_
  refine zG_s (st' := [.ref 2]) rfl rfl ?_
  refine zG_s (st' := [.ref 63, .ref 2]) (h' := (64, s + 3193, (zk9_25 F))) rfl rfl ?_
  refine zG_s (st' := [.ref 63, .ref 63, .ref 2]) rfl rfl ?_
  refine zG_cS0 (h1 := (65, s + 3223, (zk9_26 F))) (st' := [.ref 63, .ref 2]) rfl rfl (ci_0 (o := 63) rfl) ?_
  refine zN_putS (fs := [.ref 3, .ref 4, .ref 5, .ref 8, .ref 18, .ref 26, .ref 29, .ref 56, .ref 61, .null, .null, .null, .null, .int 0, .int 0, .int 0]) (fs' := [.ref 3, .ref 4, .ref 5, .ref 8, .ref 18, .ref 26, .ref 29, .ref 56, .ref 61, .ref 63, .null, .null, .null, .int 0, .int 0, .int 0]) (h9 := (65, s + 3223, (zk9_27 F))) rfl rfl rfl rfl rfl rfl ?_
  refine zG_s (st' := [.ref 2]) rfl rfl ?_
  refine zG_s (st' := [.int (nI 4), .ref 2]) rfl rfl ?_
  refine zG_s (st' := [.ref 65, .ref 2]) (h' := (66, s + 3227, (zk9_28 F))) rfl rfl ?_
  refine zN_putS (fs := [.ref 3, .ref 4, .ref 5, .ref 8, .ref 18, .ref 26, .ref 29, .ref 56, .ref 61, .ref 63, .null, .null, .null, .int 0, .int 0, .int 0]) (fs' := [.ref 3, .ref 4, .ref 5, .ref 8, .ref 18, .ref 26, .ref 29, .ref 56, .ref 61, .ref 63, .ref 65, .null, .null, .int 0, .int 0, .int 0]) (h9 := (66, s + 3227, (zk9_29 F))) rfl rfl rfl rfl rfl rfl ?_
  refine zG_s (st' := [.ref 2]) rfl rfl ?_
  refine zG_s (st' := [.int (nI 4), .ref 2]) rfl rfl ?_
  refine zG_s (st' := [.ref 66, .ref 2]) (h' := (67, s + 3231, (zk9_30 F))) rfl rfl ?_
  refine zN_putS (fs := [.ref 3, .ref 4, .ref 5, .ref 8, .ref 18, .ref 26, .ref 29, .ref 56, .ref 61, .ref 63, .ref 65, .null, .null, .int 0, .int 0, .int 0]) (fs' := [.ref 3, .ref 4, .ref 5, .ref 8, .ref 18, .ref 26, .ref 29, .ref 56, .ref 61, .ref 63, .ref 65, .ref 66, .null, .int 0, .int 0, .int 0]) (h9 := (67, s + 3231, (zk9_31 F))) rfl rfl rfl rfl rfl rfl ?_
  refine zG_s (st' := [.ref 2]) rfl rfl ?_
  refine zG_s (st' := [.int (nI 4), .ref 2]) rfl rfl ?_
  refine zG_s (st' := [.ref 67, .ref 2]) (h' := (68, s + 3235, (zk9_32 F))) rfl rfl ?_
  refine zN_putS (fs := [.ref 3, .ref 4, .ref 5, .ref 8, .ref 18, .ref 26, .ref 29, .ref 56, .ref 61, .ref 63, .ref 65, .ref 66, .null, .int 0, .int 0, .int 0]) (fs' := [.ref 3, .ref 4, .ref 5, .ref 8, .ref 18, .ref 26, .ref 29, .ref 56, .ref 61, .ref 63, .ref 65, .ref 66, .ref 67, .int 0, .int 0, .int 0]) (h9 := (68, s + 3235, (zk9_33 F))) rfl rfl rfl rfl rfl rfl ?_
  refine zG_s (st' := [.ref 2]) rfl rfl ?_
  refine zG_s (st' := [.int (nI 1), .ref 2]) rfl rfl ?_
  refine zN_putS (fs := [.ref 3, .ref 4, .ref 5, .ref 8, .ref 18, .ref 26, .ref 29, .ref 56, .ref 61, .ref 63, .ref 65, .ref 66, .ref 67, .int 0, .int 0, .int 0]) (fs' := [.ref 3, .ref 4, .ref 5, .ref 8, .ref 18, .ref 26, .ref 29, .ref 56, .ref 61, .ref 63, .ref 65, .ref 66, .ref 67, .int (nI 1), .int 0, .int 0]) (h9 := (68, s + 3235, (zk9_34 F))) rfl rfl rfl rfl rfl rfl ?_
  refine zG_s (st' := [.ref 2]) rfl rfl ?_
  refine zG_s (st' := [.int (nI 1), .ref 2]) rfl rfl ?_
  refine zN_putS (fs := [.ref 3, .ref 4, .ref 5, .ref 8, .ref 18, .ref 26, .ref 29, .ref 56, .ref 61, .ref 63, .ref 65, .ref 66, .ref 67, .int (nI 1), .int 0, .int 0]) (fs' := [.ref 3, .ref 4, .ref 5, .ref 8, .ref 18, .ref 26, .ref 29, .ref 56, .ref 61, .ref 63, .ref 65, .ref 66, .ref 67, .int (nI 1), .int (nI 1), .int 0]) (h9 := (68, s + 3235, (zk9_35 F))) rfl rfl rfl rfl rfl rfl ?_
  refine zG_s (st' := [.ref 2]) rfl rfl ?_
  refine zG_s (st' := [.int (nI 0), .ref 2]) rfl rfl ?_
  refine zN_putS (fs := [.ref 3, .ref 4, .ref 5, .ref 8, .ref 18, .ref 26, .ref 29, .ref 56, .ref 61, .ref 63, .ref 65, .ref 66, .ref 67, .int (nI 1), .int (nI 1), .int 0]) (fs' := [.ref 3, .ref 4, .ref 5, .ref 8, .ref 18, .ref 26, .ref 29, .ref 56, .ref 61, .ref 63, .ref 65, .ref 66, .ref 67, .int (nI 1), .int (nI 1), .int (nI 0)]) (h9 := (68, s + 3235, (zk9_36 F))) rfl rfl rfl rfl rfl rfl ?_
  refine zG_s (st' := [.int (nI 0)]) rfl rfl ?_
  refine zG_s (ls' := [.ref 2, .int (nI 0)]) (st' := []) rfl rfl ?_
  refine zG_s (st' := [.int (nI 0)]) rfl rfl ?_
  refine zG_s (st' := [.int (nI 6), .int (nI 0)]) rfl rfl ?_
  refine zG_br rfl rfl (fun q => absurd q (by decide)) (fun _ => ?_)
  refine zG_s (st' := [.ref 2]) rfl rfl ?_
  refine zN_get (fs := [.ref 3, .ref 4, .ref 5, .ref 8, .ref 18, .ref 26, .ref 29, .ref 56, .ref 61, .ref 63, .ref 65, .ref 66, .ref 67, .int (nI 1), .int (nI 1), .int (nI 0)]) rfl rfl rfl ?_
  refine zG_s (st' := [.int (nI 0), .ref 3]) rfl rfl ?_
  refine zG_s (st' := [.ref 68, .int (nI 0), .ref 3]) (h' := (69, s + 3238, (zk9_37 F))) rfl rfl ?_
  refine zG_s (st' := [.ref 68, .ref 68, .int (nI 0), .ref 3]) rfl rfl ?_
  refine zG_cS0 (h1 := (71, s + 3254, (zk9_38 F))) (st' := [.ref 68, .int (nI 0), .ref 3]) rfl rfl (ci_7 (o := 68) rfl) ?_
  refine zG_s (st' := []) (h' := (71, s + 3254, (zk9_39 F))) rfl rfl ?_
  refine zG_s (st' := [.ref 2]) rfl rfl ?_
  refine zN_get (fs := [.ref 3, .ref 4, .ref 5, .ref 8, .ref 18, .ref 26, .ref 29, .ref 56, .ref 61, .ref 63, .ref 65, .ref 66, .ref 67, .int (nI 1), .int (nI 1), .int (nI 0)]) rfl rfl rfl ?_
  refine zG_s (st' := [.int (nI 0), .ref 4]) rfl rfl ?_
  refine zG_s (st' := [.ref 71, .int (nI 0), .ref 4]) (h' := (72, s + 3257, (zk9_40 F))) rfl rfl ?_
  refine zG_s (st' := [.ref 71, .ref 71, .int (nI 0), .ref 4]) rfl rfl ?_
  refine zG_cS0 (h1 := (74, s + 3273, (zk9_41 F))) (st' := [.ref 71, .int (nI 0), .ref 4]) rfl rfl (ci_7 (o := 71) rfl) ?_
  refine zG_s (st' := []) (h' := (74, s + 3273, (zk9_42 F))) rfl rfl ?_
  refine zG_s (ls' := [.ref 2, .int (nI 1)]) rfl rfl ?_
  refine zG_s rfl rfl ?_
  refine zG_s (st' := [.int (nI 1)]) rfl rfl ?_
  refine zG_s (st' := [.int (nI 6), .int (nI 1)]) rfl rfl ?_
  refine zG_br rfl rfl (fun q => absurd q (by decide)) (fun _ => ?_)
  refine zG_s (st' := [.ref 2]) rfl rfl ?_
  refine zN_get (fs := [.ref 3, .ref 4, .ref 5, .ref 8, .ref 18, .ref 26, .ref 29, .ref 56, .ref 61, .ref 63, .ref 65, .ref 66, .ref 67, .int (nI 1), .int (nI 1), .int (nI 0)]) rfl rfl rfl ?_
  refine zG_s (st' := [.int (nI 1), .ref 3]) rfl rfl ?_
  refine zG_s (st' := [.ref 74, .int (nI 1), .ref 3]) (h' := (75, s + 3276, (zk9_43 F))) rfl rfl ?_
  refine zG_s (st' := [.ref 74, .ref 74, .int (nI 1), .ref 3]) rfl rfl ?_
  refine zG_cS0 (h1 := (77, s + 3292, (zk9_44 F))) (st' := [.ref 74, .int (nI 1), .ref 3]) rfl rfl (ci_7 (o := 74) rfl) ?_
  refine zG_s (st' := []) (h' := (77, s + 3292, (zk9_45 F))) rfl rfl ?_
  refine zG_s (st' := [.ref 2]) rfl rfl ?_
  refine zN_get (fs := [.ref 3, .ref 4, .ref 5, .ref 8, .ref 18, .ref 26, .ref 29, .ref 56, .ref 61, .ref 63, .ref 65, .ref 66, .ref 67, .int (nI 1), .int (nI 1), .int (nI 0)]) rfl rfl rfl ?_
  refine zG_s (st' := [.int (nI 1), .ref 4]) rfl rfl ?_
  refine zG_s (st' := [.ref 77, .int (nI 1), .ref 4]) (h' := (78, s + 3295, (zk9_46 F))) rfl rfl ?_
  refine zG_s (st' := [.ref 77, .ref 77, .int (nI 1), .ref 4]) rfl rfl ?_
  refine zG_cS0 (h1 := (80, s + 3311, (zk9_47 F))) (st' := [.ref 77, .int (nI 1), .ref 4]) rfl rfl (ci_7 (o := 77) rfl) ?_
  refine zG_s (st' := []) (h' := (80, s + 3311, (zk9_48 F))) rfl rfl ?_
  refine zG_s (ls' := [.ref 2, .int (nI 2)]) rfl rfl ?_
  refine zG_s rfl rfl ?_
  refine zG_s (st' := [.int (nI 2)]) rfl rfl ?_
  refine zG_s (st' := [.int (nI 6), .int (nI 2)]) rfl rfl ?_
  refine zG_br rfl rfl (fun q => absurd q (by decide)) (fun _ => ?_)
  refine zG_s (st' := [.ref 2]) rfl rfl ?_
  refine zN_get (fs := [.ref 3, .ref 4, .ref 5, .ref 8, .ref 18, .ref 26, .ref 29, .ref 56, .ref 61, .ref 63, .ref 65, .ref 66, .ref 67, .int (nI 1), .int (nI 1), .int (nI 0)]) rfl rfl rfl ?_
  refine zG_s (st' := [.int (nI 2), .ref 3]) rfl rfl ?_
  refine zG_s (st' := [.ref 80, .int (nI 2), .ref 3]) (h' := (81, s + 3314, (zk9_49 F))) rfl rfl ?_
  refine zG_s (st' := [.ref 80, .ref 80, .int (nI 2), .ref 3]) rfl rfl ?_
  refine zG_cS0 (h1 := (83, s + 3330, (zk9_50 F))) (st' := [.ref 80, .int (nI 2), .ref 3]) rfl rfl (ci_7 (o := 80) rfl) ?_
  refine zG_s (st' := []) (h' := (83, s + 3330, (zk9_51 F))) rfl rfl ?_
  refine zG_s (st' := [.ref 2]) rfl rfl ?_
  refine zN_get (fs := [.ref 3, .ref 4, .ref 5, .ref 8, .ref 18, .ref 26, .ref 29, .ref 56, .ref 61, .ref 63, .ref 65, .ref 66, .ref 67, .int (nI 1), .int (nI 1), .int (nI 0)]) rfl rfl rfl ?_
  refine zG_s (st' := [.int (nI 2), .ref 4]) rfl rfl ?_
  refine zG_s (st' := [.ref 83, .int (nI 2), .ref 4]) (h' := (84, s + 3333, (zk9_52 F))) rfl rfl ?_
  refine zG_s (st' := [.ref 83, .ref 83, .int (nI 2), .ref 4]) rfl rfl ?_
  refine zG_cS0 (h1 := (86, s + 3349, (zk9_53 F))) (st' := [.ref 83, .int (nI 2), .ref 4]) rfl rfl (ci_7 (o := 83) rfl) ?_
  refine zG_s (st' := []) (h' := (86, s + 3349, (zk9_54 F))) rfl rfl ?_
  refine zG_s (ls' := [.ref 2, .int (nI 3)]) rfl rfl ?_
  refine zG_s rfl rfl ?_
  refine zG_s (st' := [.int (nI 3)]) rfl rfl ?_
  refine zG_s (st' := [.int (nI 6), .int (nI 3)]) rfl rfl ?_
  refine zG_br rfl rfl (fun q => absurd q (by decide)) (fun _ => ?_)
  refine zG_s (st' := [.ref 2]) rfl rfl ?_
  refine zN_get (fs := [.ref 3, .ref 4, .ref 5, .ref 8, .ref 18, .ref 26, .ref 29, .ref 56, .ref 61, .ref 63, .ref 65, .ref 66, .ref 67, .int (nI 1), .int (nI 1), .int (nI 0)]) rfl rfl rfl ?_
  refine zG_s (st' := [.int (nI 3), .ref 3]) rfl rfl ?_
  refine zG_s (st' := [.ref 86, .int (nI 3), .ref 3]) (h' := (87, s + 3352, (zk9_55 F))) rfl rfl ?_
  refine zG_s (st' := [.ref 86, .ref 86, .int (nI 3), .ref 3]) rfl rfl ?_
  refine zG_cS0 (h1 := (89, s + 3368, (zk9_56 F))) (st' := [.ref 86, .int (nI 3), .ref 3]) rfl rfl (ci_7 (o := 86) rfl) ?_
  refine zG_s (st' := []) (h' := (89, s + 3368, (zk9_57 F))) rfl rfl ?_
  refine zG_s (st' := [.ref 2]) rfl rfl ?_
  refine zN_get (fs := [.ref 3, .ref 4, .ref 5, .ref 8, .ref 18, .ref 26, .ref 29, .ref 56, .ref 61, .ref 63, .ref 65, .ref 66, .ref 67, .int (nI 1), .int (nI 1), .int (nI 0)]) rfl rfl rfl ?_
  refine zG_s (st' := [.int (nI 3), .ref 4]) rfl rfl ?_
  refine zG_s (st' := [.ref 89, .int (nI 3), .ref 4]) (h' := (90, s + 3371, (zk9_58 F))) rfl rfl ?_
  refine zG_s (st' := [.ref 89, .ref 89, .int (nI 3), .ref 4]) rfl rfl ?_
  refine zG_cS0 (h1 := (92, s + 3387, (zk9_59 F))) (st' := [.ref 89, .int (nI 3), .ref 4]) rfl rfl (ci_7 (o := 89) rfl) ?_
  refine zG_s (st' := []) (h' := (92, s + 3387, (zk9_60 F))) rfl rfl ?_
  refine zG_s (ls' := [.ref 2, .int (nI 4)]) rfl rfl ?_
  refine zG_s rfl rfl ?_
  refine zG_s (st' := [.int (nI 4)]) rfl rfl ?_
  refine zG_s (st' := [.int (nI 6), .int (nI 4)]) rfl rfl ?_
  refine zG_br rfl rfl (fun q => absurd q (by decide)) (fun _ => ?_)
  refine zG_s (st' := [.ref 2]) rfl rfl ?_
  refine zN_get (fs := [.ref 3, .ref 4, .ref 5, .ref 8, .ref 18, .ref 26, .ref 29, .ref 56, .ref 61, .ref 63, .ref 65, .ref 66, .ref 67, .int (nI 1), .int (nI 1), .int (nI 0)]) rfl rfl rfl ?_
  refine zG_s (st' := [.int (nI 4), .ref 3]) rfl rfl ?_
  refine zG_s (st' := [.ref 92, .int (nI 4), .ref 3]) (h' := (93, s + 3390, (zk9_61 F))) rfl rfl ?_
  refine zG_s (st' := [.ref 92, .ref 92, .int (nI 4), .ref 3]) rfl rfl ?_
  refine zG_cS0 (h1 := (95, s + 3406, (zk9_62 F))) (st' := [.ref 92, .int (nI 4), .ref 3]) rfl rfl (ci_7 (o := 92) rfl) ?_
  refine zG_s (st' := []) (h' := (95, s + 3406, (zk9_63 F))) rfl rfl ?_
  refine zG_s (st' := [.ref 2]) rfl rfl ?_
  refine zN_get (fs := [.ref 3, .ref 4, .ref 5, .ref 8, .ref 18, .ref 26, .ref 29, .ref 56, .ref 61, .ref 63, .ref 65, .ref 66, .ref 67, .int (nI 1), .int (nI 1), .int (nI 0)]) rfl rfl rfl ?_
  refine zG_s (st' := [.int (nI 4), .ref 4]) rfl rfl ?_
  refine zG_s (st' := [.ref 95, .int (nI 4), .ref 4]) (h' := (96, s + 3409, (zk9_64 F))) rfl rfl ?_
  refine zG_s (st' := [.ref 95, .ref 95, .int (nI 4), .ref 4]) rfl rfl ?_
  refine zG_cS0 (h1 := (98, s + 3425, (zk9_65 F))) (st' := [.ref 95, .int (nI 4), .ref 4]) rfl rfl (ci_7 (o := 95) rfl) ?_
  refine zG_s (st' := []) (h' := (98, s + 3425, (zk9_66 F))) rfl rfl ?_
  refine zG_s (ls' := [.ref 2, .int (nI 5)]) rfl rfl ?_
  refine zG_s rfl rfl ?_
  refine zG_s (st' := [.int (nI 5)]) rfl rfl ?_
  refine zG_s (st' := [.int (nI 6), .int (nI 5)]) rfl rfl ?_
  refine zG_br rfl rfl (fun q => absurd q (by decide)) (fun _ => ?_)
  refine zG_s (st' := [.ref 2]) rfl rfl ?_
  refine zN_get (fs := [.ref 3, .ref 4, .ref 5, .ref 8, .ref 18, .ref 26, .ref 29, .ref 56, .ref 61, .ref 63, .ref 65, .ref 66, .ref 67, .int (nI 1), .int (nI 1), .int (nI 0)]) rfl rfl rfl ?_
  refine zG_s (st' := [.int (nI 5), .ref 3]) rfl rfl ?_
  refine zG_s (st' := [.ref 98, .int (nI 5), .ref 3]) (h' := (99, s + 3428, (zk9_67 F))) rfl rfl ?_
  refine zG_s (st' := [.ref 98, .ref 98, .int (nI 5), .ref 3]) rfl rfl ?_
  refine zG_cS0 (h1 := (101, s + 3444, (zk9_68 F))) (st' := [.ref 98, .int (nI 5), .ref 3]) rfl rfl (ci_7 (o := 98) rfl) ?_
  refine zG_s (st' := []) (h' := (101, s + 3444, (zk9_69 F))) rfl rfl ?_
  refine zG_s (st' := [.ref 2]) rfl rfl ?_
  refine zN_get (fs := [.ref 3, .ref 4, .ref 5, .ref 8, .ref 18, .ref 26, .ref 29, .ref 56, .ref 61, .ref 63, .ref 65, .ref 66, .ref 67, .int (nI 1), .int (nI 1), .int (nI 0)]) rfl rfl rfl ?_
  refine zG_s (st' := [.int (nI 5), .ref 4]) rfl rfl ?_
  refine zG_s (st' := [.ref 101, .int (nI 5), .ref 4]) (h' := (102, s + 3447, (zk9_70 F))) rfl rfl ?_
  refine zG_s (st' := [.ref 101, .ref 101, .int (nI 5), .ref 4]) rfl rfl ?_
  refine zG_cS0 (h1 := (104, s + 3463, (zk9_71 F))) (st' := [.ref 101, .int (nI 5), .ref 4]) rfl rfl (ci_7 (o := 101) rfl) ?_
  refine zG_s (st' := []) (h' := (104, s + 3463, (zk9_72 F))) rfl rfl ?_
  refine zG_s (ls' := [.ref 2, .int (nI 6)]) rfl rfl ?_
  refine zG_s rfl rfl ?_
  refine zG_s (st' := [.int (nI 6)]) rfl rfl ?_
  refine zG_s (st' := [.int (nI 6), .int (nI 6)]) rfl rfl ?_
  refine zG_br rfl rfl (fun _ => ?_) (fun q => absurd q (by decide))
  refine zG_s (st' := [.int (nI 0)]) rfl rfl ?_
  refine zG_s (ls' := [.ref 2, .int (nI 0)]) (st' := []) rfl rfl ?_
  refine zG_s (st' := [.int (nI 0)]) rfl rfl ?_
  refine zG_s (st' := [.int (nI 4), .int (nI 0)]) rfl rfl ?_
  refine zG_br rfl rfl (fun q => absurd q (by decide)) (fun _ => ?_)
  refine zG_s (st' := [.ref 2]) rfl rfl ?_
  refine zN_get (fs := [.ref 3, .ref 4, .ref 5, .ref 8, .ref 18, .ref 26, .ref 29, .ref 56, .ref 61, .ref 63, .ref 65, .ref 66, .ref 67, .int (nI 1), .int (nI 1), .int (nI 0)]) rfl rfl rfl ?_
  refine zG_s (st' := [.int (nI 0), .ref 65]) rfl rfl ?_
  refine zG_s (st' := [.ref 104, .int (nI 0), .ref 65]) (h' := (105, s + 3466, (zk9_73 F))) rfl rfl ?_
  refine zG_s (st' := [.ref 104, .ref 104, .int (nI 0), .ref 65]) rfl rfl ?_
  refine zG_cS0 (h1 := (106, s + 3506, (zk9_74 F))) (st' := [.ref 104, .int (nI 0), .ref 65]) rfl rfl (ci_6 (o := 104) rfl) ?_
  refine zG_s (st' := []) (h' := (106, s + 3506, (zk9_75 F))) rfl rfl ?_
  refine zG_s (ls' := [.ref 2, .int (nI 1)]) rfl rfl ?_
  refine zG_s rfl rfl ?_
  refine zG_s (st' := [.int (nI 1)]) rfl rfl ?_
  refine zG_s (st' := [.int (nI 4), .int (nI 1)]) rfl rfl ?_
  refine zG_br rfl rfl (fun q => absurd q (by decide)) (fun _ => ?_)
  refine zG_s (st' := [.ref 2]) rfl rfl ?_
  refine zN_get (fs := [.ref 3, .ref 4, .ref 5, .ref 8, .ref 18, .ref 26, .ref 29, .ref 56, .ref 61, .ref 63, .ref 65, .ref 66, .ref 67, .int (nI 1), .int (nI 1), .int (nI 0)]) rfl rfl rfl ?_
  refine zG_s (st' := [.int (nI 1), .ref 65]) rfl rfl ?_
  refine zG_s (st' := [.ref 106, .int (nI 1), .ref 65]) (h' := (107, s + 3509, (zk9_76 F))) rfl rfl ?_
  refine zG_s (st' := [.ref 106, .ref 106, .int (nI 1), .ref 65]) rfl rfl ?_
  refine zG_cS0 (h1 := (108, s + 3549, (zk9_77 F))) (st' := [.ref 106, .int (nI 1), .ref 65]) rfl rfl (ci_6 (o := 106) rfl) ?_
  refine zG_s (st' := []) (h' := (108, s + 3549, (zk9_78 F))) rfl rfl ?_
  refine zG_s (ls' := [.ref 2, .int (nI 2)]) rfl rfl ?_
  refine zG_s rfl rfl ?_
  refine zG_s (st' := [.int (nI 2)]) rfl rfl ?_
  refine zG_s (st' := [.int (nI 4), .int (nI 2)]) rfl rfl ?_
  refine zG_br rfl rfl (fun q => absurd q (by decide)) (fun _ => ?_)
  refine zG_s (st' := [.ref 2]) rfl rfl ?_
  refine zN_get (fs := [.ref 3, .ref 4, .ref 5, .ref 8, .ref 18, .ref 26, .ref 29, .ref 56, .ref 61, .ref 63, .ref 65, .ref 66, .ref 67, .int (nI 1), .int (nI 1), .int (nI 0)]) rfl rfl rfl ?_
  refine zG_s (st' := [.int (nI 2), .ref 65]) rfl rfl ?_
  refine zG_s (st' := [.ref 108, .int (nI 2), .ref 65]) (h' := (109, s + 3552, (zk9_79 F))) rfl rfl ?_
  refine zG_s (st' := [.ref 108, .ref 108, .int (nI 2), .ref 65]) rfl rfl ?_
  refine zG_cS0 (h1 := (110, s + 3592, (zk9_80 F))) (st' := [.ref 108, .int (nI 2), .ref 65]) rfl rfl (ci_6 (o := 108) rfl) ?_
  refine zG_s (st' := []) (h' := (110, s + 3592, (zk9_81 F))) rfl rfl ?_
  refine zG_s (ls' := [.ref 2, .int (nI 3)]) rfl rfl ?_
  refine zG_s rfl rfl ?_
  refine zG_s (st' := [.int (nI 3)]) rfl rfl ?_
  refine zG_s (st' := [.int (nI 4), .int (nI 3)]) rfl rfl ?_
  refine zG_br rfl rfl (fun q => absurd q (by decide)) (fun _ => ?_)
  refine zG_s (st' := [.ref 2]) rfl rfl ?_
  refine zN_get (fs := [.ref 3, .ref 4, .ref 5, .ref 8, .ref 18, .ref 26, .ref 29, .ref 56, .ref 61, .ref 63, .ref 65, .ref 66, .ref 67, .int (nI 1), .int (nI 1), .int (nI 0)]) rfl rfl rfl ?_
  refine zG_s (st' := [.int (nI 3), .ref 65]) rfl rfl ?_
  refine zG_s (st' := [.ref 110, .int (nI 3), .ref 65]) (h' := (111, s + 3595, (zk9_82 F))) rfl rfl ?_
  refine zG_s (st' := [.ref 110, .ref 110, .int (nI 3), .ref 65]) rfl rfl ?_
  refine zG_cS0 (h1 := (112, s + 3635, (zk9_83 F))) (st' := [.ref 110, .int (nI 3), .ref 65]) rfl rfl (ci_6 (o := 110) rfl) ?_
  refine zG_s (st' := []) (h' := (112, s + 3635, (zk9_84 F))) rfl rfl ?_
  refine zG_s (ls' := [.ref 2, .int (nI 4)]) rfl rfl ?_
  refine zG_s rfl rfl ?_
  refine zG_s (st' := [.int (nI 4)]) rfl rfl ?_
  refine zG_s (st' := [.int (nI 4), .int (nI 4)]) rfl rfl ?_
  refine zG_br rfl rfl (fun _ => ?_) (fun q => absurd q (by decide))
  refine zG_s (st' := [.int (nI 0)]) rfl rfl ?_
  refine zG_s (ls' := [.ref 2, .int (nI 0)]) (st' := []) rfl rfl ?_
  refine zG_s (st' := [.int (nI 0)]) rfl rfl ?_
  refine zG_s (st' := [.int (nI 4), .int (nI 0)]) rfl rfl ?_
  refine zG_br rfl rfl (fun q => absurd q (by decide)) (fun _ => ?_)
  refine zG_s (st' := [.ref 2]) rfl rfl ?_
  refine zN_get (fs := [.ref 3, .ref 4, .ref 5, .ref 8, .ref 18, .ref 26, .ref 29, .ref 56, .ref 61, .ref 63, .ref 65, .ref 66, .ref 67, .int (nI 1), .int (nI 1), .int (nI 0)]) rfl rfl rfl ?_
  refine zG_s (st' := [.int (nI 0), .ref 66]) rfl rfl ?_
  refine zG_s (st' := [.int (-11), .int (nI 0), .ref 66]) rfl rfl ?_
  refine zG_s (st' := []) (h' := (112, s + 3635, (zk9_85 F))) rfl rfl ?_
  refine zG_s (ls' := [.ref 2, .int (nI 1)]) rfl rfl ?_
  refine zG_s rfl rfl ?_
  refine zG_s (st' := [.int (nI 1)]) rfl rfl ?_
  refine zG_s (st' := [.int (nI 4), .int (nI 1)]) rfl rfl ?_
  refine zG_br rfl rfl (fun q => absurd q (by decide)) (fun _ => ?_)
  refine zG_s (st' := [.ref 2]) rfl rfl ?_
  refine zN_get (fs := [.ref 3, .ref 4, .ref 5, .ref 8, .ref 18, .ref 26, .ref 29, .ref 56, .ref 61, .ref 63, .ref 65, .ref 66, .ref 67, .int (nI 1), .int (nI 1), .int (nI 0)]) rfl rfl rfl ?_
  refine zG_s (st' := [.int (nI 1), .ref 66]) rfl rfl ?_
  refine zG_s (st' := [.int (-11), .int (nI 1), .ref 66]) rfl rfl ?_
  refine zG_s (st' := []) (h' := (112, s + 3635, (zk9_86 F))) rfl rfl ?_
  refine zG_s (ls' := [.ref 2, .int (nI 2)]) rfl rfl ?_
  refine zG_s rfl rfl ?_
  refine zG_s (st' := [.int (nI 2)]) rfl rfl ?_
  refine zG_s (st' := [.int (nI 4), .int (nI 2)]) rfl rfl ?_
  refine zG_br rfl rfl (fun q => absurd q (by decide)) (fun _ => ?_)
  refine zG_s (st' := [.ref 2]) rfl rfl ?_
  refine zN_get (fs := [.ref 3, .ref 4, .ref 5, .ref 8, .ref 18, .ref 26, .ref 29, .ref 56, .ref 61, .ref 63, .ref 65, .ref 66, .ref 67, .int (nI 1), .int (nI 1), .int (nI 0)]) rfl rfl rfl ?_
  refine zG_s (st' := [.int (nI 2), .ref 66]) rfl rfl ?_
  refine zG_s (st' := [.int (-11), .int (nI 2), .ref 66]) rfl rfl ?_
  refine zG_s (st' := []) (h' := (112, s + 3635, (zk9_87 F))) rfl rfl ?_
  refine zG_s (ls' := [.ref 2, .int (nI 3)]) rfl rfl ?_
  refine zG_s rfl rfl ?_
  refine zG_s (st' := [.int (nI 3)]) rfl rfl ?_
  refine zG_s (st' := [.int (nI 4), .int (nI 3)]) rfl rfl ?_
  refine zG_br rfl rfl (fun q => absurd q (by decide)) (fun _ => ?_)
  refine zG_s (st' := [.ref 2]) rfl rfl ?_
  refine zN_get (fs := [.ref 3, .ref 4, .ref 5, .ref 8, .ref 18, .ref 26, .ref 29, .ref 56, .ref 61, .ref 63, .ref 65, .ref 66, .ref 67, .int (nI 1), .int (nI 1), .int (nI 0)]) rfl rfl rfl ?_
  refine zG_s (st' := [.int (nI 3), .ref 66]) rfl rfl ?_
  refine zG_s (st' := [.int (-11), .int (nI 3), .ref 66]) rfl rfl ?_
  refine zG_s (st' := []) (h' := (112, s + 3635, (zk9_88 F))) rfl rfl ?_
  refine zG_s (ls' := [.ref 2, .int (nI 4)]) rfl rfl ?_
  refine zG_s rfl rfl ?_
  refine zG_s (st' := [.int (nI 4)]) rfl rfl ?_
  refine zG_s (st' := [.int (nI 4), .int (nI 4)]) rfl rfl ?_
  refine zG_br rfl rfl (fun _ => ?_) (fun q => absurd q (by decide))
  exact zG_ret rfl rfl rfl
def zf10_0 : List Value := [.null, .null, .null, .null, .null, .int 0, .int 0, .int 0, .null, .null, .null, .null, .int 0, .int 0, .int 0, .int 0, .int 0, .int 0, .null, .null, .null, .int 0, .null, .null, .null, .null, .null, .int 0, .int 0, .null, .null, .null, .null, .null, .null, .null, .null, .int 0, .int 0]
def zf10_1 : List Value := [.ref 113, .null, .null, .null, .null, .int 0, .int 0, .int 0, .null, .null, .null, .null, .int 0, .int 0, .int 0, .int 0, .int 0, .int 0, .null, .null, .null, .int 0, .null, .null, .null, .null, .null, .int 0, .int 0, .null, .null, .null, .null, .null, .null, .null, .null, .int 0, .int 0]
def zf10_2 : List Value := [.ref 113, .ref 114, .null, .null, .null, .int 0, .int 0, .int 0, .null, .null, .null, .null, .int 0, .int 0, .int 0, .int 0, .int 0, .int 0, .null, .null, .null, .int 0, .null, .null, .null, .null, .null, .int 0, .int 0, .null, .null, .null, .null, .null, .null, .null, .null, .int 0, .int 0]
def zf10_3 : List Value := [.ref 113, .ref 114, .ref 115, .null, .null, .int 0, .int 0, .int 0, .null, .null, .null, .null, .int 0, .int 0, .int 0, .int 0, .int 0, .int 0, .null, .null, .null, .int 0, .null, .null, .null, .null, .null, .int 0, .int 0, .null, .null, .null, .null, .null, .null, .null, .null, .int 0, .int 0]
def zf10_4 : List Value := [.ref 113, .ref 114, .ref 115, .ref 116, .null, .int 0, .int 0, .int 0, .null, .null, .null, .null, .int 0, .int 0, .int 0, .int 0, .int 0, .int 0, .null, .null, .null, .int 0, .null, .null, .null, .null, .null, .int 0, .int 0, .null, .null, .null, .null, .null, .null, .null, .null, .int 0, .int 0]
def zf10_5 : List Value := [.ref 113, .ref 114, .ref 115, .ref 116, .ref 117, .int 0, .int 0, .int 0, .null, .null, .null, .null, .int 0, .int 0, .int 0, .int 0, .int 0, .int 0, .null, .null, .null, .int 0, .null, .null, .null, .null, .null, .int 0, .int 0, .null, .null, .null, .null, .null, .null, .null, .null, .int 0, .int 0]
def zf10_6 : List Value := [.ref 113, .ref 114, .ref 115, .ref 116, .ref 117, .int (nI 1), .int 0, .int 0, .null, .null, .null, .null, .int 0, .int 0, .int 0, .int 0, .int 0, .int 0, .null, .null, .null, .int 0, .null, .null, .null, .null, .null, .int 0, .int 0, .null, .null, .null, .null, .null, .null, .null, .null, .int 0, .int 0]
def zf10_7 : List Value := [.ref 113, .ref 114, .ref 115, .ref 116, .ref 117, .int (nI 1), .int 0, .int 0, .ref 118, .null, .null, .null, .int 0, .int 0, .int 0, .int 0, .int 0, .int 0, .null, .null, .null, .int 0, .null, .null, .null, .null, .null, .int 0, .int 0, .null, .null, .null, .null, .null, .null, .null, .null, .int 0, .int 0]
def zf10_8 : List Value := [.ref 113, .ref 114, .ref 115, .ref 116, .ref 117, .int (nI 1), .int 0, .int 0, .ref 118, .ref 119, .null, .null, .int 0, .int 0, .int 0, .int 0, .int 0, .int 0, .null, .null, .null, .int 0, .null, .null, .null, .null, .null, .int 0, .int 0, .null, .null, .null, .null, .null, .null, .null, .null, .int 0, .int 0]
def zf10_9 : List Value := [.ref 113, .ref 114, .ref 115, .ref 116, .ref 117, .int (nI 1), .int 0, .int 0, .ref 118, .ref 119, .ref 120, .null, .int 0, .int 0, .int 0, .int 0, .int 0, .int 0, .null, .null, .null, .int 0, .null, .null, .null, .null, .null, .int 0, .int 0, .null, .null, .null, .null, .null, .null, .null, .null, .int 0, .int 0]
def zf10_10 : List Value := [.ref 113, .ref 114, .ref 115, .ref 116, .ref 117, .int (nI 1), .int 0, .int 0, .ref 118, .ref 119, .ref 120, .ref 121, .int 0, .int 0, .int 0, .int 0, .int 0, .int 0, .null, .null, .null, .int 0, .null, .null, .null, .null, .null, .int 0, .int 0, .null, .null, .null, .null, .null, .null, .null, .null, .int 0, .int 0]
def zf10_11 : List Value := [.ref 113, .ref 114, .ref 115, .ref 116, .ref 117, .int (nI 1), .int 0, .int 0, .ref 118, .ref 119, .ref 120, .ref 121, .int 0, .int 0, .int 0, .int 0, .int 0, .int 0, .ref 122, .null, .null, .int 0, .null, .null, .null, .null, .null, .int 0, .int 0, .null, .null, .null, .null, .null, .null, .null, .null, .int 0, .int 0]
def zf10_12 : List Value := [.ref 113, .ref 114, .ref 115, .ref 116, .ref 117, .int (nI 1), .int 0, .int 0, .ref 118, .ref 119, .ref 120, .ref 121, .int 0, .int 0, .int 0, .int 0, .int 0, .int 0, .ref 122, .ref 123, .null, .int 0, .null, .null, .null, .null, .null, .int 0, .int 0, .null, .null, .null, .null, .null, .null, .null, .null, .int 0, .int 0]
def zf10_13 : List Value := [.ref 113, .ref 114, .ref 115, .ref 116, .ref 117, .int (nI 1), .int 0, .int 0, .ref 118, .ref 119, .ref 120, .ref 121, .int 0, .int 0, .int 0, .int 0, .int 0, .int 0, .ref 122, .ref 123, .ref 124, .int 0, .null, .null, .null, .null, .null, .int 0, .int 0, .null, .null, .null, .null, .null, .null, .null, .null, .int 0, .int 0]
def zf10_14 : List Value := [.ref 113, .ref 114, .ref 115, .ref 116, .ref 117, .int (nI 1), .int 0, .int 0, .ref 118, .ref 119, .ref 120, .ref 121, .int 0, .int 0, .int 0, .int 0, .int 0, .int 0, .ref 122, .ref 123, .ref 124, .int 0, .ref 125, .null, .null, .null, .null, .int 0, .int 0, .null, .null, .null, .null, .null, .null, .null, .null, .int 0, .int 0]
def zf10_15 : List Value := [.ref 113, .ref 114, .ref 115, .ref 116, .ref 117, .int (nI 1), .int 0, .int 0, .ref 118, .ref 119, .ref 120, .ref 121, .int 0, .int 0, .int 0, .int 0, .int 0, .int 0, .ref 122, .ref 123, .ref 124, .int 0, .ref 125, .ref 126, .null, .null, .null, .int 0, .int 0, .null, .null, .null, .null, .null, .null, .null, .null, .int 0, .int 0]
def zf10_16 : List Value := [.ref 113, .ref 114, .ref 115, .ref 116, .ref 117, .int (nI 1), .int 0, .int 0, .ref 118, .ref 119, .ref 120, .ref 121, .int 0, .int 0, .int 0, .int 0, .int 0, .int 0, .ref 122, .ref 123, .ref 124, .int 0, .ref 125, .ref 126, .ref 127, .null, .null, .int 0, .int 0, .null, .null, .null, .null, .null, .null, .null, .null, .int 0, .int 0]
def zf10_17 : List Value := [.ref 113, .ref 114, .ref 115, .ref 116, .ref 117, .int (nI 1), .int 0, .int 0, .ref 118, .ref 119, .ref 120, .ref 121, .int 0, .int 0, .int 0, .int 0, .int 0, .int 0, .ref 122, .ref 123, .ref 124, .int 0, .ref 125, .ref 126, .ref 127, .ref 128, .null, .int 0, .int 0, .null, .null, .null, .null, .null, .null, .null, .null, .int 0, .int 0]
def zf10_18 : List Value := [.ref 113, .ref 114, .ref 115, .ref 116, .ref 117, .int (nI 1), .int 0, .int 0, .ref 118, .ref 119, .ref 120, .ref 121, .int 0, .int 0, .int 0, .int 0, .int 0, .int 0, .ref 122, .ref 123, .ref 124, .int 0, .ref 125, .ref 126, .ref 127, .ref 128, .ref 129, .int 0, .int 0, .null, .null, .null, .null, .null, .null, .null, .null, .int 0, .int 0]
def zf10_19 : List Value := [.ref 113, .ref 114, .ref 115, .ref 116, .ref 117, .int (nI 1), .int 0, .int 0, .ref 118, .ref 119, .ref 120, .ref 121, .int 0, .int 0, .int 0, .int 0, .int 0, .int 0, .ref 122, .ref 123, .ref 124, .int 0, .ref 125, .ref 126, .ref 127, .ref 128, .ref 129, .int 0, .int 0, .ref 130, .null, .null, .null, .null, .null, .null, .null, .int 0, .int 0]
def zf10_20 : List Value := [.ref 113, .ref 114, .ref 115, .ref 116, .ref 117, .int (nI 1), .int 0, .int 0, .ref 118, .ref 119, .ref 120, .ref 121, .int 0, .int 0, .int 0, .int 0, .int 0, .int 0, .ref 122, .ref 123, .ref 124, .int 0, .ref 125, .ref 126, .ref 127, .ref 128, .ref 129, .int 0, .int 0, .ref 130, .ref 131, .null, .null, .null, .null, .null, .null, .int 0, .int 0]
def zf10_21 : List Value := [.ref 113, .ref 114, .ref 115, .ref 116, .ref 117, .int (nI 1), .int 0, .int 0, .ref 118, .ref 119, .ref 120, .ref 121, .int 0, .int 0, .int 0, .int 0, .int 0, .int 0, .ref 122, .ref 123, .ref 124, .int 0, .ref 125, .ref 126, .ref 127, .ref 128, .ref 129, .int 0, .int 0, .ref 130, .ref 131, .ref 132, .null, .null, .null, .null, .null, .int 0, .int 0]
def zf10_22 : List Value := [.ref 113, .ref 114, .ref 115, .ref 116, .ref 117, .int (nI 1), .int 0, .int 0, .ref 118, .ref 119, .ref 120, .ref 121, .int 0, .int 0, .int 0, .int 0, .int 0, .int 0, .ref 122, .ref 123, .ref 124, .int 0, .ref 125, .ref 126, .ref 127, .ref 128, .ref 129, .int 0, .int 0, .ref 130, .ref 131, .ref 132, .ref 133, .null, .null, .null, .null, .int 0, .int 0]
def zf10_23 : List Value := [.ref 113, .ref 114, .ref 115, .ref 116, .ref 117, .int (nI 1), .int 0, .int 0, .ref 118, .ref 119, .ref 120, .ref 121, .int 0, .int 0, .int 0, .int 0, .int 0, .int 0, .ref 122, .ref 123, .ref 124, .int 0, .ref 125, .ref 126, .ref 127, .ref 128, .ref 129, .int 0, .int 0, .ref 130, .ref 131, .ref 132, .ref 133, .ref 134, .null, .null, .null, .int 0, .int 0]
def zf10_24 : List Value := [.ref 113, .ref 114, .ref 115, .ref 116, .ref 117, .int (nI 1), .int 0, .int 0, .ref 118, .ref 119, .ref 120, .ref 121, .int 0, .int 0, .int 0, .int 0, .int 0, .int 0, .ref 122, .ref 123, .ref 124, .int 0, .ref 125, .ref 126, .ref 127, .ref 128, .ref 129, .int 0, .int 0, .ref 130, .ref 131, .ref 132, .ref 133, .ref 134, .ref 135, .null, .null, .int 0, .int 0]
def zf10_25 : List Value := [.ref 113, .ref 114, .ref 115, .ref 116, .ref 117, .int (nI 1), .int 0, .int 0, .ref 118, .ref 119, .ref 120, .ref 121, .int 0, .int 0, .int 0, .int 0, .int 0, .int 0, .ref 122, .ref 123, .ref 124, .int 0, .ref 125, .ref 126, .ref 127, .ref 128, .ref 129, .int 0, .int 0, .ref 130, .ref 131, .ref 132, .ref 133, .ref 134, .ref 135, .ref 136, .null, .int 0, .int 0]
def zf10_26 : List Value := [.ref 113, .ref 114, .ref 115, .ref 116, .ref 117, .int (nI 1), .int 0, .int 0, .ref 118, .ref 119, .ref 120, .ref 121, .int 0, .int 0, .int 0, .int 0, .int 0, .int 0, .ref 122, .ref 123, .ref 124, .int 0, .ref 125, .ref 126, .ref 127, .ref 128, .ref 129, .int 0, .int 0, .ref 130, .ref 131, .ref 132, .ref 133, .ref 134, .ref 135, .ref 136, .ref 137, .int 0, .int 0]
def zk10_0 (F : Nat → zC) : Nat → zC := fun j => if j = 113 then .inl (0, 80, .inl (fun _ => 0)) else F j
def zk10_1 (F : Nat → zC) : Nat → zC := fun j => if j = 112 then .inr (10, zf10_1) else (zk10_0 F) j
def zk10_2 (F : Nat → zC) : Nat → zC := fun j => if j = 114 then .inl (0, 80, .inl (fun _ => 0)) else (zk10_1 F) j
def zk10_3 (F : Nat → zC) : Nat → zC := fun j => if j = 112 then .inr (10, zf10_2) else (zk10_2 F) j
def zk10_4 (F : Nat → zC) : Nat → zC := fun j => if j = 115 then .inl (0, 10, .inl (fun _ => 0)) else (zk10_3 F) j
def zk10_5 (F : Nat → zC) : Nat → zC := fun j => if j = 112 then .inr (10, zf10_3) else (zk10_4 F) j
def zk10_6 (F : Nat → zC) : Nat → zC := fun j => if j = 116 then .inl (0, 48, .inl (fun _ => 0)) else (zk10_5 F) j
def zk10_7 (F : Nat → zC) : Nat → zC := fun j => if j = 112 then .inr (10, zf10_4) else (zk10_6 F) j
def zk10_8 (F : Nat → zC) : Nat → zC := fun j => if j = 117 then .inl (0, 6, .inl (fun _ => 0)) else (zk10_7 F) j
def zk10_9 (F : Nat → zC) : Nat → zC := fun j => if j = 112 then .inr (10, zf10_5) else (zk10_8 F) j
def zk10_10 (F : Nat → zC) : Nat → zC := fun j => if j = 112 then .inr (10, zf10_6) else (zk10_9 F) j
def zk10_11 (F : Nat → zC) : Nat → zC := fun j => if j = 118 then .inl (0, 8, .inl (fun _ => 0)) else (zk10_10 F) j
def zk10_12 (F : Nat → zC) : Nat → zC := fun j => if j = 112 then .inr (10, zf10_7) else (zk10_11 F) j
def zk10_13 (F : Nat → zC) : Nat → zC := fun j => if j = 119 then .inl (0, 8, .inl (fun _ => 0)) else (zk10_12 F) j
def zk10_14 (F : Nat → zC) : Nat → zC := fun j => if j = 112 then .inr (10, zf10_8) else (zk10_13 F) j
def zk10_15 (F : Nat → zC) : Nat → zC := fun j => if j = 120 then .inl (0, 256, .inl (fun _ => 0)) else (zk10_14 F) j
def zk10_16 (F : Nat → zC) : Nat → zC := fun j => if j = 112 then .inr (10, zf10_9) else (zk10_15 F) j
def zk10_17 (F : Nat → zC) : Nat → zC := fun j => if j = 121 then .inl (0, 256, .inl (fun _ => 0)) else (zk10_16 F) j
def zk10_18 (F : Nat → zC) : Nat → zC := fun j => if j = 112 then .inr (10, zf10_10) else (zk10_17 F) j
def zk10_19 (F : Nat → zC) : Nat → zC := fun j => if j = 122 then .inl (0, 8, .inl (fun _ => 0)) else (zk10_18 F) j
def zk10_20 (F : Nat → zC) : Nat → zC := fun j => if j = 112 then .inr (10, zf10_11) else (zk10_19 F) j
def zk10_21 (F : Nat → zC) : Nat → zC := fun j => if j = 123 then .inl (0, 8, .inl (fun _ => 0)) else (zk10_20 F) j
def zk10_22 (F : Nat → zC) : Nat → zC := fun j => if j = 112 then .inr (10, zf10_12) else (zk10_21 F) j
def zk10_23 (F : Nat → zC) : Nat → zC := fun j => if j = 124 then .inl (0, 8, .inl (fun _ => 0)) else (zk10_22 F) j
def zk10_24 (F : Nat → zC) : Nat → zC := fun j => if j = 112 then .inr (10, zf10_13) else (zk10_23 F) j
def zk10_25 (F : Nat → zC) : Nat → zC := fun j => if j = 125 then .inl (0, 512, .inl (fun _ => 0)) else (zk10_24 F) j
def zk10_26 (F : Nat → zC) : Nat → zC := fun j => if j = 112 then .inr (10, zf10_14) else (zk10_25 F) j
def zk10_27 (F : Nat → zC) : Nat → zC := fun j => if j = 126 then .inl (0, 256, .inl (fun _ => 0)) else (zk10_26 F) j
def zk10_28 (F : Nat → zC) : Nat → zC := fun j => if j = 112 then .inr (10, zf10_15) else (zk10_27 F) j
def zk10_29 (F : Nat → zC) : Nat → zC := fun j => if j = 127 then .inl (1, 64, .inr (.inl (fun _ => 0))) else (zk10_28 F) j
def zk10_30 (F : Nat → zC) : Nat → zC := fun j => if j = 112 then .inr (10, zf10_16) else (zk10_29 F) j
def zk10_31 (F : Nat → zC) : Nat → zC := fun j => if j = 128 then .inl (3, 256, .inl (fun _ => 0)) else (zk10_30 F) j
def zk10_32 (F : Nat → zC) : Nat → zC := fun j => if j = 112 then .inr (10, zf10_17) else (zk10_31 F) j
def zk10_33 (F : Nat → zC) : Nat → zC := fun j => if j = 129 then .inl (0, 100, .inl (fun _ => 0)) else (zk10_32 F) j
def zk10_34 (F : Nat → zC) : Nat → zC := fun j => if j = 112 then .inr (10, zf10_18) else (zk10_33 F) j
def zk10_35 (F : Nat → zC) : Nat → zC := fun j => if j = 130 then .inl (0, 4, .inl (fun _ => 0)) else (zk10_34 F) j
def zk10_36 (F : Nat → zC) : Nat → zC := fun j => if j = 130 then .inl (0, 4, .inl (upd (fun _ => 0) 0 (-1))) else (zk10_35 F) j
def zk10_37 (F : Nat → zC) : Nat → zC := fun j => if j = 130 then .inl (0, 4, .inl (upd (upd (fun _ => 0) 0 (-1)) 1 (-1))) else (zk10_36 F) j
def zk10_38 (F : Nat → zC) : Nat → zC := fun j => if j = 130 then .inl (0, 4, .inl (upd (upd (upd (fun _ => 0) 0 (-1)) 1 (-1)) 2 (-1))) else (zk10_37 F) j
def zk10_39 (F : Nat → zC) : Nat → zC := fun j => if j = 130 then .inl (0, 4, .inl (upd (upd (upd (upd (fun _ => 0) 0 (-1)) 1 (-1)) 2 (-1)) 3 (-1))) else (zk10_38 F) j
def zk10_40 (F : Nat → zC) : Nat → zC := fun j => if j = 112 then .inr (10, zf10_19) else (zk10_39 F) j
def zk10_41 (F : Nat → zC) : Nat → zC := fun j => if j = 131 then .inl (0, 4, .inl (fun _ => 0)) else (zk10_40 F) j
def zk10_42 (F : Nat → zC) : Nat → zC := fun j => if j = 112 then .inr (10, zf10_20) else (zk10_41 F) j
def zk10_43 (F : Nat → zC) : Nat → zC := fun j => if j = 132 then .inl (1, 160, .inr (.inl (fun _ => 0))) else (zk10_42 F) j
def zk10_44 (F : Nat → zC) : Nat → zC := fun j => if j = 112 then .inr (10, zf10_21) else (zk10_43 F) j
def zk10_45 (F : Nat → zC) : Nat → zC := fun j => if j = 133 then .inl (1, 40, .inr (.inl (fun _ => 0))) else (zk10_44 F) j
def zk10_46 (F : Nat → zC) : Nat → zC := fun j => if j = 112 then .inr (10, zf10_22) else (zk10_45 F) j
def zk10_47 (F : Nat → zC) : Nat → zC := fun j => if j = 134 then .inl (0, 4, .inl (fun _ => 0)) else (zk10_46 F) j
def zk10_48 (F : Nat → zC) : Nat → zC := fun j => if j = 112 then .inr (10, zf10_23) else (zk10_47 F) j
def zk10_49 (F : Nat → zC) : Nat → zC := fun j => if j = 135 then .inl (0, 4, .inl (fun _ => 0)) else (zk10_48 F) j
def zk10_50 (F : Nat → zC) : Nat → zC := fun j => if j = 112 then .inr (10, zf10_24) else (zk10_49 F) j
def zk10_51 (F : Nat → zC) : Nat → zC := fun j => if j = 136 then .inl (0, 4, .inl (fun _ => 0)) else (zk10_50 F) j
def zk10_52 (F : Nat → zC) : Nat → zC := fun j => if j = 112 then .inr (10, zf10_25) else (zk10_51 F) j
def zk10_53 (F : Nat → zC) : Nat → zC := fun j => if j = 137 then .inl (0, 30, .inl (fun _ => 0)) else (zk10_52 F) j
def zk10_54 (F : Nat → zC) : Nat → zC := fun j => if j = 112 then .inr (10, zf10_26) else (zk10_53 F) j
def zkE10 (F : Nat → zC) : Nat → zC := zk10_54 F
theorem ci_10 {d s : Nat} {F : Nat → zC} (hF : F 112 = .inr (10, zdef 10 39)) : zCall (d + 1) 165 [.ref 112] (113, s, F) (none, (138, s + 2214, zkE10 F)) := by
  refine zG_m (t := tX10_init) (ls0 := [.ref 112]) rfl rfl zdnR0 rfl ?_
  refine zG_s (st' := [.ref 112]) rfl rfl ?_
  refine zG_s (st' := []) rfl rfl ?_
  refine zG_s (st' := [.ref 112]) rfl rfl ?_
  refine zG_s (st' := [.int (nI 80), .ref 112]) rfl rfl ?_
  refine zG_s (st' := [.ref 113, .ref 112]) (h' := (114, s + 80, (zk10_0 F))) rfl rfl ?_
  refine zN_putS (fs := zf10_0) (fs' := zf10_1) (h9 := (114, s + 80, (zk10_1 F))) rfl hF rfl rfl rfl rfl ?_
  refine zG_s (st' := [.ref 112]) rfl rfl ?_
  refine zG_s (st' := [.int (nI 80), .ref 112]) rfl rfl ?_
  refine zG_s (st' := [.ref 114, .ref 112]) (h' := (115, s + 160, (zk10_2 F))) rfl rfl ?_
  refine zN_putS (fs := zf10_1) (fs' := zf10_2) (h9 := (115, s + 160, (zk10_3 F))) rfl rfl rfl rfl rfl rfl ?_
  refine zG_s (st' := [.ref 112]) rfl rfl ?_
  refine zG_s (st' := [.int (nI 10), .ref 112]) rfl rfl ?_
  refine zG_s (st' := [.ref 115, .ref 112]) (h' := (116, s + 170, (zk10_4 F))) rfl rfl ?_
  refine zN_putS (fs := zf10_2) (fs' := zf10_3) (h9 := (116, s + 170, (zk10_5 F))) rfl rfl rfl rfl rfl rfl ?_
  refine zG_s (st' := [.ref 112]) rfl rfl ?_
  refine zG_s (st' := [.int (nI 48), .ref 112]) rfl rfl ?_
  refine zG_s (st' := [.ref 116, .ref 112]) (h' := (117, s + 218, (zk10_6 F))) rfl rfl ?_
  refine zN_putS (fs := zf10_3) (fs' := zf10_4) (h9 := (117, s + 218, (zk10_7 F))) rfl rfl rfl rfl rfl rfl ?_
  refine zG_s (st' := [.ref 112]) rfl rfl ?_
  refine zG_s (st' := [.int (nI 6), .ref 112]) rfl rfl ?_
  refine zG_s (st' := [.ref 117, .ref 112]) (h' := (118, s + 224, (zk10_8 F))) rfl rfl ?_
  refine zN_putS (fs := zf10_4) (fs' := zf10_5) (h9 := (118, s + 224, (zk10_9 F))) rfl rfl rfl rfl rfl rfl ?_
  refine zG_s (st' := [.ref 112]) rfl rfl ?_
  refine zG_s (st' := [.int (nI 1), .ref 112]) rfl rfl ?_
  refine zN_putS (fs := zf10_5) (fs' := zf10_6) (h9 := (118, s + 224, (zk10_10 F))) rfl rfl rfl rfl rfl rfl ?_
  refine zG_s (st' := [.ref 112]) rfl rfl ?_
  refine zG_s (st' := [.int (nI 8), .ref 112]) rfl rfl ?_
  refine zG_s (st' := [.ref 118, .ref 112]) (h' := (119, s + 232, (zk10_11 F))) rfl rfl ?_
  refine zN_putS (fs := zf10_6) (fs' := zf10_7) (h9 := (119, s + 232, (zk10_12 F))) rfl rfl rfl rfl rfl rfl ?_
  refine zG_s (st' := [.ref 112]) rfl rfl ?_
  refine zG_s (st' := [.int (nI 8), .ref 112]) rfl rfl ?_
  refine zG_s (st' := [.ref 119, .ref 112]) (h' := (120, s + 240, (zk10_13 F))) rfl rfl ?_
  refine zN_putS (fs := zf10_7) (fs' := zf10_8) (h9 := (120, s + 240, (zk10_14 F))) rfl rfl rfl rfl rfl rfl ?_
  refine zG_s (st' := [.ref 112]) rfl rfl ?_
  refine zG_s (st' := [.int (nI 256), .ref 112]) rfl rfl ?_
  refine zG_s (st' := [.ref 120, .ref 112]) (h' := (121, s + 496, (zk10_15 F))) rfl rfl ?_
  refine zN_putS (fs := zf10_8) (fs' := zf10_9) (h9 := (121, s + 496, (zk10_16 F))) rfl rfl rfl rfl rfl rfl ?_
  refine zG_s (st' := [.ref 112]) rfl rfl ?_
  refine zG_s (st' := [.int (nI 256), .ref 112]) rfl rfl ?_
  refine zG_s (st' := [.ref 121, .ref 112]) (h' := (122, s + 752, (zk10_17 F))) rfl rfl ?_
  refine zN_putS (fs := zf10_9) (fs' := zf10_10) (h9 := (122, s + 752, (zk10_18 F))) rfl rfl rfl rfl rfl rfl ?_
  refine zG_s (st' := [.ref 112]) rfl rfl ?_
  refine zG_s (st' := [.int (nI 8), .ref 112]) rfl rfl ?_
  refine zG_s (st' := [.ref 122, .ref 112]) (h' := (123, s + 760, (zk10_19 F))) rfl rfl ?_
  refine zN_putS (fs := zf10_10) (fs' := zf10_11) (h9 := (123, s + 760, (zk10_20 F))) rfl rfl rfl rfl rfl rfl ?_
  refine zG_s (st' := [.ref 112]) rfl rfl ?_
  refine zG_s (st' := [.int (nI 8), .ref 112]) rfl rfl ?_
  refine zG_s (st' := [.ref 123, .ref 112]) (h' := (124, s + 768, (zk10_21 F))) rfl rfl ?_
  refine zN_putS (fs := zf10_11) (fs' := zf10_12) (h9 := (124, s + 768, (zk10_22 F))) rfl rfl rfl rfl rfl rfl ?_
  refine zG_s (st' := [.ref 112]) rfl rfl ?_
  refine zG_s (st' := [.int (nI 8), .ref 112]) rfl rfl ?_
  refine zG_s (st' := [.ref 124, .ref 112]) (h' := (125, s + 776, (zk10_23 F))) rfl rfl ?_
  refine zN_putS (fs := zf10_12) (fs' := zf10_13) (h9 := (125, s + 776, (zk10_24 F))) rfl rfl rfl rfl rfl rfl ?_
  refine zG_s (st' := [.ref 112]) rfl rfl ?_
  refine zG_s (st' := [.int (nI 512), .ref 112]) rfl rfl ?_
  refine zG_s (st' := [.ref 125, .ref 112]) (h' := (126, s + 1288, (zk10_25 F))) rfl rfl ?_
  refine zN_putS (fs := zf10_13) (fs' := zf10_14) (h9 := (126, s + 1288, (zk10_26 F))) rfl rfl rfl rfl rfl rfl ?_
  refine zG_s (st' := [.ref 112]) rfl rfl ?_
  refine zG_s (st' := [.int (nI 256), .ref 112]) rfl rfl ?_
  refine zG_s (st' := [.ref 126, .ref 112]) (h' := (127, s + 1544, (zk10_27 F))) rfl rfl ?_
  refine zN_putS (fs := zf10_14) (fs' := zf10_15) (h9 := (127, s + 1544, (zk10_28 F))) rfl rfl rfl rfl rfl rfl ?_
  refine zG_s (st' := [.ref 112]) rfl rfl ?_
  refine zG_s (st' := [.int (nI 64), .ref 112]) rfl rfl ?_
  refine zG_s (st' := [.ref 127, .ref 112]) (h' := (128, s + 1608, (zk10_29 F))) rfl rfl ?_
  refine zN_putS (fs := zf10_15) (fs' := zf10_16) (h9 := (128, s + 1608, (zk10_30 F))) rfl rfl rfl rfl rfl rfl ?_
  refine zG_s (st' := [.ref 112]) rfl rfl ?_
  refine zG_s (st' := [.int (nI 256), .ref 112]) rfl rfl ?_
  refine zG_s (st' := [.ref 128, .ref 112]) (h' := (129, s + 1864, (zk10_31 F))) rfl rfl ?_
  refine zN_putS (fs := zf10_16) (fs' := zf10_17) (h9 := (129, s + 1864, (zk10_32 F))) rfl rfl rfl rfl rfl rfl ?_
  refine zG_s (st' := [.ref 112]) rfl rfl ?_
  refine zG_s (st' := [.int (nI 100), .ref 112]) rfl rfl ?_
  refine zG_s (st' := [.ref 129, .ref 112]) (h' := (130, s + 1964, (zk10_33 F))) rfl rfl ?_
  refine zN_putS (fs := zf10_17) (fs' := zf10_18) (h9 := (130, s + 1964, (zk10_34 F))) rfl rfl rfl rfl rfl rfl ?_
  refine zG_s (st' := [.ref 112]) rfl rfl ?_
  refine zG_s (st' := [.int (nI 4), .ref 112]) rfl rfl ?_
  refine zG_s (st' := [.ref 130, .ref 112]) (h' := (131, s + 1968, (zk10_35 F))) rfl rfl ?_
  refine zG_s (st' := [.ref 130, .ref 130, .ref 112]) rfl rfl ?_
  refine zG_s (st' := [.int (nI 0), .ref 130, .ref 130, .ref 112]) rfl rfl ?_
  refine zG_s (st' := [.int (-1), .int (nI 0), .ref 130, .ref 130, .ref 112]) rfl rfl ?_
  refine zG_s (st' := [.ref 130, .ref 112]) (h' := (131, s + 1968, (zk10_36 F))) rfl rfl ?_
  refine zG_s (st' := [.ref 130, .ref 130, .ref 112]) rfl rfl ?_
  refine zG_s (st' := [.int (nI 1), .ref 130, .ref 130, .ref 112]) rfl rfl ?_
  refine zG_s (st' := [.int (-1), .int (nI 1), .ref 130, .ref 130, .ref 112]) rfl rfl ?_
  refine zG_s (st' := [.ref 130, .ref 112]) (h' := (131, s + 1968, (zk10_37 F))) rfl rfl ?_
  refine zG_s (st' := [.ref 130, .ref 130, .ref 112]) rfl rfl ?_
  refine zG_s (st' := [.int (nI 2), .ref 130, .ref 130, .ref 112]) rfl rfl ?_
  refine zG_s (st' := [.int (-1), .int (nI 2), .ref 130, .ref 130, .ref 112]) rfl rfl ?_
  refine zG_s (st' := [.ref 130, .ref 112]) (h' := (131, s + 1968, (zk10_38 F))) rfl rfl ?_
  refine zG_s (st' := [.ref 130, .ref 130, .ref 112]) rfl rfl ?_
  refine zG_s (st' := [.int (nI 3), .ref 130, .ref 130, .ref 112]) rfl rfl ?_
  refine zG_s (st' := [.int (-1), .int (nI 3), .ref 130, .ref 130, .ref 112]) rfl rfl ?_
  refine zG_s (st' := [.ref 130, .ref 112]) (h' := (131, s + 1968, (zk10_39 F))) rfl rfl ?_
  refine zN_putS (fs := zf10_18) (fs' := zf10_19) (h9 := (131, s + 1968, (zk10_40 F))) rfl rfl rfl rfl rfl rfl ?_
  refine zG_s (st' := [.ref 112]) rfl rfl ?_
  refine zG_s (st' := [.int (nI 4), .ref 112]) rfl rfl ?_
  refine zG_s (st' := [.ref 131, .ref 112]) (h' := (132, s + 1972, (zk10_41 F))) rfl rfl ?_
  refine zN_putS (fs := zf10_19) (fs' := zf10_20) (h9 := (132, s + 1972, (zk10_42 F))) rfl rfl rfl rfl rfl rfl ?_
  refine zG_s (st' := [.ref 112]) rfl rfl ?_
  refine zG_s (st' := [.int (nI 160), .ref 112]) rfl rfl ?_
  refine zG_s (st' := [.ref 132, .ref 112]) (h' := (133, s + 2132, (zk10_43 F))) rfl rfl ?_
  refine zN_putS (fs := zf10_20) (fs' := zf10_21) (h9 := (133, s + 2132, (zk10_44 F))) rfl rfl rfl rfl rfl rfl ?_
  refine zG_s (st' := [.ref 112]) rfl rfl ?_
  refine zG_s (st' := [.int (nI 40), .ref 112]) rfl rfl ?_
  refine zG_s (st' := [.ref 133, .ref 112]) (h' := (134, s + 2172, (zk10_45 F))) rfl rfl ?_
  refine zN_putS (fs := zf10_21) (fs' := zf10_22) (h9 := (134, s + 2172, (zk10_46 F))) rfl rfl rfl rfl rfl rfl ?_
  refine zG_s (st' := [.ref 112]) rfl rfl ?_
  refine zG_s (st' := [.int (nI 4), .ref 112]) rfl rfl ?_
  refine zG_s (st' := [.ref 134, .ref 112]) (h' := (135, s + 2176, (zk10_47 F))) rfl rfl ?_
  refine zN_putS (fs := zf10_22) (fs' := zf10_23) (h9 := (135, s + 2176, (zk10_48 F))) rfl rfl rfl rfl rfl rfl ?_
  refine zG_s (st' := [.ref 112]) rfl rfl ?_
  refine zG_s (st' := [.int (nI 4), .ref 112]) rfl rfl ?_
  refine zG_s (st' := [.ref 135, .ref 112]) (h' := (136, s + 2180, (zk10_49 F))) rfl rfl ?_
  refine zN_putS (fs := zf10_23) (fs' := zf10_24) (h9 := (136, s + 2180, (zk10_50 F))) rfl rfl rfl rfl rfl rfl ?_
  refine zG_s (st' := [.ref 112]) rfl rfl ?_
  refine zG_s (st' := [.int (nI 4), .ref 112]) rfl rfl ?_
  refine zG_s (st' := [.ref 136, .ref 112]) (h' := (137, s + 2184, (zk10_51 F))) rfl rfl ?_
  refine zN_putS (fs := zf10_24) (fs' := zf10_25) (h9 := (137, s + 2184, (zk10_52 F))) rfl rfl rfl rfl rfl rfl ?_
  refine zG_s (st' := [.ref 112]) rfl rfl ?_
  refine zG_s (st' := [.int (nI 30), .ref 112]) rfl rfl ?_
  refine zG_s (st' := [.ref 137, .ref 112]) (h' := (138, s + 2214, (zk10_53 F))) rfl rfl ?_
  refine zN_putS (fs := zf10_25) (fs' := zf10_26) (h9 := (138, s + 2214, (zk10_54 F))) rfl rfl rfl rfl rfl rfl ?_
  exact zG_ret rfl rfl rfl
