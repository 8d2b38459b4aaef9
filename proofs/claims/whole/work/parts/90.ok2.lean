theorem zp_74 : ∀ (pc : Nat) (ai : zI), zT 74 pc = some ai → zokI 74 pc ai = true := by
  intro pc ai e
  rcases Nat.lt_or_ge pc 26 with h | h
  · exact zok_R zo_74 (Nat.zero_le _) (by omega) e
  · exact absurd (e.symm.trans (show tX7_component pc = none from zok_cut h)) (by intro q; cases q)
theorem zo_75 : zokR 75 0 41 = true := by decide +kernel
theorem zp_75 : ∀ (pc : Nat) (ai : zI), zT 75 pc = some ai → zokI 75 pc ai = true := by
  intro pc ai e
  rcases Nat.lt_or_ge pc 41 with h | h
  · exact zok_R zo_75 (Nat.zero_le _) (by omega) e
  · exact absurd (e.symm.trans (show tX7_components pc = none from zok_cut h)) (by intro q; cases q)
theorem zo_76 : zokR 76 0 40 = true := by decide +kernel
theorem zp_76 : ∀ (pc : Nat) (ai : zI), zT 76 pc = some ai → zokI 76 pc ai = true := by
  intro pc ai e
  rcases Nat.lt_or_ge pc 40 with h | h
  · exact zok_R zo_76 (Nat.zero_le _) (by omega) e
  · exact absurd (e.symm.trans (show tX7_steps pc = none from zok_cut h)) (by intro q; cases q)
theorem zo_77 : zokR 77 0 47 = true := by decide +kernel
theorem zp_77 : ∀ (pc : Nat) (ai : zI), zT 77 pc = some ai → zokI 77 pc ai = true := by
  intro pc ai e
  rcases Nat.lt_or_ge pc 47 with h | h
  · exact zok_R zo_77 (Nat.zero_le _) (by omega) e
  · exact absurd (e.symm.trans (show tX7_inside pc = none from zok_cut h)) (by intro q; cases q)
theorem zo_78 : zokR 78 0 37 = true := by decide +kernel
theorem zp_78 : ∀ (pc : Nat) (ai : zI), zT 78 pc = some ai → zokI 78 pc ai = true := by
  intro pc ai e
  rcases Nat.lt_or_ge pc 37 with h | h
  · exact zok_R zo_78 (Nat.zero_le _) (by omega) e
  · exact absurd (e.symm.trans (show tX7_closure pc = none from zok_cut h)) (by intro q; cases q)
theorem zo_79 : zokR 79 0 37 = true := by decide +kernel
theorem zp_79 : ∀ (pc : Nat) (ai : zI), zT 79 pc = some ai → zokI 79 pc ai = true := by
  intro pc ai e
  rcases Nat.lt_or_ge pc 37 with h | h
  · exact zok_R zo_79 (Nat.zero_le _) (by omega) e
  · exact absurd (e.symm.trans (show tX7_openSets pc = none from zok_cut h)) (by intro q; cases q)
theorem zo_80 : zokR 80 0 50 = true := by decide +kernel
theorem zp_80 : ∀ (pc : Nat) (ai : zI), zT 80 pc = some ai → zokI 80 pc ai = true := by
  intro pc ai e
  rcases Nat.lt_or_ge pc 50 with h | h
  · exact zok_R zo_80 (Nat.zero_le _) (by omega) e
  · exact absurd (e.symm.trans (show tX7_firsts pc = none from zok_cut h)) (by intro q; cases q)
theorem zo_81 : zokR 81 0 17 = true := by decide +kernel
theorem zp_81 : ∀ (pc : Nat) (ai : zI), zT 81 pc = some ai → zokI 81 pc ai = true := by
  intro pc ai e
  rcases Nat.lt_or_ge pc 17 with h | h
  · exact zok_R zo_81 (Nat.zero_le _) (by omega) e
  · exact absurd (e.symm.trans (show tX7_isPlain pc = none from zok_cut h)) (by intro q; cases q)
theorem zo_82 : zokR 82 0 53 = true := by decide +kernel
theorem zp_82 : ∀ (pc : Nat) (ai : zI), zT 82 pc = some ai → zokI 82 pc ai = true := by
  intro pc ai e
  rcases Nat.lt_or_ge pc 53 with h | h
  · exact zok_R zo_82 (Nat.zero_le _) (by omega) e
  · exact absurd (e.symm.trans (show tX7_squeeze pc = none from zok_cut h)) (by intro q; cases q)
theorem zo_83 : zokR 83 0 78 = true := by decide +kernel
theorem zp_83 : ∀ (pc : Nat) (ai : zI), zT 83 pc = some ai → zokI 83 pc ai = true := by
  intro pc ai e
  rcases Nat.lt_or_ge pc 78 with h | h
  · exact zok_R zo_83 (Nat.zero_le _) (by omega) e
  · exact absurd (e.symm.trans (show tX7_becomePart pc = none from zok_cut h)) (by intro q; cases q)
theorem zo_84 : zokR 84 0 49 = true := by decide +kernel
theorem zp_84 : ∀ (pc : Nat) (ai : zI), zT 84 pc = some ai → zokI 84 pc ai = true := by
  intro pc ai e
  rcases Nat.lt_or_ge pc 49 with h | h
  · exact zok_R zo_84 (Nat.zero_le _) (by omega) e
  · exact absurd (e.symm.trans (show tX7_becomeTurned pc = none from zok_cut h)) (by intro q; cases q)
theorem zo_85 : zokR 85 0 105 = true := by decide +kernel
theorem zp_85 : ∀ (pc : Nat) (ai : zI), zT 85 pc = some ai → zokI 85 pc ai = true := by
  intro pc ai e
  rcases Nat.lt_or_ge pc 105 with h | h
  · exact zok_R zo_85 (Nat.zero_le _) (by omega) e
  · exact absurd (e.symm.trans (show tX7_becomeSum pc = none from zok_cut h)) (by intro q; cases q)
theorem zo_86 : zokR 86 0 127 = true := by decide +kernel
theorem zp_86 : ∀ (pc : Nat) (ai : zI), zT 86 pc = some ai → zokI 86 pc ai = true := by
  intro pc ai e
  rcases Nat.lt_or_ge pc 127 with h | h
  · exact zok_R zo_86 (Nat.zero_le _) (by omega) e
  · exact absurd (e.symm.trans (show tX7_becomeProduct pc = none from zok_cut h)) (by intro q; cases q)
theorem zo_87 : zokR 87 0 62 = true := by decide +kernel
theorem zp_87 : ∀ (pc : Nat) (ai : zI), zT 87 pc = some ai → zokI 87 pc ai = true := by
  intro pc ai e
  rcases Nat.lt_or_ge pc 62 with h | h
  · exact zok_R zo_87 (Nat.zero_le _) (by omega) e
  · exact absurd (e.symm.trans (show tX7_becomeTopped pc = none from zok_cut h)) (by intro q; cases q)
theorem zo_88 : zokR 88 0 109 = true := by decide +kernel
theorem zp_88 : ∀ (pc : Nat) (ai : zI), zT 88 pc = some ai → zokI 88 pc ai = true := by
  intro pc ai e
  rcases Nat.lt_or_ge pc 109 with h | h
  · exact zok_R zo_88 (Nat.zero_le _) (by omega) e
  · exact absurd (e.symm.trans (show tX7_becomeCoded pc = none from zok_cut h)) (by intro q; cases q)
theorem zo_89 : zokR 89 0 67 = true := by decide +kernel
theorem zp_89 : ∀ (pc : Nat) (ai : zI), zT 89 pc = some ai → zokI 89 pc ai = true := by
  intro pc ai e
  rcases Nat.lt_or_ge pc 67 with h | h
  · exact zok_R zo_89 (Nat.zero_le _) (by omega) e
  · exact absurd (e.symm.trans (show tX7_isNested pc = none from zok_cut h)) (by intro q; cases q)
theorem zo_90 : zokR 90 0 23 = true := by decide +kernel
theorem zp_90 : ∀ (pc : Nat) (ai : zI), zT 90 pc = some ai → zokI 90 pc ai = true := by
  intro pc ai e
  rcases Nat.lt_or_ge pc 23 with h | h
  · exact zok_R zo_90 (Nat.zero_le _) (by omega) e
  · exact absurd (e.symm.trans (show tX8_init pc = none from zok_cut h)) (by intro q; cases q)
theorem zo_91 : zokR 91 0 58 = true := by decide +kernel
theorem zp_91 : ∀ (pc : Nat) (ai : zI), zT 91 pc = some ai → zokI 91 pc ai = true := by
  intro pc ai e
  rcases Nat.lt_or_ge pc 58 with h | h
  · exact zok_R zo_91 (Nat.zero_le _) (by omega) e
  · exact absurd (e.symm.trans (show tX8_append pc = none from zok_cut h)) (by intro q; cases q)
theorem zo_92 : zokR 92 0 67 = true := by decide +kernel
theorem zp_92 : ∀ (pc : Nat) (ai : zI), zT 92 pc = some ai → zokI 92 pc ai = true := by
  intro pc ai e
  rcases Nat.lt_or_ge pc 67 with h | h
  · exact zok_R zo_92 (Nat.zero_le _) (by omega) e
  · exact absurd (e.symm.trans (show tX8_next pc = none from zok_cut h)) (by intro q; cases q)
theorem zo_93 : zokR 93 0 22 = true := by decide +kernel
theorem zp_93 : ∀ (pc : Nat) (ai : zI), zT 93 pc = some ai → zokI 93 pc ai = true := by
  intro pc ai e
  rcases Nat.lt_or_ge pc 22 with h | h
  · exact zok_R zo_93 (Nat.zero_le _) (by omega) e
  · exact absurd (e.symm.trans (show tX8_isNext pc = none from zok_cut h)) (by intro q; cases q)
theorem zo_94 : zokR 94 0 36 = true := by decide +kernel
theorem zp_94 : ∀ (pc : Nat) (ai : zI), zT 94 pc = some ai → zokI 94 pc ai = true := by
  intro pc ai e
  rcases Nat.lt_or_ge pc 36 with h | h
  · exact zok_R zo_94 (Nat.zero_le _) (by omega) e
  · exact absurd (e.symm.trans (show tX8_digitBelow pc = none from zok_cut h)) (by intro q; cases q)
theorem zo_95 : zokR 95 0 66 = true := by decide +kernel
theorem zp_95 : ∀ (pc : Nat) (ai : zI), zT 95 pc = some ai → zokI 95 pc ai = true := by
  intro pc ai e
  rcases Nat.lt_or_ge pc 66 with h | h
  · exact zok_R zo_95 (Nat.zero_le _) (by omega) e
  · exact absurd (e.symm.trans (show tX8_read pc = none from zok_cut h)) (by intro q; cases q)
theorem zo_96 : zokR 96 0 110 = true := by decide +kernel
theorem zp_96 : ∀ (pc : Nat) (ai : zI), zT 96 pc = some ai → zokI 96 pc ai = true := by
  intro pc ai e
  rcases Nat.lt_or_ge pc 110 with h | h
  · exact zok_R zo_96 (Nat.zero_le _) (by omega) e
  · exact absurd (e.symm.trans (show tX8_readPairs pc = none from zok_cut h)) (by intro q; cases q)
theorem zo_97 : zokR 97 0 235 = true := by decide +kernel
theorem zp_97 : ∀ (pc : Nat) (ai : zI), zT 97 pc = some ai → zokI 97 pc ai = true := by
  intro pc ai e
  rcases Nat.lt_or_ge pc 235 with h | h
  · exact zok_R zo_97 (Nat.zero_le _) (by omega) e
  · exact absurd (e.symm.trans (show tX9_init pc = none from zok_cut h)) (by intro q; cases q)
theorem zo_98 : zokR 98 0 38 = true := by decide +kernel
theorem zp_98 : ∀ (pc : Nat) (ai : zI), zT 98 pc = some ai → zokI 98 pc ai = true := by
  intro pc ai e
  rcases Nat.lt_or_ge pc 38 with h | h
  · exact zok_R zo_98 (Nat.zero_le _) (by omega) e
  · exact absurd (e.symm.trans (show tX9_points pc = none from zok_cut h)) (by intro q; cases q)
theorem zo_99 : zokR 99 0 47 = true := by decide +kernel
theorem zp_99 : ∀ (pc : Nat) (ai : zI), zT 99 pc = some ai → zokI 99 pc ai = true := by
  intro pc ai e
  rcases Nat.lt_or_ge pc 47 with h | h
  · exact zok_R zo_99 (Nat.zero_le _) (by omega) e
  · exact absurd (e.symm.trans (show tX9_nest pc = none from zok_cut h)) (by intro q; cases q)
theorem zo_100 : zokR 100 0 134 = true := by decide +kernel
theorem zp_100 : ∀ (pc : Nat) (ai : zI), zT 100 pc = some ai → zokI 100 pc ai = true := by
  intro pc ai e
  rcases Nat.lt_or_ge pc 134 with h | h
  · exact zok_R zo_100 (Nat.zero_le _) (by omega) e
  · exact absurd (e.symm.trans (show tX9_of pc = none from zok_cut h)) (by intro q; cases q)
theorem zo_101 : zokR 101 0 137 = true := by decide +kernel
theorem zp_101 : ∀ (pc : Nat) (ai : zI), zT 101 pc = some ai → zokI 101 pc ai = true := by
  intro pc ai e
  rcases Nat.lt_or_ge pc 137 with h | h
  · exact zok_R zo_101 (Nat.zero_le _) (by omega) e
  · exact absurd (e.symm.trans (show tX9_about pc = none from zok_cut h)) (by intro q; cases q)
theorem zo_102 : zokR 102 0 117 = true := by decide +kernel
theorem zp_102 : ∀ (pc : Nat) (ai : zI), zT 102 pc = some ai → zokI 102 pc ai = true := by
  intro pc ai e
  rcases Nat.lt_or_ge pc 117 with h | h
  · exact zok_R zo_102 (Nat.zero_le _) (by omega) e
  · exact absurd (e.symm.trans (show tX9_told pc = none from zok_cut h)) (by intro q; cases q)
theorem zo_103 : zokR 103 0 47 = true := by decide +kernel
theorem zp_103 : ∀ (pc : Nat) (ai : zI), zT 103 pc = some ai → zokI 103 pc ai = true := by
  intro pc ai e
  rcases Nat.lt_or_ge pc 47 with h | h
  · exact zok_R zo_103 (Nat.zero_le _) (by omega) e
  · exact absurd (e.symm.trans (show tX9_path pc = none from zok_cut h)) (by intro q; cases q)
theorem zo_104 : zokR 104 0 52 = true := by decide +kernel
theorem zp_104 : ∀ (pc : Nat) (ai : zI), zT 104 pc = some ai → zokI 104 pc ai = true := by
  intro pc ai e
  rcases Nat.lt_or_ge pc 52 with h | h
  · exact zok_R zo_104 (Nat.zero_le _) (by omega) e
  · exact absurd (e.symm.trans (show tX9_may pc = none from zok_cut h)) (by intro q; cases q)
theorem zo_105 : zokR 105 0 61 = true := by decide +kernel
theorem zp_105 : ∀ (pc : Nat) (ai : zI), zT 105 pc = some ai → zokI 105 pc ai = true := by
  intro pc ai e
  rcases Nat.lt_or_ge pc 61 with h | h
  · exact zok_R zo_105 (Nat.zero_le _) (by omega) e
  · exact absurd (e.symm.trans (show tX9_price pc = none from zok_cut h)) (by intro q; cases q)
theorem zo_106 : zokR 106 0 39 = true := by decide +kernel
theorem zp_106 : ∀ (pc : Nat) (ai : zI), zT 106 pc = some ai → zokI 106 pc ai = true := by
  intro pc ai e
  rcases Nat.lt_or_ge pc 39 with h | h
  · exact zok_R zo_106 (Nat.zero_le _) (by omega) e
  · exact absurd (e.symm.trans (show tX9_left pc = none from zok_cut h)) (by intro q; cases q)
theorem zo_107 : zokR 107 0 66 = true := by decide +kernel
theorem zp_107 : ∀ (pc : Nat) (ai : zI), zT 107 pc = some ai → zokI 107 pc ai = true := by
  intro pc ai e
  rcases Nat.lt_or_ge pc 66 with h | h
  · exact zok_R zo_107 (Nat.zero_le _) (by omega) e
  · exact absurd (e.symm.trans (show tX9_reduce pc = none from zok_cut h)) (by intro q; cases q)
theorem zo_108 : zokR 108 0 106 = true := by decide +kernel
theorem zp_108 : ∀ (pc : Nat) (ai : zI), zT 108 pc = some ai → zokI 108 pc ai = true := by
  intro pc ai e
  rcases Nat.lt_or_ge pc 106 with h | h
  · exact zok_R zo_108 (Nat.zero_le _) (by omega) e
  · exact absurd (e.symm.trans (show tX9_ways pc = none from zok_cut h)) (by intro q; cases q)
theorem zo_109 : zokR 109 0 30 = true := by decide +kernel
theorem zp_109 : ∀ (pc : Nat) (ai : zI), zT 109 pc = some ai → zokI 109 pc ai = true := by
  intro pc ai e
  rcases Nat.lt_or_ge pc 30 with h | h
  · exact zok_R zo_109 (Nat.zero_le _) (by omega) e
  · exact absurd (e.symm.trans (show tX9_retract pc = none from zok_cut h)) (by intro q; cases q)
theorem zo_110 : zokR 110 0 80 = true := by decide +kernel
theorem zp_110 : ∀ (pc : Nat) (ai : zI), zT 110 pc = some ai → zokI 110 pc ai = true := by
  intro pc ai e
  rcases Nat.lt_or_ge pc 80 with h | h
  · exact zok_R zo_110 (Nat.zero_le _) (by omega) e
  · exact absurd (e.symm.trans (show tX9_homotopic pc = none from zok_cut h)) (by intro q; cases q)
theorem zo_111 : zokR 111 0 103 = true := by decide +kernel
theorem zp_111 : ∀ (pc : Nat) (ai : zI), zT 111 pc = some ai → zokI 111 pc ai = true := by
  intro pc ai e
  rcases Nat.lt_or_ge pc 103 with h | h
  · exact zok_R zo_111 (Nat.zero_le _) (by omega) e
  · exact absurd (e.symm.trans (show tX9_same pc = none from zok_cut h)) (by intro q; cases q)
theorem zo_112 : zokR 112 0 36 = true := by decide +kernel
theorem zp_112 : ∀ (pc : Nat) (ai : zI), zT 112 pc = some ai → zokI 112 pc ai = true := by
  intro pc ai e
  rcases Nat.lt_or_ge pc 36 with h | h
  · exact zok_R zo_112 (Nat.zero_le _) (by omega) e
  · exact absurd (e.symm.trans (show tX9_form pc = none from zok_cut h)) (by intro q; cases q)
theorem zo_113 : zokR 113 0 50 = true := by decide +kernel
theorem zp_113 : ∀ (pc : Nat) (ai : zI), zT 113 pc = some ai → zokI 113 pc ai = true := by
  intro pc ai e
  rcases Nat.lt_or_ge pc 50 with h | h
  · exact zok_R zo_113 (Nat.zero_le _) (by omega) e
  · exact absurd (e.symm.trans (show tX9_byCode pc = none from zok_cut h)) (by intro q; cases q)
theorem zo_114 : zokR 114 0 93 = true := by decide +kernel
theorem zp_114 : ∀ (pc : Nat) (ai : zI), zT 114 pc = some ai → zokI 114 pc ai = true := by
  intro pc ai e
  rcases Nat.lt_or_ge pc 93 with h | h
  · exact zok_R zo_114 (Nat.zero_le _) (by omega) e
  · exact absurd (e.symm.trans (show tX9_list pc = none from zok_cut h)) (by intro q; cases q)
theorem zo_115 : zokR 115 0 96 = true := by decide +kernel
theorem zp_115 : ∀ (pc : Nat) (ai : zI), zT 115 pc = some ai → zokI 115 pc ai = true := by
  intro pc ai e
  rcases Nat.lt_or_ge pc 96 with h | h
  · exact zok_R zo_115 (Nat.zero_le _) (by omega) e
  · exact absurd (e.symm.trans (show tX9_listed pc = none from zok_cut h)) (by intro q; cases q)
theorem zo_116 : zokR 116 0 52 = true := by decide +kernel
theorem zp_116 : ∀ (pc : Nat) (ai : zI), zT 116 pc = some ai → zokI 116 pc ai = true := by
  intro pc ai e
  rcases Nat.lt_or_ge pc 52 with h | h
  · exact zok_R zo_116 (Nat.zero_le _) (by omega) e
  · exact absurd (e.symm.trans (show tX9_tears pc = none from zok_cut h)) (by intro q; cases q)
theorem zo_117 : zokR 117 0 49 = true := by decide +kernel
theorem zp_117 : ∀ (pc : Nat) (ai : zI), zT 117 pc = some ai → zokI 117 pc ai = true := by
  intro pc ai e
  rcases Nat.lt_or_ge pc 49 with h | h
  · exact zok_R zo_117 (Nat.zero_le _) (by omega) e
  · exact absurd (e.symm.trans (show tX9_maps pc = none from zok_cut h)) (by intro q; cases q)
theorem zo_118 : zokR 118 0 85 = true := by decide +kernel
theorem zp_118 : ∀ (pc : Nat) (ai : zI), zT 118 pc = some ai → zokI 118 pc ai = true := by
  intro pc ai e
  rcases Nat.lt_or_ge pc 85 with h | h
  · exact zok_R zo_118 (Nat.zero_le _) (by omega) e
  · exact absurd (e.symm.trans (show tX9_fence pc = none from zok_cut h)) (by intro q; cases q)
theorem zo_119 : zokR 119 0 73 = true := by decide +kernel
theorem zp_119 : ∀ (pc : Nat) (ai : zI), zT 119 pc = some ai → zokI 119 pc ai = true := by
  intro pc ai e
  rcases Nat.lt_or_ge pc 73 with h | h
  · exact zok_R zo_119 (Nat.zero_le _) (by omega) e
  · exact absurd (e.symm.trans (show tX9_fixed pc = none from zok_cut h)) (by intro q; cases q)
theorem zo_120 : zokR 120 0 42 = true := by decide +kernel
theorem zp_120 : ∀ (pc : Nat) (ai : zI), zT 120 pc = some ai → zokI 120 pc ai = true := by
  intro pc ai e
  rcases Nat.lt_or_ge pc 42 with h | h
  · exact zok_R zo_120 (Nat.zero_le _) (by omega) e
  · exact absurd (e.symm.trans (show tX9_chains pc = none from zok_cut h)) (by intro q; cases q)
theorem zo_121 : zokR 121 0 72 = true := by decide +kernel
theorem zp_121 : ∀ (pc : Nat) (ai : zI), zT 121 pc = some ai → zokI 121 pc ai = true := by
  intro pc ai e
  rcases Nat.lt_or_ge pc 72 with h | h
  · exact zok_R zo_121 (Nat.zero_le _) (by omega) e
  · exact absurd (e.symm.trans (show tX9_euler pc = none from zok_cut h)) (by intro q; cases q)
theorem zo_122 : zokR 122 0 77 = true := by decide +kernel
theorem zp_122 : ∀ (pc : Nat) (ai : zI), zT 122 pc = some ai → zokI 122 pc ai = true := by
  intro pc ai e
  rcases Nat.lt_or_ge pc 77 with h | h
  · exact zok_R zo_122 (Nat.zero_le _) (by omega) e
  · exact absurd (e.symm.trans (show tX9_holes pc = none from zok_cut h)) (by intro q; cases q)
theorem zo_123 : zokR 123 0 35 = true := by decide +kernel
theorem zp_123 : ∀ (pc : Nat) (ai : zI), zT 123 pc = some ai → zokI 123 pc ai = true := by
  intro pc ai e
  rcases Nat.lt_or_ge pc 35 with h | h
  · exact zok_R zo_123 (Nat.zero_le _) (by omega) e
  · exact absurd (e.symm.trans (show tX9_divide pc = none from zok_cut h)) (by intro q; cases q)
theorem zo_124 : zokR 124 0 96 = true := by decide +kernel
theorem zp_124 : ∀ (pc : Nat) (ai : zI), zT 124 pc = some ai → zokI 124 pc ai = true := by
  intro pc ai e
  rcases Nat.lt_or_ge pc 96 with h | h
  · exact zok_R zo_124 (Nat.zero_le _) (by omega) e
  · exact absurd (e.symm.trans (show tX9_faces pc = none from zok_cut h)) (by intro q; cases q)
theorem zo_125 : zokR 125 0 122 = true := by decide +kernel
theorem zp_125 : ∀ (pc : Nat) (ai : zI), zT 125 pc = some ai → zokI 125 pc ai = true := by
  intro pc ai e
  rcases Nat.lt_or_ge pc 122 with h | h
  · exact zok_R zo_125 (Nat.zero_le _) (by omega) e
  · exact absurd (e.symm.trans (show tX9_made pc = none from zok_cut h)) (by intro q; cases q)
theorem zo_126 : zokR 126 0 49 = true := by decide +kernel
theorem zp_126 : ∀ (pc : Nat) (ai : zI), zT 126 pc = some ai → zokI 126 pc ai = true := by
  intro pc ai e
  rcases Nat.lt_or_ge pc 49 with h | h
  · exact zok_R zo_126 (Nat.zero_le _) (by omega) e
  · exact absurd (e.symm.trans (show tX9_part pc = none from zok_cut h)) (by intro q; cases q)
theorem zo_127 : zokR 127 0 38 = true := by decide +kernel
theorem zp_127 : ∀ (pc : Nat) (ai : zI), zT 127 pc = some ai → zokI 127 pc ai = true := by
  intro pc ai e
  rcases Nat.lt_or_ge pc 38 with h | h
  · exact zok_R zo_127 (Nat.zero_le _) (by omega) e
  · exact absurd (e.symm.trans (show tX9_feed pc = none from zok_cut h)) (by intro q; cases q)
theorem zo_128 : zokR 128 0 52 = true := by decide +kernel
theorem zp_128 : ∀ (pc : Nat) (ai : zI), zT 128 pc = some ai → zokI 128 pc ai = true := by
  intro pc ai e
  rcases Nat.lt_or_ge pc 52 with h | h
  · exact zok_R zo_128 (Nat.zero_le _) (by omega) e
  · exact absurd (e.symm.trans (show tX9_space pc = none from zok_cut h)) (by intro q; cases q)
theorem zo_129 : zokR 129 0 12 = true := by decide +kernel
theorem zp_129 : ∀ (pc : Nat) (ai : zI), zT 129 pc = some ai → zokI 129 pc ai = true := by
  intro pc ai e
  rcases Nat.lt_or_ge pc 12 with h | h
  · exact zok_R zo_129 (Nat.zero_le _) (by omega) e
  · exact absurd (e.symm.trans (show tX9_seed pc = none from zok_cut h)) (by intro q; cases q)
theorem zo_130 : zokR 130 0 104 = true := by decide +kernel
theorem zp_130 : ∀ (pc : Nat) (ai : zI), zT 130 pc = some ai → zokI 130 pc ai = true := by
  intro pc ai e
  rcases Nat.lt_or_ge pc 104 with h | h
  · exact zok_R zo_130 (Nat.zero_le _) (by omega) e
  · exact absurd (e.symm.trans (show tX9_draw pc = none from zok_cut h)) (by intro q; cases q)
theorem zo_131 : zokR 131 0 64 = true := by decide +kernel
theorem zp_131 : ∀ (pc : Nat) (ai : zI), zT 131 pc = some ai → zokI 131 pc ai = true := by
  intro pc ai e
  rcases Nat.lt_or_ge pc 64 with h | h
  · exact zok_R zo_131 (Nat.zero_le _) (by omega) e
  · exact absurd (e.symm.trans (show tX9_sheet pc = none from zok_cut h)) (by intro q; cases q)
theorem zo_132 : zokR 132 0 51 = true := by decide +kernel
theorem zp_132 : ∀ (pc : Nat) (ai : zI), zT 132 pc = some ai → zokI 132 pc ai = true := by
  intro pc ai e
  rcases Nat.lt_or_ge pc 51 with h | h
  · exact zok_R zo_132 (Nat.zero_le _) (by omega) e
  · exact absurd (e.symm.trans (show tX9_put pc = none from zok_cut h)) (by intro q; cases q)
theorem zo_133 : zokR 133 0 71 = true := by decide +kernel
theorem zp_133 : ∀ (pc : Nat) (ai : zI), zT 133 pc = some ai → zokI 133 pc ai = true := by
  intro pc ai e
  rcases Nat.lt_or_ge pc 71 with h | h
  · exact zok_R zo_133 (Nat.zero_le _) (by omega) e
  · exact absurd (e.symm.trans (show tX9_item pc = none from zok_cut h)) (by intro q; cases q)
theorem zo_134 : zokR 134 0 116 = true := by decide +kernel
theorem zp_134 : ∀ (pc : Nat) (ai : zI), zT 134 pc = some ai → zokI 134 pc ai = true := by
  intro pc ai e
  rcases Nat.lt_or_ge pc 116 with h | h
  · exact zok_R zo_134 (Nat.zero_le _) (by omega) e
  · exact absurd (e.symm.trans (show tX9_copy pc = none from zok_cut h)) (by intro q; cases q)
theorem zo_135 : zokR 135 0 95 = true := by decide +kernel
theorem zp_135 : ∀ (pc : Nat) (ai : zI), zT 135 pc = some ai → zokI 135 pc ai = true := by
  intro pc ai e
  rcases Nat.lt_or_ge pc 95 with h | h
  · exact zok_R zo_135 (Nat.zero_le _) (by omega) e
  · exact absurd (e.symm.trans (show tX9_lay pc = none from zok_cut h)) (by intro q; cases q)
theorem zo_136 : zokR 136 0 128 = true := by decide +kernel
theorem zp_136 : ∀ (pc : Nat) (ai : zI), zT 136 pc = some ai → zokI 136 pc ai = true := by
  intro pc ai e
  rcases Nat.lt_or_ge pc 128 with h | h
  · exact zok_R zo_136 (Nat.zero_le _) (by omega) e
  · exact absurd (e.symm.trans (show tX9_take pc = none from zok_cut h)) (by intro q; cases q)
theorem zo_137 : zokR 137 0 121 = true := by decide +kernel
theorem zp_137 : ∀ (pc : Nat) (ai : zI), zT 137 pc = some ai → zokI 137 pc ai = true := by
  intro pc ai e
  rcases Nat.lt_or_ge pc 121 with h | h
  · exact zok_R zo_137 (Nat.zero_le _) (by omega) e
  · exact absurd (e.symm.trans (show tX9_shelf pc = none from zok_cut h)) (by intro q; cases q)
theorem zo_138 : zokR 138 0 101 = true := by decide +kernel
theorem zp_138 : ∀ (pc : Nat) (ai : zI), zT 138 pc = some ai → zokI 138 pc ai = true := by
  intro pc ai e
  rcases Nat.lt_or_ge pc 101 with h | h
  · exact zok_R zo_138 (Nat.zero_le _) (by omega) e
  · exact absurd (e.symm.trans (show tX9_taken pc = none from zok_cut h)) (by intro q; cases q)
theorem zo_139 : zokR 139 0 44 = true := by decide +kernel
theorem zp_139 : ∀ (pc : Nat) (ai : zI), zT 139 pc = some ai → zokI 139 pc ai = true := by
  intro pc ai e
  rcases Nat.lt_or_ge pc 44 with h | h
  · exact zok_R zo_139 (Nat.zero_le _) (by omega) e
  · exact absurd (e.symm.trans (show tX9_act pc = none from zok_cut h)) (by intro q; cases q)
theorem zo_140 : zokR 140 0 36 = true := by decide +kernel
theorem zp_140 : ∀ (pc : Nat) (ai : zI), zT 140 pc = some ai → zokI 140 pc ai = true := by
  intro pc ai e
  rcases Nat.lt_or_ge pc 36 with h | h
  · exact zok_R zo_140 (Nat.zero_le _) (by omega) e
  · exact absurd (e.symm.trans (show tX9_trace pc = none from zok_cut h)) (by intro q; cases q)
theorem zo_141 : zokR 141 0 69 = true := by decide +kernel
theorem zp_141 : ∀ (pc : Nat) (ai : zI), zT 141 pc = some ai → zokI 141 pc ai = true := by
  intro pc ai e
  rcases Nat.lt_or_ge pc 69 with h | h
  · exact zok_R zo_141 (Nat.zero_le _) (by omega) e
  · exact absurd (e.symm.trans (show tX9_many pc = none from zok_cut h)) (by intro q; cases q)
theorem zo_142 : zokR 142 0 44 = true := by decide +kernel
theorem zp_142 : ∀ (pc : Nat) (ai : zI), zT 142 pc = some ai → zokI 142 pc ai = true := by
  intro pc ai e
  rcases Nat.lt_or_ge pc 44 with h | h
  · exact zok_R zo_142 (Nat.zero_le _) (by omega) e
  · exact absurd (e.symm.trans (show tX9_keep pc = none from zok_cut h)) (by intro q; cases q)
theorem zo_143 : zokR 143 0 52 = true := by decide +kernel
theorem zp_143 : ∀ (pc : Nat) (ai : zI), zT 143 pc = some ai → zokI 143 pc ai = true := by
  intro pc ai e
  rcases Nat.lt_or_ge pc 52 with h | h
  · exact zok_R zo_143 (Nat.zero_le _) (by omega) e
  · exact absurd (e.symm.trans (show tX9_again pc = none from zok_cut h)) (by intro q; cases q)
theorem zo_144 : zokR 144 0 16 = true := by decide +kernel
theorem zp_144 : ∀ (pc : Nat) (ai : zI), zT 144 pc = some ai → zokI 144 pc ai = true := by
  intro pc ai e
  rcases Nat.lt_or_ge pc 16 with h | h
  · exact zok_R zo_144 (Nat.zero_le _) (by omega) e
  · exact absurd (e.symm.trans (show tX9_isSpace pc = none from zok_cut h)) (by intro q; cases q)
theorem zo_145 : zokR 145 0 16 = true := by decide +kernel
theorem zp_145 : ∀ (pc : Nat) (ai : zI), zT 145 pc = some ai → zokI 145 pc ai = true := by
  intro pc ai e
  rcases Nat.lt_or_ge pc 16 with h | h
  · exact zok_R zo_145 (Nat.zero_le _) (by omega) e
  · exact absurd (e.symm.trans (show tX9_isSize pc = none from zok_cut h)) (by intro q; cases q)
theorem zo_146 : zokR 146 0 16 = true := by decide +kernel
theorem zp_146 : ∀ (pc : Nat) (ai : zI), zT 146 pc = some ai → zokI 146 pc ai = true := by
  intro pc ai e
  rcases Nat.lt_or_ge pc 16 with h | h
  · exact zok_R zo_146 (Nat.zero_le _) (by omega) e
  · exact absurd (e.symm.trans (show tX9_isKind pc = none from zok_cut h)) (by intro q; cases q)
theorem zo_147 : zokR 147 0 15 = true := by decide +kernel
theorem zp_147 : ∀ (pc : Nat) (ai : zI), zT 147 pc = some ai → zokI 147 pc ai = true := by
  intro pc ai e
  rcases Nat.lt_or_ge pc 15 with h | h
  · exact zok_R zo_147 (Nat.zero_le _) (by omega) e
  · exact absurd (e.symm.trans (show tX9_isOrder pc = none from zok_cut h)) (by intro q; cases q)
theorem zo_148 : zokR 148 0 15 = true := by decide +kernel
theorem zp_148 : ∀ (pc : Nat) (ai : zI), zT 148 pc = some ai → zokI 148 pc ai = true := by
  intro pc ai e
  rcases Nat.lt_or_ge pc 15 with h | h
  · exact zok_R zo_148 (Nat.zero_le _) (by omega) e
  · exact absurd (e.symm.trans (show tX9_isSheet pc = none from zok_cut h)) (by intro q; cases q)
