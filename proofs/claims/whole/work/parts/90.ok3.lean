theorem zo_149 : zokR 149 0 15 = true := by decide +kernel
theorem zp_149 : ∀ (pc : Nat) (ai : zI), zT 149 pc = some ai → zokI 149 pc ai = true := by
  intro pc ai e
  rcases Nat.lt_or_ge pc 15 with h | h
  · exact zok_R zo_149 (Nat.zero_le _) (by omega) e
  · exact absurd (e.symm.trans (show tX9_isShelf pc = none from zok_cut h)) (by intro q; cases q)
theorem zo_150 : zokR 150 0 14 = true := by decide +kernel
theorem zp_150 : ∀ (pc : Nat) (ai : zI), zT 150 pc = some ai → zokI 150 pc ai = true := by
  intro pc ai e
  rcases Nat.lt_or_ge pc 14 with h | h
  · exact zok_R zo_150 (Nat.zero_le _) (by omega) e
  · exact absurd (e.symm.trans (show tX9_has pc = none from zok_cut h)) (by intro q; cases q)
theorem zo_151 : zokR 151 0 9 = true := by decide +kernel
theorem zp_151 : ∀ (pc : Nat) (ai : zI), zT 151 pc = some ai → zokI 151 pc ai = true := by
  intro pc ai e
  rcases Nat.lt_or_ge pc 9 with h | h
  · exact zok_R zo_151 (Nat.zero_le _) (by omega) e
  · exact absurd (e.symm.trans (show tX9_digit pc = none from zok_cut h)) (by intro q; cases q)
theorem zo_152 : zokR 152 0 49 = true := by decide +kernel
theorem zp_152 : ∀ (pc : Nat) (ai : zI), zT 152 pc = some ai → zokI 152 pc ai = true := by
  intro pc ai e
  rcases Nat.lt_or_ge pc 49 with h | h
  · exact zok_R zo_152 (Nat.zero_le _) (by omega) e
  · exact absurd (e.symm.trans (show tX9_isMap pc = none from zok_cut h)) (by intro q; cases q)
theorem zo_153 : zokR 153 0 82 = true := by decide +kernel
theorem zp_153 : ∀ (pc : Nat) (ai : zI), zT 153 pc = some ai → zokI 153 pc ai = true := by
  intro pc ai e
  rcases Nat.lt_or_ge pc 82 with h | h
  · exact zok_R zo_153 (Nat.zero_le _) (by omega) e
  · exact absurd (e.symm.trans (show tX9_firstTear pc = none from zok_cut h)) (by intro q; cases q)
theorem zo_154 : zokR 154 0 24 = true := by decide +kernel
theorem zp_154 : ∀ (pc : Nat) (ai : zI), zT 154 pc = some ai → zokI 154 pc ai = true := by
  intro pc ai e
  rcases Nat.lt_or_ge pc 24 with h | h
  · exact zok_R zo_154 (Nat.zero_le _) (by omega) e
  · exact absurd (e.symm.trans (show tX9_isWhole pc = none from zok_cut h)) (by intro q; cases q)
theorem zo_155 : zokR 155 0 21 = true := by decide +kernel
theorem zp_155 : ∀ (pc : Nat) (ai : zI), zT 155 pc = some ai → zokI 155 pc ai = true := by
  intro pc ai e
  rcases Nat.lt_or_ge pc 21 with h | h
  · exact zok_R zo_155 (Nat.zero_le _) (by omega) e
  · exact absurd (e.symm.trans (show tX9_settle pc = none from zok_cut h)) (by intro q; cases q)
theorem zo_156 : zokR 156 0 32 = true := by decide +kernel
theorem zp_156 : ∀ (pc : Nat) (ai : zI), zT 156 pc = some ai → zokI 156 pc ai = true := by
  intro pc ai e
  rcases Nat.lt_or_ge pc 32 with h | h
  · exact zok_R zo_156 (Nat.zero_le _) (by omega) e
  · exact absurd (e.symm.trans (show tX9_settleSets pc = none from zok_cut h)) (by intro q; cases q)
theorem zo_157 : zokR 157 0 97 = true := by decide +kernel
theorem zp_157 : ∀ (pc : Nat) (ai : zI), zT 157 pc = some ai → zokI 157 pc ai = true := by
  intro pc ai e
  rcases Nat.lt_or_ge pc 97 with h | h
  · exact zok_R zo_157 (Nat.zero_le _) (by omega) e
  · exact absurd (e.symm.trans (show tX9_unlikeEnds pc = none from zok_cut h)) (by intro q; cases q)
theorem zo_158 : zokR 158 0 54 = true := by decide +kernel
theorem zp_158 : ∀ (pc : Nat) (ai : zI), zT 158 pc = some ai → zokI 158 pc ai = true := by
  intro pc ai e
  rcases Nat.lt_or_ge pc 54 with h | h
  · exact zok_R zo_158 (Nat.zero_le _) (by omega) e
  · exact absurd (e.symm.trans (show tX9_madeSize pc = none from zok_cut h)) (by intro q; cases q)
theorem zo_159 : zokR 159 0 112 = true := by decide +kernel
theorem zp_159 : ∀ (pc : Nat) (ai : zI), zT 159 pc = some ai → zokI 159 pc ai = true := by
  intro pc ai e
  rcases Nat.lt_or_ge pc 112 with h | h
  · exact zok_R zo_159 (Nat.zero_le _) (by omega) e
  · exact absurd (e.symm.trans (show tX9_make pc = none from zok_cut h)) (by intro q; cases q)
theorem zo_160 : zokR 160 0 38 = true := by decide +kernel
theorem zp_160 : ∀ (pc : Nat) (ai : zI), zT 160 pc = some ai → zokI 160 pc ai = true := by
  intro pc ai e
  rcases Nat.lt_or_ge pc 38 with h | h
  · exact zok_R zo_160 (Nat.zero_le _) (by omega) e
  · exact absurd (e.symm.trans (show tX9_setRowRefusal pc = none from zok_cut h)) (by intro q; cases q)
theorem zo_161 : zokR 161 0 24 = true := by decide +kernel
theorem zp_161 : ∀ (pc : Nat) (ai : zI), zT 161 pc = some ai → zokI 161 pc ai = true := by
  intro pc ai e
  rcases Nat.lt_or_ge pc 24 with h | h
  · exact zok_R zo_161 (Nat.zero_le _) (by omega) e
  · exact absurd (e.symm.trans (show tX9_drawn pc = none from zok_cut h)) (by intro q; cases q)
theorem zo_162 : zokR 162 0 38 = true := by decide +kernel
theorem zp_162 : ∀ (pc : Nat) (ai : zI), zT 162 pc = some ai → zokI 162 pc ai = true := by
  intro pc ai e
  rcases Nat.lt_or_ge pc 38 with h | h
  · exact zok_R zo_162 (Nat.zero_le _) (by omega) e
  · exact absurd (e.symm.trans (show tX9_pointedSpaces pc = none from zok_cut h)) (by intro q; cases q)
theorem zo_163 : zokR 163 0 30 = true := by decide +kernel
theorem zp_163 : ∀ (pc : Nat) (ai : zI), zT 163 pc = some ai → zokI 163 pc ai = true := by
  intro pc ai e
  rcases Nat.lt_or_ge pc 30 with h | h
  · exact zok_R zo_163 (Nat.zero_le _) (by omega) e
  · exact absurd (e.symm.trans (show tX9_allPoints pc = none from zok_cut h)) (by intro q; cases q)
theorem zo_164 : zokR 164 0 40 = true := by decide +kernel
theorem zp_164 : ∀ (pc : Nat) (ai : zI), zT 164 pc = some ai → zokI 164 pc ai = true := by
  intro pc ai e
  rcases Nat.lt_or_ge pc 40 with h | h
  · exact zok_R zo_164 (Nat.zero_le _) (by omega) e
  · exact absurd (e.symm.trans (show tX9_plainSpaces pc = none from zok_cut h)) (by intro q; cases q)
theorem zo_165 : zokR 165 0 227 = true := by decide +kernel
theorem zp_165 : ∀ (pc : Nat) (ai : zI), zT 165 pc = some ai → zokI 165 pc ai = true := by
  intro pc ai e
  rcases Nat.lt_or_ge pc 227 with h | h
  · exact zok_R zo_165 (Nat.zero_le _) (by omega) e
  · exact absurd (e.symm.trans (show tX10_init pc = none from zok_cut h)) (by intro q; cases q)
theorem zo_166 : zokR 166 0 16 = true := by decide +kernel
theorem zp_166 : ∀ (pc : Nat) (ai : zI), zT 166 pc = some ai → zokI 166 pc ai = true := by
  intro pc ai e
  rcases Nat.lt_or_ge pc 16 with h | h
  · exact zok_R zo_166 (Nat.zero_le _) (by omega) e
  · exact absurd (e.symm.trans (show tX10_in pc = none from zok_cut h)) (by intro q; cases q)
theorem zo_167 : zokR 167 0 15 = true := by decide +kernel
theorem zp_167 : ∀ (pc : Nat) (ai : zI), zT 167 pc = some ai → zokI 167 pc ai = true := by
  intro pc ai e
  rcases Nat.lt_or_ge pc 15 with h | h
  · exact zok_R zo_167 (Nat.zero_le _) (by omega) e
  · exact absurd (e.symm.trans (show tX10_has pc = none from zok_cut h)) (by intro q; cases q)
theorem zo_168 : zokR 168 0 22 = true := by decide +kernel
theorem zp_168 : ∀ (pc : Nat) (ai : zI), zT 168 pc = some ai → zokI 168 pc ai = true := by
  intro pc ai e
  rcases Nat.lt_or_ge pc 22 with h | h
  · exact zok_R zo_168 (Nat.zero_le _) (by omega) e
  · exact absurd (e.symm.trans (show tX10_size pc = none from zok_cut h)) (by intro q; cases q)
theorem zo_169 : zokR 169 0 18 = true := by decide +kernel
theorem zp_169 : ∀ (pc : Nat) (ai : zI), zT 169 pc = some ai → zokI 169 pc ai = true := by
  intro pc ai e
  rcases Nat.lt_or_ge pc 18 with h | h
  · exact zok_R zo_169 (Nat.zero_le _) (by omega) e
  · exact absurd (e.symm.trans (show tX10_least pc = none from zok_cut h)) (by intro q; cases q)
theorem zo_170 : zokR 170 0 7 = true := by decide +kernel
theorem zp_170 : ∀ (pc : Nat) (ai : zI), zT 170 pc = some ai → zokI 170 pc ai = true := by
  intro pc ai e
  rcases Nat.lt_or_ge pc 7 with h | h
  · exact zok_R zo_170 (Nat.zero_le _) (by omega) e
  · exact absurd (e.symm.trans (show tX10_isSpace pc = none from zok_cut h)) (by intro q; cases q)
theorem zo_171 : zokR 171 0 14 = true := by decide +kernel
theorem zp_171 : ∀ (pc : Nat) (ai : zI), zT 171 pc = some ai → zokI 171 pc ai = true := by
  intro pc ai e
  rcases Nat.lt_or_ge pc 14 with h | h
  · exact zok_R zo_171 (Nat.zero_le _) (by omega) e
  · exact absurd (e.symm.trans (show tX10_isPoint pc = none from zok_cut h)) (by intro q; cases q)
theorem zo_172 : zokR 172 0 11 = true := by decide +kernel
theorem zp_172 : ∀ (pc : Nat) (ai : zI), zT 172 pc = some ai → zokI 172 pc ai = true := by
  intro pc ai e
  rcases Nat.lt_or_ge pc 11 with h | h
  · exact zok_R zo_172 (Nat.zero_le _) (by omega) e
  · exact absurd (e.symm.trans (show tX10_all pc = none from zok_cut h)) (by intro q; cases q)
theorem zo_173 : zokR 173 0 11 = true := by decide +kernel
theorem zp_173 : ∀ (pc : Nat) (ai : zI), zT 173 pc = some ai → zokI 173 pc ai = true := by
  intro pc ai e
  rcases Nat.lt_or_ge pc 11 with h | h
  · exact zok_R zo_173 (Nat.zero_le _) (by omega) e
  · exact absurd (e.symm.trans (show tX10_isSet pc = none from zok_cut h)) (by intro q; cases q)
theorem zo_174 : zokR 174 0 7 = true := by decide +kernel
theorem zp_174 : ∀ (pc : Nat) (ai : zI), zT 174 pc = some ai → zokI 174 pc ai = true := by
  intro pc ai e
  rcases Nat.lt_or_ge pc 7 with h | h
  · exact zok_R zo_174 (Nat.zero_le _) (by omega) e
  · exact absurd (e.symm.trans (show tX10_isKind pc = none from zok_cut h)) (by intro q; cases q)
theorem zo_175 : zokR 175 0 83 = true := by decide +kernel
theorem zp_175 : ∀ (pc : Nat) (ai : zI), zT 175 pc = some ai → zokI 175 pc ai = true := by
  intro pc ai e
  rcases Nat.lt_or_ge pc 83 with h | h
  · exact zok_R zo_175 (Nat.zero_le _) (by omega) e
  · exact absurd (e.symm.trans (show tX10_turns pc = none from zok_cut h)) (by intro q; cases q)
theorem zo_176 : zokR 176 0 50 = true := by decide +kernel
theorem zp_176 : ∀ (pc : Nat) (ai : zI), zT 176 pc = some ai → zokI 176 pc ai = true := by
  intro pc ai e
  rcases Nat.lt_or_ge pc 50 with h | h
  · exact zok_R zo_176 (Nat.zero_le _) (by omega) e
  · exact absurd (e.symm.trans (show tX10_empties pc = none from zok_cut h)) (by intro q; cases q)
theorem zo_177 : zokR 177 0 71 = true := by decide +kernel
theorem zp_177 : ∀ (pc : Nat) (ai : zI), zT 177 pc = some ai → zokI 177 pc ai = true := by
  intro pc ai e
  rcases Nat.lt_or_ge pc 71 with h | h
  · exact zok_R zo_177 (Nat.zero_le _) (by omega) e
  · exact absurd (e.symm.trans (show tX10_copies pc = none from zok_cut h)) (by intro q; cases q)
theorem zo_178 : zokR 178 0 34 = true := by decide +kernel
theorem zp_178 : ∀ (pc : Nat) (ai : zI), zT 178 pc = some ai → zokI 178 pc ai = true := by
  intro pc ai e
  rcases Nat.lt_or_ge pc 34 with h | h
  · exact zok_R zo_178 (Nat.zero_le _) (by omega) e
  · exact absurd (e.symm.trans (show tX10_points pc = none from zok_cut h)) (by intro q; cases q)
theorem zo_179 : zokR 179 0 109 = true := by decide +kernel
theorem zp_179 : ∀ (pc : Nat) (ai : zI), zT 179 pc = some ai → zokI 179 pc ai = true := by
  intro pc ai e
  rcases Nat.lt_or_ge pc 109 with h | h
  · exact zok_R zo_179 (Nat.zero_le _) (by omega) e
  · exact absurd (e.symm.trans (show tX10_nests pc = none from zok_cut h)) (by intro q; cases q)
theorem zo_180 : zokR 180 0 37 = true := by decide +kernel
theorem zp_180 : ∀ (pc : Nat) (ai : zI), zT 180 pc = some ai → zokI 180 pc ai = true := by
  intro pc ai e
  rcases Nat.lt_or_ge pc 37 with h | h
  · exact zok_R zo_180 (Nat.zero_le _) (by omega) e
  · exact absurd (e.symm.trans (show tX10_nest pc = none from zok_cut h)) (by intro q; cases q)
theorem zo_181 : zokR 181 0 26 = true := by decide +kernel
theorem zp_181 : ∀ (pc : Nat) (ai : zI), zT 181 pc = some ai → zokI 181 pc ai = true := by
  intro pc ai e
  rcases Nat.lt_or_ge pc 26 with h | h
  · exact zok_R zo_181 (Nat.zero_le _) (by omega) e
  · exact absurd (e.symm.trans (show tX10_alikeTo pc = none from zok_cut h)) (by intro q; cases q)
theorem zo_182 : zokR 182 0 28 = true := by decide +kernel
theorem zp_182 : ∀ (pc : Nat) (ai : zI), zT 182 pc = some ai → zokI 182 pc ai = true := by
  intro pc ai e
  rcases Nat.lt_or_ge pc 28 with h | h
  · exact zok_R zo_182 (Nat.zero_le _) (by omega) e
  · exact absurd (e.symm.trans (show tX10_under pc = none from zok_cut h)) (by intro q; cases q)
theorem zo_183 : zokR 183 0 28 = true := by decide +kernel
theorem zp_183 : ∀ (pc : Nat) (ai : zI), zT 183 pc = some ai → zokI 183 pc ai = true := by
  intro pc ai e
  rcases Nat.lt_or_ge pc 28 with h | h
  · exact zok_R zo_183 (Nat.zero_le _) (by omega) e
  · exact absurd (e.symm.trans (show tX10_over pc = none from zok_cut h)) (by intro q; cases q)
theorem zo_184 : zokR 184 0 74 = true := by decide +kernel
theorem zp_184 : ∀ (pc : Nat) (ai : zI), zT 184 pc = some ai → zokI 184 pc ai = true := by
  intro pc ai e
  rcases Nat.lt_or_ge pc 74 with h | h
  · exact zok_R zo_184 (Nat.zero_le _) (by omega) e
  · exact absurd (e.symm.trans (show tX10_heightOf pc = none from zok_cut h)) (by intro q; cases q)
theorem zo_185 : zokR 185 0 83 = true := by decide +kernel
theorem zp_185 : ∀ (pc : Nat) (ai : zI), zT 185 pc = some ai → zokI 185 pc ai = true := by
  intro pc ai e
  rcases Nat.lt_or_ge pc 83 with h | h
  · exact zok_R zo_185 (Nat.zero_le _) (by omega) e
  · exact absurd (e.symm.trans (show tX10_partOf pc = none from zok_cut h)) (by intro q; cases q)
theorem zo_186 : zokR 186 0 76 = true := by decide +kernel
theorem zp_186 : ∀ (pc : Nat) (ai : zI), zT 186 pc = some ai → zokI 186 pc ai = true := by
  intro pc ai e
  rcases Nat.lt_or_ge pc 76 with h | h
  · exact zok_R zo_186 (Nat.zero_le _) (by omega) e
  · exact absurd (e.symm.trans (show tX10_end pc = none from zok_cut h)) (by intro q; cases q)
theorem zo_187 : zokR 187 0 20 = true := by decide +kernel
theorem zp_187 : ∀ (pc : Nat) (ai : zI), zT 187 pc = some ai → zokI 187 pc ai = true := by
  intro pc ai e
  rcases Nat.lt_or_ge pc 20 with h | h
  · exact zok_R zo_187 (Nat.zero_le _) (by omega) e
  · exact absurd (e.symm.trans (show tX10_isAlone pc = none from zok_cut h)) (by intro q; cases q)
theorem zo_188 : zokR 188 0 32 = true := by decide +kernel
theorem zp_188 : ∀ (pc : Nat) (ai : zI), zT 188 pc = some ai → zokI 188 pc ai = true := by
  intro pc ai e
  rcases Nat.lt_or_ge pc 32 with h | h
  · exact zok_R zo_188 (Nat.zero_le _) (by omega) e
  · exact absurd (e.symm.trans (show tX10_isDown pc = none from zok_cut h)) (by intro q; cases q)
theorem zo_189 : zokR 189 0 32 = true := by decide +kernel
theorem zp_189 : ∀ (pc : Nat) (ai : zI), zT 189 pc = some ai → zokI 189 pc ai = true := by
  intro pc ai e
  rcases Nat.lt_or_ge pc 32 with h | h
  · exact zok_R zo_189 (Nat.zero_le _) (by omega) e
  · exact absurd (e.symm.trans (show tX10_isUp pc = none from zok_cut h)) (by intro q; cases q)
theorem zo_190 : zokR 190 0 21 = true := by decide +kernel
theorem zp_190 : ∀ (pc : Nat) (ai : zI), zT 190 pc = some ai → zokI 190 pc ai = true := by
  intro pc ai e
  rcases Nat.lt_or_ge pc 21 with h | h
  · exact zok_R zo_190 (Nat.zero_le _) (by omega) e
  · exact absurd (e.symm.trans (show tX10_shrinks pc = none from zok_cut h)) (by intro q; cases q)
theorem zo_191 : zokR 191 0 230 = true := by decide +kernel
theorem zp_191 : ∀ (pc : Nat) (ai : zI), zT 191 pc = some ai → zokI 191 pc ai = true := by
  intro pc ai e
  rcases Nat.lt_or_ge pc 230 with h | h
  · exact zok_R zo_191 (Nat.zero_le _) (by omega) e
  · exact absurd (e.symm.trans (show tX10_mayGo pc = none from zok_cut h)) (by intro q; cases q)
theorem zo_192 : zokR 192 0 84 = true := by decide +kernel
theorem zp_192 : ∀ (pc : Nat) (ai : zI), zT 192 pc = some ai → zokI 192 pc ai = true := by
  intro pc ai e
  rcases Nat.lt_or_ge pc 84 with h | h
  · exact zok_R zo_192 (Nat.zero_le _) (by omega) e
  · exact absurd (e.symm.trans (show tX10_priceOf pc = none from zok_cut h)) (by intro q; cases q)
theorem zo_193 : zokR 193 0 124 = true := by decide +kernel
theorem zp_193 : ∀ (pc : Nat) (ai : zI), zT 193 pc = some ai → zokI 193 pc ai = true := by
  intro pc ai e
  rcases Nat.lt_or_ge pc 124 with h | h
  · exact zok_R zo_193 (Nat.zero_le _) (by omega) e
  · exact absurd (e.symm.trans (show tX10_goes pc = none from zok_cut h)) (by intro q; cases q)
theorem zo_194 : zokR 194 0 48 = true := by decide +kernel
theorem zp_194 : ∀ (pc : Nat) (ai : zI), zT 194 pc = some ai → zokI 194 pc ai = true := by
  intro pc ai e
  rcases Nat.lt_or_ge pc 48 with h | h
  · exact zok_R zo_194 (Nat.zero_le _) (by omega) e
  · exact absurd (e.symm.trans (show tX10_leftBy pc = none from zok_cut h)) (by intro q; cases q)
theorem zo_195 : zokR 195 0 165 = true := by decide +kernel
theorem zp_195 : ∀ (pc : Nat) (ai : zI), zT 195 pc = some ai → zokI 195 pc ai = true := by
  intro pc ai e
  rcases Nat.lt_or_ge pc 165 with h | h
  · exact zok_R zo_195 (Nat.zero_le _) (by omega) e
  · exact absurd (e.symm.trans (show tX10_of pc = none from zok_cut h)) (by intro q; cases q)
theorem zo_196 : zokR 196 0 63 = true := by decide +kernel
theorem zp_196 : ∀ (pc : Nat) (ai : zI), zT 196 pc = some ai → zokI 196 pc ai = true := by
  intro pc ai e
  rcases Nat.lt_or_ge pc 63 with h | h
  · exact zok_R zo_196 (Nat.zero_le _) (by omega) e
  · exact absurd (e.symm.trans (show tX10_insideOf pc = none from zok_cut h)) (by intro q; cases q)
theorem zo_197 : zokR 197 0 52 = true := by decide +kernel
theorem zp_197 : ∀ (pc : Nat) (ai : zI), zT 197 pc = some ai → zokI 197 pc ai = true := by
  intro pc ai e
  rcases Nat.lt_or_ge pc 52 with h | h
  · exact zok_R zo_197 (Nat.zero_le _) (by omega) e
  · exact absurd (e.symm.trans (show tX10_closureOf pc = none from zok_cut h)) (by intro q; cases q)
theorem zo_198 : zokR 198 0 104 = true := by decide +kernel
theorem zp_198 : ∀ (pc : Nat) (ai : zI), zT 198 pc = some ai → zokI 198 pc ai = true := by
  intro pc ai e
  rcases Nat.lt_or_ge pc 104 with h | h
  · exact zok_R zo_198 (Nat.zero_le _) (by omega) e
  · exact absurd (e.symm.trans (show tX10_about pc = none from zok_cut h)) (by intro q; cases q)
theorem zo_199 : zokR 199 0 39 = true := by decide +kernel
theorem zp_199 : ∀ (pc : Nat) (ai : zI), zT 199 pc = some ai → zokI 199 pc ai = true := by
  intro pc ai e
  rcases Nat.lt_or_ge pc 39 with h | h
  · exact zok_R zo_199 (Nat.zero_le _) (by omega) e
  · exact absurd (e.symm.trans (show tX10_pairs pc = none from zok_cut h)) (by intro q; cases q)
theorem zo_200 : zokR 200 0 91 = true := by decide +kernel
theorem zp_200 : ∀ (pc : Nat) (ai : zI), zT 200 pc = some ai → zokI 200 pc ai = true := by
  intro pc ai e
  rcases Nat.lt_or_ge pc 91 with h | h
  · exact zok_R zo_200 (Nat.zero_le _) (by omega) e
  · exact absurd (e.symm.trans (show tX10_covers pc = none from zok_cut h)) (by intro q; cases q)
theorem zo_201 : zokR 201 0 43 = true := by decide +kernel
theorem zp_201 : ∀ (pc : Nat) (ai : zI), zT 201 pc = some ai → zokI 201 pc ai = true := by
  intro pc ai e
  rcases Nat.lt_or_ge pc 43 with h | h
  · exact zok_R zo_201 (Nat.zero_le _) (by omega) e
  · exact absurd (e.symm.trans (show tX10_parts pc = none from zok_cut h)) (by intro q; cases q)
theorem zo_202 : zokR 202 0 44 = true := by decide +kernel
theorem zp_202 : ∀ (pc : Nat) (ai : zI), zT 202 pc = some ai → zokI 202 pc ai = true := by
  intro pc ai e
  rcases Nat.lt_or_ge pc 44 with h | h
  · exact zok_R zo_202 (Nat.zero_le _) (by omega) e
  · exact absurd (e.symm.trans (show tX10_greatestHeight pc = none from zok_cut h)) (by intro q; cases q)
theorem zo_203 : zokR 203 0 39 = true := by decide +kernel
theorem zp_203 : ∀ (pc : Nat) (ai : zI), zT 203 pc = some ai → zokI 203 pc ai = true := by
  intro pc ai e
  rcases Nat.lt_or_ge pc 39 with h | h
  · exact zok_R zo_203 (Nat.zero_le _) (by omega) e
  · exact absurd (e.symm.trans (show tX10_openSets pc = none from zok_cut h)) (by intro q; cases q)
theorem zo_204 : zokR 204 0 36 = true := by decide +kernel
theorem zp_204 : ∀ (pc : Nat) (ai : zI), zT 204 pc = some ai → zokI 204 pc ai = true := by
  intro pc ai e
  rcases Nat.lt_or_ge pc 36 with h | h
  · exact zok_R zo_204 (Nat.zero_le _) (by omega) e
  · exact absurd (e.symm.trans (show tX10_isPlain pc = none from zok_cut h)) (by intro q; cases q)
theorem zo_205 : zokR 205 0 105 = true := by decide +kernel
theorem zp_205 : ∀ (pc : Nat) (ai : zI), zT 205 pc = some ai → zokI 205 pc ai = true := by
  intro pc ai e
  rcases Nat.lt_or_ge pc 105 with h | h
  · exact zok_R zo_205 (Nat.zero_le _) (by omega) e
  · exact absurd (e.symm.trans (show tX10_told pc = none from zok_cut h)) (by intro q; cases q)
theorem zo_206 : zokR 206 0 135 = true := by decide +kernel
theorem zp_206 : ∀ (pc : Nat) (ai : zI), zT 206 pc = some ai → zokI 206 pc ai = true := by
  intro pc ai e
  rcases Nat.lt_or_ge pc 135 with h | h
  · exact zok_R zo_206 (Nat.zero_le _) (by omega) e
  · exact absurd (e.symm.trans (show tX10_path pc = none from zok_cut h)) (by intro q; cases q)
theorem zo_207 : zokR 207 0 85 = true := by decide +kernel
theorem zp_207 : ∀ (pc : Nat) (ai : zI), zT 207 pc = some ai → zokI 207 pc ai = true := by
  intro pc ai e
  rcases Nat.lt_or_ge pc 85 with h | h
  · exact zok_R zo_207 (Nat.zero_le _) (by omega) e
  · exact absurd (e.symm.trans (show tX10_may pc = none from zok_cut h)) (by intro q; cases q)
theorem zo_208 : zokR 208 0 40 = true := by decide +kernel
theorem zp_208 : ∀ (pc : Nat) (ai : zI), zT 208 pc = some ai → zokI 208 pc ai = true := by
  intro pc ai e
  rcases Nat.lt_or_ge pc 40 with h | h
  · exact zok_R zo_208 (Nat.zero_le _) (by omega) e
  · exact absurd (e.symm.trans (show tX10_price pc = none from zok_cut h)) (by intro q; cases q)
theorem zo_209 : zokR 209 0 7 = true := by decide +kernel
theorem zp_209 : ∀ (pc : Nat) (ai : zI), zT 209 pc = some ai → zokI 209 pc ai = true := by
  intro pc ai e
  rcases Nat.lt_or_ge pc 7 with h | h
  · exact zok_R zo_209 (Nat.zero_le _) (by omega) e
  · exact absurd (e.symm.trans (show tX10_isOrder pc = none from zok_cut h)) (by intro q; cases q)
theorem zo_210 : zokR 210 0 38 = true := by decide +kernel
theorem zp_210 : ∀ (pc : Nat) (ai : zI), zT 210 pc = some ai → zokI 210 pc ai = true := by
  intro pc ai e
  rcases Nat.lt_or_ge pc 38 with h | h
  · exact zok_R zo_210 (Nat.zero_le _) (by omega) e
  · exact absurd (e.symm.trans (show tX10_left pc = none from zok_cut h)) (by intro q; cases q)
theorem zo_211 : zokR 211 0 37 = true := by decide +kernel
theorem zp_211 : ∀ (pc : Nat) (ai : zI), zT 211 pc = some ai → zokI 211 pc ai = true := by
  intro pc ai e
  rcases Nat.lt_or_ge pc 37 with h | h
  · exact zok_R zo_211 (Nat.zero_le _) (by omega) e
  · exact absurd (e.symm.trans (show tX10_lists pc = none from zok_cut h)) (by intro q; cases q)
theorem zo_212 : zokR 212 0 123 = true := by decide +kernel
theorem zp_212 : ∀ (pc : Nat) (ai : zI), zT 212 pc = some ai → zokI 212 pc ai = true := by
  intro pc ai e
  rcases Nat.lt_or_ge pc 123 with h | h
  · exact zok_R zo_212 (Nat.zero_le _) (by omega) e
  · exact absurd (e.symm.trans (show tX10_becomes pc = none from zok_cut h)) (by intro q; cases q)
theorem zo_213 : zokR 213 0 58 = true := by decide +kernel
theorem zp_213 : ∀ (pc : Nat) (ai : zI), zT 213 pc = some ai → zokI 213 pc ai = true := by
  intro pc ai e
  rcases Nat.lt_or_ge pc 58 with h | h
  · exact zok_R zo_213 (Nat.zero_le _) (by omega) e
  · exact absurd (e.symm.trans (show tX10_reduce pc = none from zok_cut h)) (by intro q; cases q)
theorem zo_214 : zokR 214 0 178 = true := by decide +kernel
theorem zp_214 : ∀ (pc : Nat) (ai : zI), zT 214 pc = some ai → zokI 214 pc ai = true := by
  intro pc ai e
  rcases Nat.lt_or_ge pc 178 with h | h
  · exact zok_R zo_214 (Nat.zero_le _) (by omega) e
  · exact absurd (e.symm.trans (show tX10_goesWays pc = none from zok_cut h)) (by intro q; cases q)
theorem zo_215 : zokR 215 0 85 = true := by decide +kernel
theorem zp_215 : ∀ (pc : Nat) (ai : zI), zT 215 pc = some ai → zokI 215 pc ai = true := by
  intro pc ai e
  rcases Nat.lt_or_ge pc 85 with h | h
  · exact zok_R zo_215 (Nat.zero_le _) (by omega) e
  · exact absurd (e.symm.trans (show tX10_unlikeEnds pc = none from zok_cut h)) (by intro q; cases q)
theorem zo_216 : zokR 216 0 79 = true := by decide +kernel
theorem zp_216 : ∀ (pc : Nat) (ai : zI), zT 216 pc = some ai → zokI 216 pc ai = true := by
  intro pc ai e
  rcases Nat.lt_or_ge pc 79 with h | h
  · exact zok_R zo_216 (Nat.zero_le _) (by omega) e
  · exact absurd (e.symm.trans (show tX10_ways pc = none from zok_cut h)) (by intro q; cases q)
theorem zo_217 : zokR 217 0 65 = true := by decide +kernel
theorem zp_217 : ∀ (pc : Nat) (ai : zI), zT 217 pc = some ai → zokI 217 pc ai = true := by
  intro pc ai e
  rcases Nat.lt_or_ge pc 65 with h | h
  · exact zok_R zo_217 (Nat.zero_le _) (by omega) e
  · exact absurd (e.symm.trans (show tX10_upon pc = none from zok_cut h)) (by intro q; cases q)
theorem zo_218 : zokR 218 0 167 = true := by decide +kernel
theorem zp_218 : ∀ (pc : Nat) (ai : zI), zT 218 pc = some ai → zokI 218 pc ai = true := by
  intro pc ai e
  rcases Nat.lt_or_ge pc 167 with h | h
  · exact zok_R zo_218 (Nat.zero_le _) (by omega) e
  · exact absurd (e.symm.trans (show tX10_retract pc = none from zok_cut h)) (by intro q; cases q)
theorem zo_219 : zokR 219 0 150 = true := by decide +kernel
theorem zp_219 : ∀ (pc : Nat) (ai : zI), zT 219 pc = some ai → zokI 219 pc ai = true := by
  intro pc ai e
  rcases Nat.lt_or_ge pc 150 with h | h
  · exact zok_R zo_219 (Nat.zero_le _) (by omega) e
  · exact absurd (e.symm.trans (show tX10_fitsSo pc = none from zok_cut h)) (by intro q; cases q)
theorem zo_220 : zokR 220 0 107 = true := by decide +kernel
theorem zp_220 : ∀ (pc : Nat) (ai : zI), zT 220 pc = some ai → zokI 220 pc ai = true := by
  intro pc ai e
  rcases Nat.lt_or_ge pc 107 with h | h
  · exact zok_R zo_220 (Nat.zero_le _) (by omega) e
  · exact absurd (e.symm.trans (show tX10_renumbersFrom pc = none from zok_cut h)) (by intro q; cases q)
theorem zo_221 : zokR 221 0 52 = true := by decide +kernel
theorem zp_221 : ∀ (pc : Nat) (ai : zI), zT 221 pc = some ai → zokI 221 pc ai = true := by
  intro pc ai e
  rcases Nat.lt_or_ge pc 52 with h | h
  · exact zok_R zo_221 (Nat.zero_le _) (by omega) e
  · exact absurd (e.symm.trans (show tX10_renumberings pc = none from zok_cut h)) (by intro q; cases q)
theorem zo_222 : zokR 222 0 55 = true := by decide +kernel
theorem zp_222 : ∀ (pc : Nat) (ai : zI), zT 222 pc = some ai → zokI 222 pc ai = true := by
  intro pc ai e
  rcases Nat.lt_or_ge pc 55 with h | h
  · exact zok_R zo_222 (Nat.zero_le _) (by omega) e
  · exact absurd (e.symm.trans (show tX10_homotopic pc = none from zok_cut h)) (by intro q; cases q)
theorem zo_223 : zokR 223 0 74 = true := by decide +kernel
