theorem zp_223 : ∀ (pc : Nat) (ai : zI), zT 223 pc = some ai → zokI 223 pc ai = true := by
  intro pc ai e
  rcases Nat.lt_or_ge pc 74 with h | h
  · exact zok_R zo_223 (Nat.zero_le _) (by omega) e
  · exact absurd (e.symm.trans (show tX10_same pc = none from zok_cut h)) (by intro q; cases q)
theorem zo_224 : zokR 224 0 19 = true := by decide +kernel
theorem zp_224 : ∀ (pc : Nat) (ai : zI), zT 224 pc = some ai → zokI 224 pc ai = true := by
  intro pc ai e
  rcases Nat.lt_or_ge pc 19 with h | h
  · exact zok_R zo_224 (Nat.zero_le _) (by omega) e
  · exact absurd (e.symm.trans (show tX10_bitOf pc = none from zok_cut h)) (by intro q; cases q)
theorem zo_225 : zokR 225 0 179 = true := by decide +kernel
theorem zp_225 : ∀ (pc : Nat) (ai : zI), zT 225 pc = some ai → zokI 225 pc ai = true := by
  intro pc ai e
  rcases Nat.lt_or_ge pc 179 with h | h
  · exact zok_R zo_225 (Nat.zero_le _) (by omega) e
  · exact absurd (e.symm.trans (show tX10_numbersFrom pc = none from zok_cut h)) (by intro q; cases q)
theorem zo_226 : zokR 226 0 23 = true := by decide +kernel
theorem zp_226 : ∀ (pc : Nat) (ai : zI), zT 226 pc = some ai → zokI 226 pc ai = true := by
  intro pc ai e
  rcases Nat.lt_or_ge pc 23 with h | h
  · exact zok_R zo_226 (Nat.zero_le _) (by omega) e
  · exact absurd (e.symm.trans (show tX10_formOf pc = none from zok_cut h)) (by intro q; cases q)
theorem zo_227 : zokR 227 0 27 = true := by decide +kernel
theorem zp_227 : ∀ (pc : Nat) (ai : zI), zT 227 pc = some ai → zokI 227 pc ai = true := by
  intro pc ai e
  rcases Nat.lt_or_ge pc 27 with h | h
  · exact zok_R zo_227 (Nat.zero_le _) (by omega) e
  · exact absurd (e.symm.trans (show tX10_form pc = none from zok_cut h)) (by intro q; cases q)
theorem zo_228 : zokR 228 0 184 = true := by decide +kernel
theorem zp_228 : ∀ (pc : Nat) (ai : zI), zT 228 pc = some ai → zokI 228 pc ai = true := by
  intro pc ai e
  rcases Nat.lt_or_ge pc 184 with h | h
  · exact zok_R zo_228 (Nat.zero_le _) (by omega) e
  · exact absurd (e.symm.trans (show tX10_isCode pc = none from zok_cut h)) (by intro q; cases q)
theorem zo_229 : zokR 229 0 72 = true := by decide +kernel
theorem zp_229 : ∀ (pc : Nat) (ai : zI), zT 229 pc = some ai → zokI 229 pc ai = true := by
  intro pc ai e
  rcases Nat.lt_or_ge pc 72 with h | h
  · exact zok_R zo_229 (Nat.zero_le _) (by omega) e
  · exact absurd (e.symm.trans (show tX10_byCode pc = none from zok_cut h)) (by intro q; cases q)
theorem zo_230 : zokR 230 0 116 = true := by decide +kernel
theorem zp_230 : ∀ (pc : Nat) (ai : zI), zT 230 pc = some ai → zokI 230 pc ai = true := by
  intro pc ai e
  rcases Nat.lt_or_ge pc 116 with h | h
  · exact zok_R zo_230 (Nat.zero_le _) (by omega) e
  · exact absurd (e.symm.trans (show tX10_list pc = none from zok_cut h)) (by intro q; cases q)
theorem zo_231 : zokR 231 0 63 = true := by decide +kernel
theorem zp_231 : ∀ (pc : Nat) (ai : zI), zT 231 pc = some ai → zokI 231 pc ai = true := by
  intro pc ai e
  rcases Nat.lt_or_ge pc 63 with h | h
  · exact zok_R zo_231 (Nat.zero_le _) (by omega) e
  · exact absurd (e.symm.trans (show tX10_codesOf pc = none from zok_cut h)) (by intro q; cases q)
theorem zo_232 : zokR 232 0 132 = true := by decide +kernel
theorem zp_232 : ∀ (pc : Nat) (ai : zI), zT 232 pc = some ai → zokI 232 pc ai = true := by
  intro pc ai e
  rcases Nat.lt_or_ge pc 132 with h | h
  · exact zok_R zo_232 (Nat.zero_le _) (by omega) e
  · exact absurd (e.symm.trans (show tX10_listed pc = none from zok_cut h)) (by intro q; cases q)
theorem zo_233 : zokR 233 0 9 = true := by decide +kernel
theorem zp_233 : ∀ (pc : Nat) (ai : zI), zT 233 pc = some ai → zokI 233 pc ai = true := by
  intro pc ai e
  rcases Nat.lt_or_ge pc 9 with h | h
  · exact zok_R zo_233 (Nat.zero_le _) (by omega) e
  · exact absurd (e.symm.trans (show tX10_imageOf pc = none from zok_cut h)) (by intro q; cases q)
theorem zo_234 : zokR 234 0 74 = true := by decide +kernel
theorem zp_234 : ∀ (pc : Nat) (ai : zI), zT 234 pc = some ai → zokI 234 pc ai = true := by
  intro pc ai e
  rcases Nat.lt_or_ge pc 74 with h | h
  · exact zok_R zo_234 (Nat.zero_le _) (by omega) e
  · exact absurd (e.symm.trans (show tX10_isMap pc = none from zok_cut h)) (by intro q; cases q)
theorem zo_235 : zokR 235 0 101 = true := by decide +kernel
theorem zp_235 : ∀ (pc : Nat) (ai : zI), zT 235 pc = some ai → zokI 235 pc ai = true := by
  intro pc ai e
  rcases Nat.lt_or_ge pc 101 with h | h
  · exact zok_R zo_235 (Nat.zero_le _) (by omega) e
  · exact absurd (e.symm.trans (show tX10_tearsBy pc = none from zok_cut h)) (by intro q; cases q)
theorem zo_236 : zokR 236 0 36 = true := by decide +kernel
theorem zp_236 : ∀ (pc : Nat) (ai : zI), zT 236 pc = some ai → zokI 236 pc ai = true := by
  intro pc ai e
  rcases Nat.lt_or_ge pc 36 with h | h
  · exact zok_R zo_236 (Nat.zero_le _) (by omega) e
  · exact absurd (e.symm.trans (show tX10_tears pc = none from zok_cut h)) (by intro q; cases q)
theorem zo_237 : zokR 237 0 84 = true := by decide +kernel
theorem zp_237 : ∀ (pc : Nat) (ai : zI), zT 237 pc = some ai → zokI 237 pc ai = true := by
  intro pc ai e
  rcases Nat.lt_or_ge pc 84 with h | h
  · exact zok_R zo_237 (Nat.zero_le _) (by omega) e
  · exact absurd (e.symm.trans (show tX10_maps pc = none from zok_cut h)) (by intro q; cases q)
theorem zo_238 : zokR 238 0 124 = true := by decide +kernel
theorem zp_238 : ∀ (pc : Nat) (ai : zI), zT 238 pc = some ai → zokI 238 pc ai = true := by
  intro pc ai e
  rcases Nat.lt_or_ge pc 124 with h | h
  · exact zok_R zo_238 (Nat.zero_le _) (by omega) e
  · exact absurd (e.symm.trans (show tX10_isBeside pc = none from zok_cut h)) (by intro q; cases q)
theorem zo_239 : zokR 239 0 26 = true := by decide +kernel
theorem zp_239 : ∀ (pc : Nat) (ai : zI), zT 239 pc = some ai → zokI 239 pc ai = true := by
  intro pc ai e
  rcases Nat.lt_or_ge pc 26 with h | h
  · exact zok_R zo_239 (Nat.zero_le _) (by omega) e
  · exact absurd (e.symm.trans (show tX10_isWhole pc = none from zok_cut h)) (by intro q; cases q)
theorem zo_240 : zokR 240 0 244 = true := by decide +kernel
theorem zp_240 : ∀ (pc : Nat) (ai : zI), zT 240 pc = some ai → zokI 240 pc ai = true := by
  intro pc ai e
  rcases Nat.lt_or_ge pc 244 with h | h
  · exact zok_R zo_240 (Nat.zero_le _) (by omega) e
  · exact absurd (e.symm.trans (show tX10_fence pc = none from zok_cut h)) (by intro q; cases q)
theorem zo_241 : zokR 241 0 65 = true := by decide +kernel
theorem zp_241 : ∀ (pc : Nat) (ai : zI), zT 241 pc = some ai → zokI 241 pc ai = true := by
  intro pc ai e
  rcases Nat.lt_or_ge pc 65 with h | h
  · exact zok_R zo_241 (Nat.zero_le _) (by omega) e
  · exact absurd (e.symm.trans (show tX10_fixed pc = none from zok_cut h)) (by intro q; cases q)
theorem zo_242 : zokR 242 0 50 = true := by decide +kernel
theorem zp_242 : ∀ (pc : Nat) (ai : zI), zT 242 pc = some ai → zokI 242 pc ai = true := by
  intro pc ai e
  rcases Nat.lt_or_ge pc 50 with h | h
  · exact zok_R zo_242 (Nat.zero_le _) (by omega) e
  · exact absurd (e.symm.trans (show tX10_firsts pc = none from zok_cut h)) (by intro q; cases q)
theorem zo_243 : zokR 243 0 96 = true := by decide +kernel
theorem zp_243 : ∀ (pc : Nat) (ai : zI), zT 243 pc = some ai → zokI 243 pc ai = true := by
  intro pc ai e
  rcases Nat.lt_or_ge pc 96 with h | h
  · exact zok_R zo_243 (Nat.zero_le _) (by omega) e
  · exact absurd (e.symm.trans (show tX10_isChain pc = none from zok_cut h)) (by intro q; cases q)
theorem zo_244 : zokR 244 0 50 = true := by decide +kernel
theorem zp_244 : ∀ (pc : Nat) (ai : zI), zT 244 pc = some ai → zokI 244 pc ai = true := by
  intro pc ai e
  rcases Nat.lt_or_ge pc 50 with h | h
  · exact zok_R zo_244 (Nat.zero_le _) (by omega) e
  · exact absurd (e.symm.trans (show tX10_chainsOf pc = none from zok_cut h)) (by intro q; cases q)
theorem zo_245 : zokR 245 0 28 = true := by decide +kernel
theorem zp_245 : ∀ (pc : Nat) (ai : zI), zT 245 pc = some ai → zokI 245 pc ai = true := by
  intro pc ai e
  rcases Nat.lt_or_ge pc 28 with h | h
  · exact zok_R zo_245 (Nat.zero_le _) (by omega) e
  · exact absurd (e.symm.trans (show tX10_chains pc = none from zok_cut h)) (by intro q; cases q)
theorem zo_246 : zokR 246 0 55 = true := by decide +kernel
theorem zp_246 : ∀ (pc : Nat) (ai : zI), zT 246 pc = some ai → zokI 246 pc ai = true := by
  intro pc ai e
  rcases Nat.lt_or_ge pc 55 with h | h
  · exact zok_R zo_246 (Nat.zero_le _) (by omega) e
  · exact absurd (e.symm.trans (show tX10_euler pc = none from zok_cut h)) (by intro q; cases q)
theorem zo_247 : zokR 247 0 53 = true := by decide +kernel
theorem zp_247 : ∀ (pc : Nat) (ai : zI), zT 247 pc = some ai → zokI 247 pc ai = true := by
  intro pc ai e
  rcases Nat.lt_or_ge pc 53 with h | h
  · exact zok_R zo_247 (Nat.zero_le _) (by omega) e
  · exact absurd (e.symm.trans (show tX10_findsChains pc = none from zok_cut h)) (by intro q; cases q)
theorem zo_248 : zokR 248 0 183 = true := by decide +kernel
theorem zp_248 : ∀ (pc : Nat) (ai : zI), zT 248 pc = some ai → zokI 248 pc ai = true := by
  intro pc ai e
  rcases Nat.lt_or_ge pc 183 with h | h
  · exact zok_R zo_248 (Nat.zero_le _) (by omega) e
  · exact absurd (e.symm.trans (show tX10_rankOf pc = none from zok_cut h)) (by intro q; cases q)
theorem zo_249 : zokR 249 0 57 = true := by decide +kernel
theorem zp_249 : ∀ (pc : Nat) (ai : zI), zT 249 pc = some ai → zokI 249 pc ai = true := by
  intro pc ai e
  rcases Nat.lt_or_ge pc 57 with h | h
  · exact zok_R zo_249 (Nat.zero_le _) (by omega) e
  · exact absurd (e.symm.trans (show tX10_holes pc = none from zok_cut h)) (by intro q; cases q)
theorem zo_250 : zokR 250 0 36 = true := by decide +kernel
theorem zp_250 : ∀ (pc : Nat) (ai : zI), zT 250 pc = some ai → zokI 250 pc ai = true := by
  intro pc ai e
  rcases Nat.lt_or_ge pc 36 with h | h
  · exact zok_R zo_250 (Nat.zero_le _) (by omega) e
  · exact absurd (e.symm.trans (show tX10_toldSets pc = none from zok_cut h)) (by intro q; cases q)
theorem zo_251 : zokR 251 0 157 = true := by decide +kernel
theorem zp_251 : ∀ (pc : Nat) (ai : zI), zT 251 pc = some ai → zokI 251 pc ai = true := by
  intro pc ai e
  rcases Nat.lt_or_ge pc 157 with h | h
  · exact zok_R zo_251 (Nat.zero_le _) (by omega) e
  · exact absurd (e.symm.trans (show tX10_becomesSets pc = none from zok_cut h)) (by intro q; cases q)
theorem zo_252 : zokR 252 0 66 = true := by decide +kernel
theorem zp_252 : ∀ (pc : Nat) (ai : zI), zT 252 pc = some ai → zokI 252 pc ai = true := by
  intro pc ai e
  rcases Nat.lt_or_ge pc 66 with h | h
  · exact zok_R zo_252 (Nat.zero_le _) (by omega) e
  · exact absurd (e.symm.trans (show tX10_divide pc = none from zok_cut h)) (by intro q; cases q)
theorem zo_253 : zokR 253 0 234 = true := by decide +kernel
theorem zp_253 : ∀ (pc : Nat) (ai : zI), zT 253 pc = some ai → zokI 253 pc ai = true := by
  intro pc ai e
  rcases Nat.lt_or_ge pc 234 with h | h
  · exact zok_R zo_253 (Nat.zero_le _) (by omega) e
  · exact absurd (e.symm.trans (show tX10_faces pc = none from zok_cut h)) (by intro q; cases q)
theorem zo_254 : zokR 254 0 104 = true := by decide +kernel
theorem zp_254 : ∀ (pc : Nat) (ai : zI), zT 254 pc = some ai → zokI 254 pc ai = true := by
  intro pc ai e
  rcases Nat.lt_or_ge pc 104 with h | h
  · exact zok_R zo_254 (Nat.zero_le _) (by omega) e
  · exact absurd (e.symm.trans (show tX10_manyMade pc = none from zok_cut h)) (by intro q; cases q)
theorem zo_255 : zokR 255 0 223 = true := by decide +kernel
theorem zp_255 : ∀ (pc : Nat) (ai : zI), zT 255 pc = some ai → zokI 255 pc ai = true := by
  intro pc ai e
  rcases Nat.lt_or_ge pc 223 with h | h
  · exact zok_R zo_255 (Nat.zero_le _) (by omega) e
  · exact absurd (e.symm.trans (show tX10_lowMade pc = none from zok_cut h)) (by intro q; cases q)
theorem zo_256 : zokR 256 0 143 = true := by decide +kernel
theorem zp_256 : ∀ (pc : Nat) (ai : zI), zT 256 pc = some ai → zokI 256 pc ai = true := by
  intro pc ai e
  rcases Nat.lt_or_ge pc 143 with h | h
  · exact zok_R zo_256 (Nat.zero_le _) (by omega) e
  · exact absurd (e.symm.trans (show tX10_made pc = none from zok_cut h)) (by intro q; cases q)
theorem zo_257 : zokR 257 0 39 = true := by decide +kernel
theorem zp_257 : ∀ (pc : Nat) (ai : zI), zT 257 pc = some ai → zokI 257 pc ai = true := by
  intro pc ai e
  rcases Nat.lt_or_ge pc 39 with h | h
  · exact zok_R zo_257 (Nat.zero_le _) (by omega) e
  · exact absurd (e.symm.trans (show tX10_part pc = none from zok_cut h)) (by intro q; cases q)
theorem zo_258 : zokR 258 0 77 = true := by decide +kernel
theorem zp_258 : ∀ (pc : Nat) (ai : zI), zT 258 pc = some ai → zokI 258 pc ai = true := by
  intro pc ai e
  rcases Nat.lt_or_ge pc 77 with h | h
  · exact zok_R zo_258 (Nat.zero_le _) (by omega) e
  · exact absurd (e.symm.trans (show tX10_feed pc = none from zok_cut h)) (by intro q; cases q)
theorem zo_259 : zokR 259 0 63 = true := by decide +kernel
theorem zp_259 : ∀ (pc : Nat) (ai : zI), zT 259 pc = some ai → zokI 259 pc ai = true := by
  intro pc ai e
  rcases Nat.lt_or_ge pc 63 with h | h
  · exact zok_R zo_259 (Nat.zero_le _) (by omega) e
  · exact absurd (e.symm.trans (show tX10_here pc = none from zok_cut h)) (by intro q; cases q)
theorem zo_260 : zokR 260 0 22 = true := by decide +kernel
theorem zp_260 : ∀ (pc : Nat) (ai : zI), zT 260 pc = some ai → zokI 260 pc ai = true := by
  intro pc ai e
  rcases Nat.lt_or_ge pc 22 with h | h
  · exact zok_R zo_260 (Nat.zero_le _) (by omega) e
  · exact absurd (e.symm.trans (show tX10_takes pc = none from zok_cut h)) (by intro q; cases q)
theorem zo_261 : zokR 261 0 38 = true := by decide +kernel
theorem zp_261 : ∀ (pc : Nat) (ai : zI), zT 261 pc = some ai → zokI 261 pc ai = true := by
  intro pc ai e
  rcases Nat.lt_or_ge pc 38 with h | h
  · exact zok_R zo_261 (Nat.zero_le _) (by omega) e
  · exact absurd (e.symm.trans (show tX10_digit pc = none from zok_cut h)) (by intro q; cases q)
theorem zo_262 : zokR 262 0 134 = true := by decide +kernel
theorem zp_262 : ∀ (pc : Nat) (ai : zI), zT 262 pc = some ai → zokI 262 pc ai = true := by
  intro pc ai e
  rcases Nat.lt_or_ge pc 134 with h | h
  · exact zok_R zo_262 (Nat.zero_le _) (by omega) e
  · exact absurd (e.symm.trans (show tX10_readsItem pc = none from zok_cut h)) (by intro q; cases q)
theorem zo_263 : zokR 263 0 53 = true := by decide +kernel
theorem zp_263 : ∀ (pc : Nat) (ai : zI), zT 263 pc = some ai → zokI 263 pc ai = true := by
  intro pc ai e
  rcases Nat.lt_or_ge pc 53 with h | h
  · exact zok_R zo_263 (Nat.zero_le _) (by omega) e
  · exact absurd (e.symm.trans (show tX10_readsSpace pc = none from zok_cut h)) (by intro q; cases q)
theorem zo_264 : zokR 264 0 66 = true := by decide +kernel
theorem zp_264 : ∀ (pc : Nat) (ai : zI), zT 264 pc = some ai → zokI 264 pc ai = true := by
  intro pc ai e
  rcases Nat.lt_or_ge pc 66 with h | h
  · exact zok_R zo_264 (Nat.zero_le _) (by omega) e
  · exact absurd (e.symm.trans (show tX10_space pc = none from zok_cut h)) (by intro q; cases q)
theorem zo_265 : zokR 265 0 12 = true := by decide +kernel
theorem zp_265 : ∀ (pc : Nat) (ai : zI), zT 265 pc = some ai → zokI 265 pc ai = true := by
  intro pc ai e
  rcases Nat.lt_or_ge pc 12 with h | h
  · exact zok_R zo_265 (Nat.zero_le _) (by omega) e
  · exact absurd (e.symm.trans (show tX10_seed pc = none from zok_cut h)) (by intro q; cases q)
theorem zo_266 : zokR 266 0 123 = true := by decide +kernel
theorem zp_266 : ∀ (pc : Nat) (ai : zI), zT 266 pc = some ai → zokI 266 pc ai = true := by
  intro pc ai e
  rcases Nat.lt_or_ge pc 123 with h | h
  · exact zok_R zo_266 (Nat.zero_le _) (by omega) e
  · exact absurd (e.symm.trans (show tX10_draw pc = none from zok_cut h)) (by intro q; cases q)
theorem zo_267 : zokR 267 0 7 = true := by decide +kernel
theorem zp_267 : ∀ (pc : Nat) (ai : zI), zT 267 pc = some ai → zokI 267 pc ai = true := by
  intro pc ai e
  rcases Nat.lt_or_ge pc 7 with h | h
  · exact zok_R zo_267 (Nat.zero_le _) (by omega) e
  · exact absurd (e.symm.trans (show tX10_isSheet pc = none from zok_cut h)) (by intro q; cases q)
theorem zo_268 : zokR 268 0 30 = true := by decide +kernel
theorem zp_268 : ∀ (pc : Nat) (ai : zI), zT 268 pc = some ai → zokI 268 pc ai = true := by
  intro pc ai e
  rcases Nat.lt_or_ge pc 30 with h | h
  · exact zok_R zo_268 (Nat.zero_le _) (by omega) e
  · exact absurd (e.symm.trans (show tX10_isOutside pc = none from zok_cut h)) (by intro q; cases q)
theorem zo_269 : zokR 269 0 26 = true := by decide +kernel
theorem zp_269 : ∀ (pc : Nat) (ai : zI), zT 269 pc = some ai → zokI 269 pc ai = true := by
  intro pc ai e
  rcases Nat.lt_or_ge pc 26 with h | h
  · exact zok_R zo_269 (Nat.zero_le _) (by omega) e
  · exact absurd (e.symm.trans (show tX10_cut pc = none from zok_cut h)) (by intro q; cases q)
theorem zo_270 : zokR 270 0 92 = true := by decide +kernel
theorem zp_270 : ∀ (pc : Nat) (ai : zI), zT 270 pc = some ai → zokI 270 pc ai = true := by
  intro pc ai e
  rcases Nat.lt_or_ge pc 92 with h | h
  · exact zok_R zo_270 (Nat.zero_le _) (by omega) e
  · exact absurd (e.symm.trans (show tX10_sheet pc = none from zok_cut h)) (by intro q; cases q)
theorem zo_271 : zokR 271 0 64 = true := by decide +kernel
theorem zp_271 : ∀ (pc : Nat) (ai : zI), zT 271 pc = some ai → zokI 271 pc ai = true := by
  intro pc ai e
  rcases Nat.lt_or_ge pc 64 with h | h
  · exact zok_R zo_271 (Nat.zero_le _) (by omega) e
  · exact absurd (e.symm.trans (show tX10_put pc = none from zok_cut h)) (by intro q; cases q)
theorem zo_272 : zokR 272 0 79 = true := by decide +kernel
theorem zp_272 : ∀ (pc : Nat) (ai : zI), zT 272 pc = some ai → zokI 272 pc ai = true := by
  intro pc ai e
  rcases Nat.lt_or_ge pc 79 with h | h
  · exact zok_R zo_272 (Nat.zero_le _) (by omega) e
  · exact absurd (e.symm.trans (show tX10_item pc = none from zok_cut h)) (by intro q; cases q)
theorem zo_273 : zokR 273 0 159 = true := by decide +kernel
theorem zp_273 : ∀ (pc : Nat) (ai : zI), zT 273 pc = some ai → zokI 273 pc ai = true := by
  intro pc ai e
  rcases Nat.lt_or_ge pc 159 with h | h
  · exact zok_R zo_273 (Nat.zero_le _) (by omega) e
  · exact absurd (e.symm.trans (show tX10_copy pc = none from zok_cut h)) (by intro q; cases q)
theorem zo_274 : zokR 274 0 44 = true := by decide +kernel
theorem zp_274 : ∀ (pc : Nat) (ai : zI), zT 274 pc = some ai → zokI 274 pc ai = true := by
  intro pc ai e
  rcases Nat.lt_or_ge pc 44 with h | h
  · exact zok_R zo_274 (Nat.zero_le _) (by omega) e
  · exact absurd (e.symm.trans (show tX10_lacks pc = none from zok_cut h)) (by intro q; cases q)
theorem zo_275 : zokR 275 0 108 = true := by decide +kernel
theorem zp_275 : ∀ (pc : Nat) (ai : zI), zT 275 pc = some ai → zokI 275 pc ai = true := by
  intro pc ai e
  rcases Nat.lt_or_ge pc 108 with h | h
  · exact zok_R zo_275 (Nat.zero_le _) (by omega) e
  · exact absurd (e.symm.trans (show tX10_lay pc = none from zok_cut h)) (by intro q; cases q)
theorem zo_276 : zokR 276 0 131 = true := by decide +kernel
theorem zp_276 : ∀ (pc : Nat) (ai : zI), zT 276 pc = some ai → zokI 276 pc ai = true := by
  intro pc ai e
  rcases Nat.lt_or_ge pc 131 with h | h
  · exact zok_R zo_276 (Nat.zero_le _) (by omega) e
  · exact absurd (e.symm.trans (show tX10_take pc = none from zok_cut h)) (by intro q; cases q)
theorem zo_277 : zokR 277 0 138 = true := by decide +kernel
theorem zp_277 : ∀ (pc : Nat) (ai : zI), zT 277 pc = some ai → zokI 277 pc ai = true := by
  intro pc ai e
  rcases Nat.lt_or_ge pc 138 with h | h
  · exact zok_R zo_277 (Nat.zero_le _) (by omega) e
  · exact absurd (e.symm.trans (show tX10_shelf pc = none from zok_cut h)) (by intro q; cases q)
theorem zo_278 : zokR 278 0 29 = true := by decide +kernel
theorem zp_278 : ∀ (pc : Nat) (ai : zI), zT 278 pc = some ai → zokI 278 pc ai = true := by
  intro pc ai e
  rcases Nat.lt_or_ge pc 29 with h | h
  · exact zok_R zo_278 (Nat.zero_le _) (by omega) e
  · exact absurd (e.symm.trans (show tX10_above pc = none from zok_cut h)) (by intro q; cases q)
theorem zo_279 : zokR 279 0 133 = true := by decide +kernel
theorem zp_279 : ∀ (pc : Nat) (ai : zI), zT 279 pc = some ai → zokI 279 pc ai = true := by
  intro pc ai e
  rcases Nat.lt_or_ge pc 133 with h | h
  · exact zok_R zo_279 (Nat.zero_le _) (by omega) e
  · exact absurd (e.symm.trans (show tX10_taken pc = none from zok_cut h)) (by intro q; cases q)
theorem zo_280 : zokR 280 0 30 = true := by decide +kernel
theorem zp_280 : ∀ (pc : Nat) (ai : zI), zT 280 pc = some ai → zokI 280 pc ai = true := by
  intro pc ai e
  rcases Nat.lt_or_ge pc 30 with h | h
  · exact zok_R zo_280 (Nat.zero_le _) (by omega) e
  · exact absurd (e.symm.trans (show tX10_runs pc = none from zok_cut h)) (by intro q; cases q)
theorem zo_281 : zokR 281 0 111 = true := by decide +kernel
theorem zp_281 : ∀ (pc : Nat) (ai : zI), zT 281 pc = some ai → zokI 281 pc ai = true := by
  intro pc ai e
  rcases Nat.lt_or_ge pc 111 with h | h
  · exact zok_R zo_281 (Nat.zero_le _) (by omega) e
  · exact absurd (e.symm.trans (show tX10_goesAs pc = none from zok_cut h)) (by intro q; cases q)
theorem zo_282 : zokR 282 0 105 = true := by decide +kernel
theorem zp_282 : ∀ (pc : Nat) (ai : zI), zT 282 pc = some ai → zokI 282 pc ai = true := by
  intro pc ai e
  rcases Nat.lt_or_ge pc 105 with h | h
  · exact zok_R zo_282 (Nat.zero_le _) (by omega) e
  · exact absurd (e.symm.trans (show tX10_paysAs pc = none from zok_cut h)) (by intro q; cases q)
theorem zo_283 : zokR 283 0 132 = true := by decide +kernel
theorem zp_283 : ∀ (pc : Nat) (ai : zI), zT 283 pc = some ai → zokI 283 pc ai = true := by
  intro pc ai e
  rcases Nat.lt_or_ge pc 132 with h | h
  · exact zok_R zo_283 (Nat.zero_le _) (by omega) e
  · exact absurd (e.symm.trans (show tX10_tellsAs pc = none from zok_cut h)) (by intro q; cases q)
theorem zo_284 : zokR 284 0 86 = true := by decide +kernel
theorem zp_284 : ∀ (pc : Nat) (ai : zI), zT 284 pc = some ai → zokI 284 pc ai = true := by
  intro pc ai e
  rcases Nat.lt_or_ge pc 86 with h | h
  · exact zok_R zo_284 (Nat.zero_le _) (by omega) e
  · exact absurd (e.symm.trans (show tX10_act pc = none from zok_cut h)) (by intro q; cases q)
theorem zo_285 : zokR 285 0 26 = true := by decide +kernel
theorem zp_285 : ∀ (pc : Nat) (ai : zI), zT 285 pc = some ai → zokI 285 pc ai = true := by
  intro pc ai e
  rcases Nat.lt_or_ge pc 26 with h | h
  · exact zok_R zo_285 (Nat.zero_le _) (by omega) e
  · exact absurd (e.symm.trans (show tX10_trace pc = none from zok_cut h)) (by intro q; cases q)
theorem zo_286 : zokR 286 0 27 = true := by decide +kernel
theorem zp_286 : ∀ (pc : Nat) (ai : zI), zT 286 pc = some ai → zokI 286 pc ai = true := by
  intro pc ai e
  rcases Nat.lt_or_ge pc 27 with h | h
  · exact zok_R zo_286 (Nat.zero_le _) (by omega) e
  · exact absurd (e.symm.trans (show tX10_pointsAll pc = none from zok_cut h)) (by intro q; cases q)
theorem zo_287 : zokR 287 0 115 = true := by decide +kernel
theorem zp_287 : ∀ (pc : Nat) (ai : zI), zT 287 pc = some ai → zokI 287 pc ai = true := by
  intro pc ai e
  rcases Nat.lt_or_ge pc 115 with h | h
  · exact zok_R zo_287 (Nat.zero_le _) (by omega) e
  · exact absurd (e.symm.trans (show tX10_many pc = none from zok_cut h)) (by intro q; cases q)
theorem zo_288 : zokR 288 0 77 = true := by decide +kernel
theorem zp_288 : ∀ (pc : Nat) (ai : zI), zT 288 pc = some ai → zokI 288 pc ai = true := by
  intro pc ai e
  rcases Nat.lt_or_ge pc 77 with h | h
  · exact zok_R zo_288 (Nat.zero_le _) (by omega) e
  · exact absurd (e.symm.trans (show tX10_keep pc = none from zok_cut h)) (by intro q; cases q)
theorem zo_289 : zokR 289 0 89 = true := by decide +kernel
theorem zp_289 : ∀ (pc : Nat) (ai : zI), zT 289 pc = some ai → zokI 289 pc ai = true := by
  intro pc ai e
  rcases Nat.lt_or_ge pc 89 with h | h
  · exact zok_R zo_289 (Nat.zero_le _) (by omega) e
  · exact absurd (e.symm.trans (show tX10_again pc = none from zok_cut h)) (by intro q; cases q)
theorem zo_290 : zokR 290 0 53 = true := by decide +kernel
theorem zp_290 : ∀ (pc : Nat) (ai : zI), zT 290 pc = some ai → zokI 290 pc ai = true := by
  intro pc ai e
  rcases Nat.lt_or_ge pc 53 with h | h
  · exact zok_R zo_290 (Nat.zero_le _) (by omega) e
  · exact absurd (e.symm.trans (show tJ6_bitCount_0f7a4 pc = none from zok_cut h)) (by intro q; cases q)
theorem zo_291 : zokR 291 0 11 = true := by decide +kernel
theorem zp_291 : ∀ (pc : Nat) (ai : zI), zT 291 pc = some ai → zokI 291 pc ai = true := by
  intro pc ai e
  rcases Nat.lt_or_ge pc 11 with h | h
  · exact zok_R zo_291 (Nat.zero_le _) (by omega) e
  · exact absurd (e.symm.trans (show tJ9_max_7cf53 pc = none from zok_cut h)) (by intro q; cases q)
theorem zo_292 : zokR 292 0 11 = true := by decide +kernel
theorem zp_292 : ∀ (pc : Nat) (ai : zI), zT 292 pc = some ai → zokI 292 pc ai = true := by
  intro pc ai e
  rcases Nat.lt_or_ge pc 11 with h | h
  · exact zok_R zo_292 (Nat.zero_le _) (by omega) e
  · exact absurd (e.symm.trans (show tJ9_min_7cf53 pc = none from zok_cut h)) (by intro q; cases q)
theorem zo_293_0 : zokR 293 0 200 = true := by decide +kernel
theorem zo_293_200 : zokR 293 200 200 = true := by decide +kernel
theorem zo_293_400 : zokR 293 400 200 = true := by decide +kernel
theorem zo_293_600 : zokR 293 600 200 = true := by decide +kernel
theorem zo_293_800 : zokR 293 800 200 = true := by decide +kernel
theorem zo_293_1000 : zokR 293 1000 200 = true := by decide +kernel
theorem zo_293_1200 : zokR 293 1200 200 = true := by decide +kernel
theorem zo_293_1400 : zokR 293 1400 200 = true := by decide +kernel
theorem zo_293_1600 : zokR 293 1600 200 = true := by decide +kernel
theorem zo_293_1800 : zokR 293 1800 200 = true := by decide +kernel
theorem zo_293_2000 : zokR 293 2000 18 = true := by decide +kernel
theorem zp_293 : ∀ (pc : Nat) (ai : zI), zT 293 pc = some ai → zokI 293 pc ai = true := by
  intro pc ai e
  rcases Nat.lt_or_ge pc 200 with h | h
  · exact zok_R zo_293_0 (by omega) (by omega) e
  rcases Nat.lt_or_ge pc 400 with h | h
  · exact zok_R zo_293_200 (by omega) (by omega) e
  rcases Nat.lt_or_ge pc 600 with h | h
  · exact zok_R zo_293_400 (by omega) (by omega) e
  rcases Nat.lt_or_ge pc 800 with h | h
  · exact zok_R zo_293_600 (by omega) (by omega) e
  rcases Nat.lt_or_ge pc 1000 with h | h
  · exact zok_R zo_293_800 (by omega) (by omega) e
  rcases Nat.lt_or_ge pc 1200 with h | h
  · exact zok_R zo_293_1000 (by omega) (by omega) e
  rcases Nat.lt_or_ge pc 1400 with h | h
  · exact zok_R zo_293_1200 (by omega) (by omega) e
  rcases Nat.lt_or_ge pc 1600 with h | h
  · exact zok_R zo_293_1400 (by omega) (by omega) e
  rcases Nat.lt_or_ge pc 1800 with h | h
  · exact zok_R zo_293_1600 (by omega) (by omega) e
  rcases Nat.lt_or_ge pc 2000 with h | h
  · exact zok_R zo_293_1800 (by omega) (by omega) e
  rcases Nat.lt_or_ge pc 2018 with h | h
  · exact zok_R zo_293_2000 (by omega) (by omega) e
  exact absurd (e.symm.trans (show tL_law pc = none from zok_cut h)) (by intro q; cases q)
theorem zok_lt_0 : ∀ mi, mi < 0 → ∀ (pc : Nat) (ai : zI), zT mi pc = some ai → zokI mi pc ai = true := lt_0
theorem zok_lt_21 : ∀ mi, mi < 21 → ∀ (pc : Nat) (ai : zI), zT mi pc = some ai → zokI mi pc ai = true := lt_s (lt_s (lt_s (lt_s (lt_s (lt_s (lt_s (lt_s (lt_s (lt_s (lt_s (lt_s (lt_s (lt_s (lt_s (lt_s (lt_s (lt_s (lt_s (lt_s (lt_s zok_lt_0 zp_0) zp_1) zp_2) zp_3) zp_4) zp_5) zp_6) zp_7) zp_8) zp_9) zp_10) zp_11) zp_12) zp_13) zp_14) zp_15) zp_16) zp_17) zp_18) zp_19) zp_20
theorem zok_lt_42 : ∀ mi, mi < 42 → ∀ (pc : Nat) (ai : zI), zT mi pc = some ai → zokI mi pc ai = true := lt_s (lt_s (lt_s (lt_s (lt_s (lt_s (lt_s (lt_s (lt_s (lt_s (lt_s (lt_s (lt_s (lt_s (lt_s (lt_s (lt_s (lt_s (lt_s (lt_s (lt_s zok_lt_21 zp_21) zp_22) zp_23) zp_24) zp_25) zp_26) zp_27) zp_28) zp_29) zp_30) zp_31) zp_32) zp_33) zp_34) zp_35) zp_36) zp_37) zp_38) zp_39) zp_40) zp_41
theorem zok_lt_63 : ∀ mi, mi < 63 → ∀ (pc : Nat) (ai : zI), zT mi pc = some ai → zokI mi pc ai = true := lt_s (lt_s (lt_s (lt_s (lt_s (lt_s (lt_s (lt_s (lt_s (lt_s (lt_s (lt_s (lt_s (lt_s (lt_s (lt_s (lt_s (lt_s (lt_s (lt_s (lt_s zok_lt_42 zp_42) zp_43) zp_44) zp_45) zp_46) zp_47) zp_48) zp_49) zp_50) zp_51) zp_52) zp_53) zp_54) zp_55) zp_56) zp_57) zp_58) zp_59) zp_60) zp_61) zp_62
theorem zok_lt_84 : ∀ mi, mi < 84 → ∀ (pc : Nat) (ai : zI), zT mi pc = some ai → zokI mi pc ai = true := lt_s (lt_s (lt_s (lt_s (lt_s (lt_s (lt_s (lt_s (lt_s (lt_s (lt_s (lt_s (lt_s (lt_s (lt_s (lt_s (lt_s (lt_s (lt_s (lt_s (lt_s zok_lt_63 zp_63) zp_64) zp_65) zp_66) zp_67) zp_68) zp_69) zp_70) zp_71) zp_72) zp_73) zp_74) zp_75) zp_76) zp_77) zp_78) zp_79) zp_80) zp_81) zp_82) zp_83
theorem zok_lt_105 : ∀ mi, mi < 105 → ∀ (pc : Nat) (ai : zI), zT mi pc = some ai → zokI mi pc ai = true := lt_s (lt_s (lt_s (lt_s (lt_s (lt_s (lt_s (lt_s (lt_s (lt_s (lt_s (lt_s (lt_s (lt_s (lt_s (lt_s (lt_s (lt_s (lt_s (lt_s (lt_s zok_lt_84 zp_84) zp_85) zp_86) zp_87) zp_88) zp_89) zp_90) zp_91) zp_92) zp_93) zp_94) zp_95) zp_96) zp_97) zp_98) zp_99) zp_100) zp_101) zp_102) zp_103) zp_104
theorem zok_lt_126 : ∀ mi, mi < 126 → ∀ (pc : Nat) (ai : zI), zT mi pc = some ai → zokI mi pc ai = true := lt_s (lt_s (lt_s (lt_s (lt_s (lt_s (lt_s (lt_s (lt_s (lt_s (lt_s (lt_s (lt_s (lt_s (lt_s (lt_s (lt_s (lt_s (lt_s (lt_s (lt_s zok_lt_105 zp_105) zp_106) zp_107) zp_108) zp_109) zp_110) zp_111) zp_112) zp_113) zp_114) zp_115) zp_116) zp_117) zp_118) zp_119) zp_120) zp_121) zp_122) zp_123) zp_124) zp_125
theorem zok_lt_147 : ∀ mi, mi < 147 → ∀ (pc : Nat) (ai : zI), zT mi pc = some ai → zokI mi pc ai = true := lt_s (lt_s (lt_s (lt_s (lt_s (lt_s (lt_s (lt_s (lt_s (lt_s (lt_s (lt_s (lt_s (lt_s (lt_s (lt_s (lt_s (lt_s (lt_s (lt_s (lt_s zok_lt_126 zp_126) zp_127) zp_128) zp_129) zp_130) zp_131) zp_132) zp_133) zp_134) zp_135) zp_136) zp_137) zp_138) zp_139) zp_140) zp_141) zp_142) zp_143) zp_144) zp_145) zp_146
theorem zok_lt_168 : ∀ mi, mi < 168 → ∀ (pc : Nat) (ai : zI), zT mi pc = some ai → zokI mi pc ai = true := lt_s (lt_s (lt_s (lt_s (lt_s (lt_s (lt_s (lt_s (lt_s (lt_s (lt_s (lt_s (lt_s (lt_s (lt_s (lt_s (lt_s (lt_s (lt_s (lt_s (lt_s zok_lt_147 zp_147) zp_148) zp_149) zp_150) zp_151) zp_152) zp_153) zp_154) zp_155) zp_156) zp_157) zp_158) zp_159) zp_160) zp_161) zp_162) zp_163) zp_164) zp_165) zp_166) zp_167
theorem zok_lt_189 : ∀ mi, mi < 189 → ∀ (pc : Nat) (ai : zI), zT mi pc = some ai → zokI mi pc ai = true := lt_s (lt_s (lt_s (lt_s (lt_s (lt_s (lt_s (lt_s (lt_s (lt_s (lt_s (lt_s (lt_s (lt_s (lt_s (lt_s (lt_s (lt_s (lt_s (lt_s (lt_s zok_lt_168 zp_168) zp_169) zp_170) zp_171) zp_172) zp_173) zp_174) zp_175) zp_176) zp_177) zp_178) zp_179) zp_180) zp_181) zp_182) zp_183) zp_184) zp_185) zp_186) zp_187) zp_188
theorem zok_lt_210 : ∀ mi, mi < 210 → ∀ (pc : Nat) (ai : zI), zT mi pc = some ai → zokI mi pc ai = true := lt_s (lt_s (lt_s (lt_s (lt_s (lt_s (lt_s (lt_s (lt_s (lt_s (lt_s (lt_s (lt_s (lt_s (lt_s (lt_s (lt_s (lt_s (lt_s (lt_s (lt_s zok_lt_189 zp_189) zp_190) zp_191) zp_192) zp_193) zp_194) zp_195) zp_196) zp_197) zp_198) zp_199) zp_200) zp_201) zp_202) zp_203) zp_204) zp_205) zp_206) zp_207) zp_208) zp_209
theorem zok_lt_231 : ∀ mi, mi < 231 → ∀ (pc : Nat) (ai : zI), zT mi pc = some ai → zokI mi pc ai = true := lt_s (lt_s (lt_s (lt_s (lt_s (lt_s (lt_s (lt_s (lt_s (lt_s (lt_s (lt_s (lt_s (lt_s (lt_s (lt_s (lt_s (lt_s (lt_s (lt_s (lt_s zok_lt_210 zp_210) zp_211) zp_212) zp_213) zp_214) zp_215) zp_216) zp_217) zp_218) zp_219) zp_220) zp_221) zp_222) zp_223) zp_224) zp_225) zp_226) zp_227) zp_228) zp_229) zp_230
theorem zok_lt_252 : ∀ mi, mi < 252 → ∀ (pc : Nat) (ai : zI), zT mi pc = some ai → zokI mi pc ai = true := lt_s (lt_s (lt_s (lt_s (lt_s (lt_s (lt_s (lt_s (lt_s (lt_s (lt_s (lt_s (lt_s (lt_s (lt_s (lt_s (lt_s (lt_s (lt_s (lt_s (lt_s zok_lt_231 zp_231) zp_232) zp_233) zp_234) zp_235) zp_236) zp_237) zp_238) zp_239) zp_240) zp_241) zp_242) zp_243) zp_244) zp_245) zp_246) zp_247) zp_248) zp_249) zp_250) zp_251
theorem zok_lt_273 : ∀ mi, mi < 273 → ∀ (pc : Nat) (ai : zI), zT mi pc = some ai → zokI mi pc ai = true := lt_s (lt_s (lt_s (lt_s (lt_s (lt_s (lt_s (lt_s (lt_s (lt_s (lt_s (lt_s (lt_s (lt_s (lt_s (lt_s (lt_s (lt_s (lt_s (lt_s (lt_s zok_lt_252 zp_252) zp_253) zp_254) zp_255) zp_256) zp_257) zp_258) zp_259) zp_260) zp_261) zp_262) zp_263) zp_264) zp_265) zp_266) zp_267) zp_268) zp_269) zp_270) zp_271) zp_272
theorem zok_lt_294 : ∀ mi, mi < 294 → ∀ (pc : Nat) (ai : zI), zT mi pc = some ai → zokI mi pc ai = true := lt_s (lt_s (lt_s (lt_s (lt_s (lt_s (lt_s (lt_s (lt_s (lt_s (lt_s (lt_s (lt_s (lt_s (lt_s (lt_s (lt_s (lt_s (lt_s (lt_s (lt_s zok_lt_273 zp_273) zp_274) zp_275) zp_276) zp_277) zp_278) zp_279) zp_280) zp_281) zp_282) zp_283) zp_284) zp_285) zp_286) zp_287) zp_288) zp_289) zp_290) zp_291) zp_292) zp_293
theorem zok_hall : ∀ (mi pc : Nat) (ai : zI), zT mi pc = some ai → zokI mi pc ai = true := by
  intro mi pc ai e
  rcases Nat.lt_or_ge mi 294 with h | h
  · exact zok_lt_294 mi h pc ai e
  · have : zT mi pc = none := by
      have hb : Nat.blt mi 294 = false := by
        cases g : Nat.blt mi 294 with
        | false => rfl
        | true => exact absurd (Nat.le_of_ble_eq_true g) (by omega)
      unfold zT
      rw [hb]
      rfl
    rw [this] at e
    cases e
