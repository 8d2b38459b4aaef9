theorem zp_223 : ∀ (pc : Nat) (ai : zI), zT 223 pc = some ai → zokI 223 pc ai = true := by
  intro pc ai e
  rcases Nat.lt_or_ge pc 74 with h | h
  · exact zok_R zo_223 (Nat.zero_le _) (by omega) e
  · exact absurd (e.symm.trans (show tX10_same pc = none from zok_cut h)) (by intro q; cases q)
theorem zo_224 : zokR 224 0 19 = true := by decide +kernel
theorem zp_224 : ∀ (pc : Nat) (ai : zI), zT 224 pc = some ai → zokI 224 pc ai = true := by
  intro pc ai e
  rcases Nat.lt_or_ge pc 19 with h | h
  · exact zok_R zo_224 (Nat.zero_le _) (by omega) e
  · exact absurd (e.symm.trans (show tX10_bitOf pc = none from zok_cut h)) (by intro q; cases q)
theorem zo_225 : zokR 225 0 179 = true := by decide +kernel
theorem zp_225 : ∀ (pc : Nat) (ai : zI), zT 225 pc = some ai → zokI 225 pc ai = true := by
  intro pc ai e
  rcases Nat.lt_or_ge pc 179 with h | h
  · exact zok_R zo_225 (Nat.zero_le _) (by omega) e
  · exact absurd (e.symm.trans (show tX10_numbersFrom pc = none from zok_cut h)) (by intro q; cases q)
theorem zo_226 : zokR 226 0 23 = true := by decide +kernel
theorem zp_226 : ∀ (pc : Nat) (ai : zI), zT 226 pc = some ai → zokI 226 pc ai = true := by
  intro pc ai e
  rcases Nat.lt_or_ge pc 23 with h | h
  · exact zok_R zo_226 (Nat.zero_le _) (by omega) e
  · exact absurd (e.symm.trans (show tX10_formOf pc = none from zok_cut h)) (by intro q; cases q)
theorem zo_227 : zokR 227 0 27 = true := by decide +kernel
theorem zp_227 : ∀ (pc : Nat) (ai : zI), zT 227 pc = some ai → zokI 227 pc ai = true := by
  intro pc ai e
  rcases Nat.lt_or_ge pc 27 with h | h
  · exact zok_R zo_227 (Nat.zero_le _) (by omega) e
  · exact absurd (e.symm.trans (show tX10_form pc = none from zok_cut h)) (by intro q; cases q)
theorem zo_228 : zokR 228 0 184 = true := by decide +kernel
theorem zp_228 : ∀ (pc : Nat) (ai : zI), zT 228 pc = some ai → zokI 228 pc ai = true := by
  intro pc ai e
  rcases Nat.lt_or_ge pc 184 with h | h
  · exact zok_R zo_228 (Nat.zero_le _) (by omega) e
  · exact absurd (e.symm.trans (show tX10_isCode pc = none from zok_cut h)) (by intro q; cases q)
theorem zo_229 : zokR 229 0 72 = true := by decide +kernel
theorem zp_229 : ∀ (pc : Nat) (ai : zI), zT 229 pc = some ai → zokI 229 pc ai = true := by
  intro pc ai e
  rcases Nat.lt_or_ge pc 72 with h | h
  · exact zok_R zo_229 (Nat.zero_le _) (by omega) e
  · exact absurd (e.symm.trans (show tX10_byCode pc = none from zok_cut h)) (by intro q; cases q)
theorem zo_230 : zokR 230 0 116 = true := by decide +kernel
theorem zp_230 : ∀ (pc : Nat) (ai : zI), zT 230 pc = some ai → zokI 230 pc ai = true := by
  intro pc ai e
  rcases Nat.lt_or_ge pc 116 with h | h
  · exact zok_R zo_230 (Nat.zero_le _) (by omega) e
  · exact absurd (e.symm.trans (show tX10_list pc = none from zok_cut h)) (by intro q; cases q)
theorem zo_231 : zokR 231 0 63 = true := by decide +kernel
theorem zp_231 : ∀ (pc : Nat) (ai : zI), zT 231 pc = some ai → zokI 231 pc ai = true := by
  intro pc ai e
  rcases Nat.lt_or_ge pc 63 with h | h
  · exact zok_R zo_231 (Nat.zero_le _) (by omega) e
  · exact absurd (e.symm.trans (show tX10_codesOf pc = none from zok_cut h)) (by intro q; cases q)
theorem zo_232 : zokR 232 0 132 = true := by decide +kernel
theorem zp_232 : ∀ (pc : Nat) (ai : zI), zT 232 pc = some ai → zokI 232 pc ai = true := by
  intro pc ai e
  rcases Nat.lt_or_ge pc 132 with h | h
  · exact zok_R zo_232 (Nat.zero_le _) (by omega) e
  · exact absurd (e.symm.trans (show tX10_listed pc = none from zok_cut h)) (by intro q; cases q)
theorem zo_233 : zokR 233 0 9 = true := by decide +kernel
theorem zp_233 : ∀ (pc : Nat) (ai : zI), zT 233 pc = some ai → zokI 233 pc ai = true := by
  intro pc ai e
  rcases Nat.lt_or_ge pc 9 with h | h
  · exact zok_R zo_233 (Nat.zero_le _) (by omega) e
  · exact absurd (e.symm.trans (show tX10_imageOf pc = none from zok_cut h)) (by intro q; cases q)
theorem zo_234 : zokR 234 0 74 = true := by decide +kernel
theorem zp_234 : ∀ (pc : Nat) (ai : zI), zT 234 pc = some ai → zokI 234 pc ai = true := by
  intro pc ai e
  rcases Nat.lt_or_ge pc 74 with h | h
  · exact zok_R zo_234 (Nat.zero_le _) (by omega) e
  · exact absurd (e.symm.trans (show tX10_isMap pc = none from zok_cut h)) (by intro q; cases q)
theorem zo_235 : zokR 235 0 101 = true := by decide +kernel
theorem zp_235 : ∀ (pc : Nat) (ai : zI), zT 235 pc = some ai → zokI 235 pc ai = true := by
  intro pc ai e
  rcases Nat.lt_or_ge pc 101 with h | h
  · exact zok_R zo_235 (Nat.zero_le _) (by omega) e
  · exact absurd (e.symm.trans (show tX10_tearsBy pc = none from zok_cut h)) (by intro q; cases q)
theorem zo_236 : zokR 236 0 36 = true := by decide +kernel
theorem zp_236 : ∀ (pc : Nat) (ai : zI), zT 236 pc = some ai → zokI 236 pc ai = true := by
  intro pc ai e
  rcases Nat.lt_or_ge pc 36 with h | h
  · exact zok_R zo_236 (Nat.zero_le _) (by omega) e
  · exact absurd (e.symm.trans (show tX10_tears pc = none from zok_cut h)) (by intro q; cases q)
theorem zo_237 : zokR 237 0 84 = true := by decide +kernel
theorem zp_237 : ∀ (pc : Nat) (ai : zI), zT 237 pc = some ai → zokI 237 pc ai = true := by
  intro pc ai e
  rcases Nat.lt_or_ge pc 84 with h | h
  · exact zok_R zo_237 (Nat.zero_le _) (by omega) e
  · exact absurd (e.symm.trans (show tX10_maps pc = none from zok_cut h)) (by intro q; cases q)
theorem zo_238 : zokR 238 0 124 = true := by decide +kernel
theorem zp_238 : ∀ (pc : Nat) (ai : zI), zT 238 pc = some ai → zokI 238 pc ai = true := by
  intro pc ai e
  rcases Nat.lt_or_ge pc 124 with h | h
  · exact zok_R zo_238 (Nat.zero_le _) (by omega) e
  · exact absurd (e.symm.trans (show tX10_isBeside pc = none from zok_cut h)) (by intro q; cases q)
theorem zo_239 : zokR 239 0 26 = true := by decide +kernel
theorem zp_239 : ∀ (pc : Nat) (ai : zI), zT 239 pc = some ai → zokI 239 pc ai = true := by
  intro pc ai e
  rcases Nat.lt_or_ge pc 26 with h | h
  · exact zok_R zo_239 (Nat.zero_le _) (by omega) e
  · exact absurd (e.symm.trans (show tX10_isWhole pc = none from zok_cut h)) (by intro q; cases q)
theorem zo_240 : zokR 240 0 244 = true := by decide +kernel
theorem zp_240 : ∀ (pc : Nat) (ai : zI), zT 240 pc = some ai → zokI 240 pc ai = true := by
  intro pc ai e
  rcases Nat.lt_or_ge pc 244 with h | h
  · exact zok_R zo_240 (Nat.zero_le _) (by omega) e
  · exact absurd (e.symm.trans (show tX10_fence pc = none from zok_cut h)) (by intro q; cases q)
theorem zo_241 : zokR 241 0 65 = true := by decide +kernel
theorem zp_241 : ∀ (pc : Nat) (ai : zI), zT 241 pc = some ai → zokI 241 pc ai = true := by
  intro pc ai e
  rcases Nat.lt_or_ge pc 65 with h | h
  · exact zok_R zo_241 (Nat.zero_le _) (by omega) e
  · exact absurd (e.symm.trans (show tX10_fixed pc = none from zok_cut h)) (by intro q; cases q)
theorem zo_242 : zokR 242 0 50 = true := by decide +kernel
theorem zp_242 : ∀ (pc : Nat) (ai : zI), zT 242 pc = some ai → zokI 242 pc ai = true := by
  intro pc ai e
  rcases Nat.lt_or_ge pc 50 with h | h
  · exact zok_R zo_242 (Nat.zero_le _) (by omega) e
  · exact absurd (e.symm.trans (show tX10_firsts pc = none from zok_cut h)) (by intro q; cases q)
theorem zo_243 : zokR 243 0 96 = true := by decide +kernel
theorem zp_243 : ∀ (pc : Nat) (ai : zI), zT 243 pc = some ai → zokI 243 pc ai = true := by
  intro pc ai e
  rcases Nat.lt_or_ge pc 96 with h | h
  · exact zok_R zo_243 (Nat.zero_le _) (by omega) e
  · exact absurd (e.symm.trans (show tX10_isChain pc = none from zok_cut h)) (by intro q; cases q)
theorem zo_244 : zokR 244 0 50 = true := by decide +kernel
theorem zp_244 : ∀ (pc : Nat) (ai : zI), zT 244 pc = some ai → zokI 244 pc ai = true := by
  intro pc ai e
  rcases Nat.lt_or_ge pc 50 with h | h
  · exact zok_R zo_244 (Nat.zero_le _) (by omega) e
  · exact absurd (e.symm.trans (show tX10_chainsOf pc = none from zok_cut h)) (by intro q; cases q)
theorem zo_245 : zokR 245 0 28 = true := by decide +kernel
theorem zp_245 : ∀ (pc : Nat) (ai : zI), zT 245 pc = some ai → zokI 245 pc ai = true := by
  intro pc ai e
  rcases Nat.lt_or_ge pc 28 with h | h
  · exact zok_R zo_245 (Nat.zero_le _) (by omega) e
  · exact absurd (e.symm.trans (show tX10_chains pc = none from zok_cut h)) (by intro q; cases q)
theorem zo_246 : zokR 246 0 55 = true := by decide +kernel
theorem zp_246 : ∀ (pc : Nat) (ai : zI), zT 246 pc = some ai → zokI 246 pc ai = true := by
  intro pc ai e
  rcases Nat.lt_or_ge pc 55 with h | h
  · exact zok_R zo_246 (Nat.zero_le _) (by omega) e
  · exact absurd (e.symm.trans (show tX10_euler pc = none from zok_cut h)) (by intro q; cases q)
theorem zo_247 : zokR 247 0 53 = true := by decide +kernel
theorem zp_247 : ∀ (pc : Nat) (ai : zI), zT 247 pc = some ai → zokI 247 pc ai = true := by
  intro pc ai e
  rcases Nat.lt_or_ge pc 53 with h | h
  · exact zok_R zo_247 (Nat.zero_le _) (by omega) e
  · exact absurd (e.symm.trans (show tX10_findsChains pc = none from zok_cut h)) (by intro q; cases q)
theorem zo_248 : zokR 248 0 183 = true := by decide +kernel
theorem zp_248 : ∀ (pc : Nat) (ai : zI), zT 248 pc = some ai → zokI 248 pc ai = true := by
  intro pc ai e
  rcases Nat.lt_or_ge pc 183 with h | h
  · exact zok_R zo_248 (Nat.zero_le _) (by omega) e
  · exact absurd (e.symm.trans (show tX10_rankOf pc = none from zok_cut h)) (by intro q; cases q)
theorem zo_249 : zokR 249 0 57 = true := by decide +kernel
theorem zp_249 : ∀ (pc : Nat) (ai : zI), zT 249 pc = some ai → zokI 249 pc ai = true := by
  intro pc ai e
  rcases Nat.lt_or_ge pc 57 with h | h
  · exact zok_R zo_249 (Nat.zero_le _) (by omega) e
  · exact absurd (e.symm.trans (show tX10_holes pc = none from zok_cut h)) (by intro q; cases q)
theorem zo_250 : zokR 250 0 36 = true := by decide +kernel
theorem zp_250 : ∀ (pc : Nat) (ai : zI), zT 250 pc = some ai → zokI 250 pc ai = true := by
  intro pc ai e
  rcases Nat.lt_or_ge pc 36 with h | h
  · exact zok_R zo_250 (Nat.zero_le _) (by omega) e
  · exact absurd (e.symm.trans (show tX10_toldSets pc = none from zok_cut h)) (by intro q; cases q)
theorem zo_251 : zokR 251 0 157 = true := by decide +kernel
theorem zp_251 : ∀ (pc : Nat) (ai : zI), zT 251 pc = some ai → zokI 251 pc ai = true := by
  intro pc ai e
  rcases Nat.lt_or_ge pc 157 with h | h
  · exact zok_R zo_251 (Nat.zero_le _) (by omega) e
  · exact absurd (e.symm.trans (show tX10_becomesSets pc = none from zok_cut h)) (by intro q; cases q)
theorem zo_252 : zokR 252 0 66 = true := by decide +kernel
theorem zp_252 : ∀ (pc : Nat) (ai : zI), zT 252 pc = some ai → zokI 252 pc ai = true := by
  intro pc ai e
  rcases Nat.lt_or_ge pc 66 with h | h
  · exact zok_R zo_252 (Nat.zero_le _) (by omega) e
  · exact absurd (e.symm.trans (show tX10_divide pc = none from zok_cut h)) (by intro q; cases q)
theorem zo_253 : zokR 253 0 234 = true := by decide +kernel
theorem zp_253 : ∀ (pc : Nat) (ai : zI), zT 253 pc = some ai → zokI 253 pc ai = true := by
  intro pc ai e
  rcases Nat.lt_or_ge pc 234 with h | h
  · exact zok_R zo_253 (Nat.zero_le _) (by omega) e
  · exact absurd (e.symm.trans (show tX10_faces pc = none from zok_cut h)) (by intro q; cases q)
theorem zo_254 : zokR 254 0 104 = true := by decide +kernel
theorem zp_254 : ∀ (pc : Nat) (ai : zI), zT 254 pc = some ai → zokI 254 pc ai = true := by
  intro pc ai e
  rcases Nat.lt_or_ge pc 104 with h | h
  · exact zok_R zo_254 (Nat.zero_le _) (by omega) e
  · exact absurd (e.symm.trans (show tX10_manyMade pc = none from zok_cut h)) (by intro q; cases q)
theorem zo_255 : zokR 255 0 223 = true := by decide +kernel
theorem zp_255 : ∀ (pc : Nat) (ai : zI), zT 255 pc = some ai → zokI 255 pc ai = true := by
  intro pc ai e
  rcases Nat.lt_or_ge pc 223 with h | h
  · exact zok_R zo_255 (Nat.zero_le _) (by omega) e
  · exact absurd (e.symm.trans (show tX10_lowMade pc = none from zok_cut h)) (by intro q; cases q)
theorem zo_256 : zokR 256 0 143 = true := by decide +kernel
theorem zp_256 : ∀ (pc : Nat) (ai : zI), zT 256 pc = some ai → zokI 256 pc ai = true := by
  intro pc ai e
  rcases Nat.lt_or_ge pc 143 with h | h
  · exact zok_R zo_256 (Nat.zero_le _) (by omega) e
  · exact absurd (e.symm.trans (show tX10_made pc = none from zok_cut h)) (by intro q; cases q)
theorem zo_257 : zokR 257 0 39 = true := by decide +kernel
theorem zp_257 : ∀ (pc : Nat) (ai : zI), zT 257 pc = some ai → zokI 257 pc ai = true := by
  intro pc ai e
  rcases Nat.lt_or_ge pc 39 with h | h
  · exact zok_R zo_257 (Nat.zero_le _) (by omega) e
  · exact absurd (e.symm.trans (show tX10_part pc = none from zok_cut h)) (by intro q; cases q)
theorem zo_258 : zokR 258 0 77 = true := by decide +kernel
theorem zp_258 : ∀ (pc : Nat) (ai : zI), zT 258 pc = some ai → zokI 258 pc ai = true := by
  intro pc ai e
  rcases Nat.lt_or_ge pc 77 with h | h
  · exact zok_R zo_258 (Nat.zero_le _) (by omega) e
  · exact absurd (e.symm.trans (show tX10_feed pc = none from zok_cut h)) (by intro q; cases q)
theorem zo_259 : zokR 259 0 63 = true := by decide +kernel
theorem zp_259 : ∀ (pc : Nat) (ai : zI), zT 259 pc = some ai → zokI 259 pc ai = true := by
  intro pc ai e
  rcases Nat.lt_or_ge pc 63 with h | h
  · exact zok_R zo_259 (Nat.zero_le _) (by omega) e
  · exact absurd (e.symm.trans (show tX10_here pc = none from zok_cut h)) (by intro q; cases q)
theorem zo_260 : zokR 260 0 22 = true := by decide +kernel
theorem zp_260 : ∀ (pc : Nat) (ai : zI), zT 260 pc = some ai → zokI 260 pc ai = true := by
  intro pc ai e
  rcases Nat.lt_or_ge pc 22 with h | h
  · exact zok_R zo_260 (Nat.zero_le _) (by omega) e
  · exact absurd (e.symm.trans (show tX10_takes pc = none from zok_cut h)) (by intro q; cases q)
theorem zo_261 : zokR 261 0 38 = true := by decide +kernel
theorem zp_261 : ∀ (pc : Nat) (ai : zI), zT 261 pc = some ai → zokI 261 pc ai = true := by
  intro pc ai e
  rcases Nat.lt_or_ge pc 38 with h | h
  · exact zok_R zo_261 (Nat.zero_le _) (by omega) e
  · exact absurd (e.symm.trans (show tX10_digit pc = none from zok_cut h)) (by intro q; cases q)
theorem zo_262 : zokR 262 0 134 = true := by decide +kernel
theorem zp_262 : ∀ (pc : Nat) (ai : zI), zT 262 pc = some ai → zokI 262 pc ai = true := by
  intro pc ai e
  rcases Nat.lt_or_ge pc 134 with h | h
  · exact zok_R zo_262 (Nat.zero_le _) (by omega) e
  · exact absurd (e.symm.trans (show tX10_readsItem pc = none from zok_cut h)) (by intro q; cases q)
theorem zo_263 : zokR 263 0 53 = true := by decide +kernel
theorem zp_263 : ∀ (pc : Nat) (ai : zI), zT 263 pc = some ai → zokI 263 pc ai = true := by
  intro pc ai e
  rcases Nat.lt_or_ge pc 53 with h | h
  · exact zok_R zo_263 (Nat.zero_le _) (by omega) e
  · exact absurd (e.symm.trans (show tX10_readsSpace pc = none from zok_cut h)) (by intro q; cases q)
theorem zo_264 : zokR 264 0 66 = true := by decide +kernel
theorem zp_264 : ∀ (pc : Nat) (ai : zI), zT 264 pc = some ai → zokI 264 pc ai = true := by
  intro pc ai e
  rcases Nat.lt_or_ge pc 66 with h | h
  · exact zok_R zo_264 (Nat.zero_le _) (by omega) e
  · exact absurd (e.symm.trans (show tX10_space pc = none from zok_cut h)) (by intro q; cases q)
theorem zo_265 : zokR 265 0 12 = true := by decide +kernel
theorem zp_265 : ∀ (pc : Nat) (ai : zI), zT 265 pc = some ai → zokI 265 pc ai = true := by
  intro pc ai e
  rcases Nat.lt_or_ge pc 12 with h | h
  · exact zok_R zo_265 (Nat.zero_le _) (by omega) e
  · exact absurd (e.symm.trans (show tX10_seed pc = none from zok_cut h)) (by intro q; cases q)
theorem zo_266 : zokR 266 0 123 = true := by decide +kernel
theorem zp_266 : ∀ (pc : Nat) (ai : zI), zT 266 pc = some ai → zokI 266 pc ai = true := by
  intro pc ai e
  rcases Nat.lt_or_ge pc 123 with h | h
  · exact zok_R zo_266 (Nat.zero_le _) (by omega) e
  · exact absurd (e.symm.trans (show tX10_draw pc = none from zok_cut h)) (by intro q; cases q)
theorem zo_267 : zokR 267 0 7 = true := by decide +kernel
theorem zp_267 : ∀ (pc : Nat) (ai : zI), zT 267 pc = some ai → zokI 267 pc ai = true := by
  intro pc ai e
  rcases Nat.lt_or_ge pc 7 with h | h
  · exact zok_R zo_267 (Nat.zero_le _) (by omega) e
  · exact absurd (e.symm.trans (show tX10_isSheet pc = none from zok_cut h)) (by intro q; cases q)
theorem zo_268 : zokR 268 0 30 = true := by decide +kernel
theorem zp_268 : ∀ (pc : Nat) (ai : zI), zT 268 pc = some ai → zokI 268 pc ai = true := by
  intro pc ai e
  rcases Nat.lt_or_ge pc 30 with h | h
  · exact zok_R zo_268 (Nat.zero_le _) (by omega) e
  · exact absurd (e.symm.trans (show tX10_isOutside pc = none from zok_cut h)) (by intro q; cases q)
theorem zo_269 : zokR 269 0 26 = true := by decide +kernel
theorem zp_269 : ∀ (pc : Nat) (ai : zI), zT 269 pc = some ai → zokI 269 pc ai = true := by
  intro pc ai e
  rcases Nat.lt_or_ge pc 26 with h | h
  · exact zok_R zo_269 (Nat.zero_le _) (by omega) e
  · exact absurd (e.symm.trans (show tX10_cut pc = none from zok_cut h)) (by intro q; cases q)
theorem zo_270 : zokR 270 0 92 = true := by decide +kernel
theorem zp_270 : ∀ (pc : Nat) (ai : zI), zT 270 pc = some ai → zokI 270 pc ai = true := by
  intro pc ai e
  rcases Nat.lt_or_ge pc 92 with h | h
  · exact zok_R zo_270 (Nat.zero_le _) (by omega) e
  · exact absurd (e.symm.trans (show tX10_sheet pc = none from zok_cut h)) (by intro q; cases q)
theorem zo_271 : zokR 271 0 64 = true := by decide +kernel
theorem zp_271 : ∀ (pc : Nat) (ai : zI), zT 271 pc = some ai → zokI 271 pc ai = true := by
  intro pc ai e
  rcases Nat.lt_or_ge pc 64 with h | h
  · exact zok_R zo_271 (Nat.zero_le _) (by omega) e
  · exact absurd (e.symm.trans (show tX10_put pc = none from zok_cut h)) (by intro q; cases q)
theorem zo_272 : zokR 272 0 79 = true := by decide +kernel
theorem zp_272 : ∀ (pc : Nat) (ai : zI), zT 272 pc = some ai → zokI 272 pc ai = true := by
  intro pc ai e
  rcases Nat.lt_or_ge pc 79 with h | h
  · exact zok_R zo_272 (Nat.zero_le _) (by omega) e
  · exact absurd (e.symm.trans (show tX10_item pc = none from zok_cut h)) (by intro q; cases q)
theorem zo_273 : zokR 273 0 159 = true := by decide +kernel
theorem zp_273 : ∀ (pc : Nat) (ai : zI), zT 273 pc = some ai → zokI 273 pc ai = true := by
  intro pc ai e
  rcases Nat.lt_or_ge pc 159 with h | h
  · exact zok_R zo_273 (Nat.zero_le _) (by omega) e
  · exact absurd (e.symm.trans (show tX10_copy pc = none from zok_cut h)) (by intro q; cases q)
theorem zo_274 : zokR 274 0 44 = true := by decide +kernel
theorem zp_274 : ∀ (pc : Nat) (ai : zI), zT 274 pc = some ai → zokI 274 pc ai = true := by
  intro pc ai e
  rcases Nat.lt_or_ge pc 44 with h | h
  · exact zok_R zo_274 (Nat.zero_le _) (by omega) e
  · exact absurd (e.symm.trans (show tX10_lacks pc = none from zok_cut h)) (by intro q; cases q)
theorem zo_275 : zokR 275 0 108 = true := by decide +kernel
theorem zp_275 : ∀ (pc : Nat) (ai : zI), zT 275 pc = some ai → zokI 275 pc ai = true := by
  intro pc ai e
  rcases Nat.lt_or_ge pc 108 with h | h
  · exact zok_R zo_275 (Nat.zero_le _) (by omega) e
  · exact absurd (e.symm.trans (show tX10_lay pc = none from zok_cut h)) (by intro q; cases q)
theorem zo_276 : zokR 276 0 131 = true := by decide +kernel
theorem zp_276 : ∀ (pc : Nat) (ai : zI), zT 276 pc = some ai → zokI 276 pc ai = true := by
  intro pc ai e
  rcases Nat.lt_or_ge pc 131 with h | h
  · exact zok_R zo_276 (Nat.zero_le _) (by omega) e
  · exact absurd (e.symm.trans (show tX10_take pc = none from zok_cut h)) (by intro q; cases q)
theorem zo_277 : zokR 277 0 138 = true := by decide +kernel
theorem zp_277 : ∀ (pc : Nat) (ai : zI), zT 277 pc = some ai → zokI 277 pc ai = true := by
  intro pc ai e
  rcases Nat.lt_or_ge pc 138 with h | h
  · exact zok_R zo_277 (Nat.zero_le _) (by omega) e
  · exact absurd (e.symm.trans (show tX10_shelf pc = none from zok_cut h)) (by intro q; cases q)
theorem zo_278 : zokR 278 0 29 = true := by decide +kernel
theorem zp_278 : ∀ (pc : Nat) (ai : zI), zT 278 pc = some ai → zokI 278 pc ai = true := by
  intro pc ai e
  rcases Nat.lt_or_ge pc 29 with h | h
  · exact zok_R zo_278 (Nat.zero_le _) (by omega) e
  · exact absurd (e.symm.trans (show tX10_above pc = none from zok_cut h)) (by intro q; cases q)
theorem zo_279 : zokR 279 0 133 = true := by decide +kernel
theorem zp_279 : ∀ (pc : Nat) (ai : zI), zT 279 pc = some ai → zokI 279 pc ai = true := by
  intro pc ai e
  rcases Nat.lt_or_ge pc 133 with h | h
  · exact zok_R zo_279 (Nat.zero_le _) (by omega) e
  · exact absurd (e.symm.trans (show tX10_taken pc = none from zok_cut h)) (by intro q; cases q)
theorem zo_280 : zokR 280 0 30 = true := by decide +kernel
theorem zp_280 : ∀ (pc : Nat) (ai : zI), zT 280 pc = some ai → zokI 280 pc ai = true := by
  intro pc ai e
  rcases Nat.lt_or_ge pc 30 with h | h
  · exact zok_R zo_280 (Nat.zero_le _) (by omega) e
  · exact absurd (e.symm.trans (show tX10_runs pc = none from zok_cut h)) (by intro q; cases q)
theorem zo_281 : zokR 281 0 111 = true := by decide +kernel
theorem zp_281 : ∀ (pc : Nat) (ai : zI), zT 281 pc = some ai → zokI 281 pc ai = true := by
  intro pc ai e
  rcases Nat.lt_or_ge pc 111 with h | h
  · exact zok_R zo_281 (Nat.zero_le _) (by omega) e
  · exact absurd (e.symm.trans (show tX10_goesAs pc = none from zok_cut h)) (by intro q; cases q)
theorem zo_282 : zokR 282 0 105 = true := by decide +kernel
theorem zp_282 : ∀ (pc : Nat) (ai : zI), zT 282 pc = some ai → zokI 282 pc ai = true := by
  intro pc ai e
  rcases Nat.lt_or_ge pc 105 with h | h
  · exact zok_R zo_282 (Nat.zero_le _) (by omega) e
  · exact absurd (e.symm.trans (show tX10_paysAs pc = none from zok_cut h)) (by intro q; cases q)
theorem zo_283 : zokR 283 0 132 = true := by decide +kernel
theorem zp_283 : ∀ (pc : Nat) (ai : zI), zT 283 pc = some ai → zokI 283 pc ai = true := by
  intro pc ai e
  rcases Nat.lt_or_ge pc 132 with h | h
  · exact zok_R zo_283 (Nat.zero_le _) (by omega) e
  · exact absurd (e.symm.trans (show tX10_tellsAs pc = none from zok_cut h)) (by intro q; cases q)
theorem zo_284 : zokR 284 0 86 = true := by decide +kernel
theorem zp_284 : ∀ (pc : Nat) (ai : zI), zT 284 pc = some ai → zokI 284 pc ai = true := by
  intro pc ai e
  rcases Nat.lt_or_ge pc 86 with h | h
  · exact zok_R zo_284 (Nat.zero_le _) (by omega) e
  · exact absurd (e.symm.trans (show tX10_act pc = none from zok_cut h)) (by intro q; cases q)
theorem zo_285 : zokR 285 0 26 = true := by decide +kernel
theorem zp_285 : ∀ (pc : Nat) (ai : zI), zT 285 pc = some ai → zokI 285 pc ai = true := by
  intro pc ai e
  rcases Nat.lt_or_ge pc 26 with h | h
  · exact zok_R zo_285 (Nat.zero_le _) (by omega) e
  · exact absurd (e.symm.trans (show tX10_trace pc = none from zok_cut h)) (by intro q; cases q)
theorem zo_286 : zokR 286 0 27 = true := by decide +kernel
theorem zp_286 : ∀ (pc : Nat) (ai : zI), zT 286 pc = some ai → zokI 286 pc ai = true := by
  intro pc ai e
  rcases Nat.lt_or_ge pc 27 with h | h
  · exact zok_R zo_286 (Nat.zero_le _) (by omega) e
  · exact absurd (e.symm.trans (show tX10_pointsAll pc = none from zok_cut h)) (by intro q; cases q)
theorem zo_287 : zokR 287 0 115 = true := by decide +kernel
theorem zp_287 : ∀ (pc : Nat) (ai : zI), zT 287 pc = some ai → zokI 287 pc ai = true := by
  intro pc ai e
  rcases Nat.lt_or_ge pc 115 with h | h
  · exact zok_R zo_287 (Nat.zero_le _) (by omega) e
  · exact absurd (e.symm.trans (show tX10_many pc = none from zok_cut h)) (by intro q; cases q)
theorem zo_288 : zokR 288 0 77 = true := by decide +kernel
theorem zp_288 : ∀ (pc : Nat) (ai : zI), zT 288 pc = some ai → zokI 288 pc ai = true := by
  intro pc ai e
  rcases Nat.lt_or_ge pc 77 with h | h
  · exact zok_R zo_288 (Nat.zero_le _) (by omega) e
  · exact absurd (e.symm.trans (show tX10_keep pc = none from zok_cut h)) (by intro q; cases q)
theorem zo_289 : zokR 289 0 89 = true := by decide +kernel
theorem zp_289 : ∀ (pc : Nat) (ai : zI), zT 289 pc = some ai → zokI 289 pc ai = true := by
  intro pc ai e
  rcases Nat.lt_or_ge pc 89 with h | h
  · exact zok_R zo_289 (Nat.zero_le _) (by omega) e
  · exact absurd (e.symm.trans (show tX10_again pc = none from zok_cut h)) (by intro q; cases q)
theorem zo_290 : zokR 290 0 53 = true := by decide +kernel
theorem zp_290 : ∀ (pc : Nat) (ai : zI), zT 290 pc = some ai → zokI 290 pc ai = true := by
  intro pc ai e
  rcases Nat.lt_or_ge pc 53 with h | h
  · exact zok_R zo_290 (Nat.zero_le _) (by omega) e
  · exact absurd (e.symm.trans (show tJ6_bitCount_0f7a4 pc = none from zok_cut h)) (by intro q; cases q)
theorem zo_291 : zokR 291 0 11 = true := by decide +kernel
theorem zp_291 : ∀ (pc : Nat) (ai : zI), zT 291 pc = some ai → zokI 291 pc ai = true := by
  intro pc ai e
  rcases Nat.lt_or_ge pc 11 with h | h
  · exact zok_R zo_291 (Nat.zero_le _) (by omega) e
  · exact absurd (e.symm.trans (show tJ9_max_7cf53 pc = none from zok_cut h)) (by intro q; cases q)
theorem zo_292 : zokR 292 0 11 = true := by decide +kernel
theorem zp_292 : ∀ (pc : Nat) (ai : zI), zT 292 pc = some ai → zokI 292 pc ai = true := by
  intro pc ai e
  rcases Nat.lt_or_ge pc 11 with h | h
  · exact zok_R zo_292 (Nat.zero_le _) (by omega) e
  · exact absurd (e.symm.trans (show tJ9_min_7cf53 pc = none from zok_cut h)) (by intro q; cases q)
