theorem zp_293 : ∀ (pc : Nat) (ai : zI), zT 293 pc = some ai → zokI 293 pc ai = true := by
  intro pc ai e
  rcases Nat.lt_or_ge pc 50 with h | h
  · exact zok_R zo_293_0 (by omega) (by omega) e
  rcases Nat.lt_or_ge pc 100 with h | h
  · exact zok_R zo_293_50 (by omega) (by omega) e
  rcases Nat.lt_or_ge pc 150 with h | h
  · exact zok_R zo_293_100 (by omega) (by omega) e
  rcases Nat.lt_or_ge pc 200 with h | h
  · exact zok_R zo_293_150 (by omega) (by omega) e
  rcases Nat.lt_or_ge pc 250 with h | h
  · exact zok_R zo_293_200 (by omega) (by omega) e
  rcases Nat.lt_or_ge pc 300 with h | h
  · exact zok_R zo_293_250 (by omega) (by omega) e
  rcases Nat.lt_or_ge pc 350 with h | h
  · exact zok_R zo_293_300 (by omega) (by omega) e
  rcases Nat.lt_or_ge pc 400 with h | h
  · exact zok_R zo_293_350 (by omega) (by omega) e
  rcases Nat.lt_or_ge pc 450 with h | h
  · exact zok_R zo_293_400 (by omega) (by omega) e
  rcases Nat.lt_or_ge pc 500 with h | h
  · exact zok_R zo_293_450 (by omega) (by omega) e
  rcases Nat.lt_or_ge pc 550 with h | h
  · exact zok_R zo_293_500 (by omega) (by omega) e
  rcases Nat.lt_or_ge pc 600 with h | h
  · exact zok_R zo_293_550 (by omega) (by omega) e
  rcases Nat.lt_or_ge pc 650 with h | h
  · exact zok_R zo_293_600 (by omega) (by omega) e
  rcases Nat.lt_or_ge pc 700 with h | h
  · exact zok_R zo_293_650 (by omega) (by omega) e
  rcases Nat.lt_or_ge pc 750 with h | h
  · exact zok_R zo_293_700 (by omega) (by omega) e
  rcases Nat.lt_or_ge pc 800 with h | h
  · exact zok_R zo_293_750 (by omega) (by omega) e
  rcases Nat.lt_or_ge pc 850 with h | h
  · exact zok_R zo_293_800 (by omega) (by omega) e
  rcases Nat.lt_or_ge pc 900 with h | h
  · exact zok_R zo_293_850 (by omega) (by omega) e
  rcases Nat.lt_or_ge pc 950 with h | h
  · exact zok_R zo_293_900 (by omega) (by omega) e
  rcases Nat.lt_or_ge pc 1000 with h | h
  · exact zok_R zo_293_950 (by omega) (by omega) e
  rcases Nat.lt_or_ge pc 1050 with h | h
  · exact zok_R zo_293_1000 (by omega) (by omega) e
  rcases Nat.lt_or_ge pc 1100 with h | h
  · exact zok_R zo_293_1050 (by omega) (by omega) e
  rcases Nat.lt_or_ge pc 1150 with h | h
  · exact zok_R zo_293_1100 (by omega) (by omega) e
  rcases Nat.lt_or_ge pc 1200 with h | h
  · exact zok_R zo_293_1150 (by omega) (by omega) e
  rcases Nat.lt_or_ge pc 1250 with h | h
  · exact zok_R zo_293_1200 (by omega) (by omega) e
  rcases Nat.lt_or_ge pc 1300 with h | h
  · exact zok_R zo_293_1250 (by omega) (by omega) e
  rcases Nat.lt_or_ge pc 1350 with h | h
  · exact zok_R zo_293_1300 (by omega) (by omega) e
  rcases Nat.lt_or_ge pc 1400 with h | h
  · exact zok_R zo_293_1350 (by omega) (by omega) e
  rcases Nat.lt_or_ge pc 1450 with h | h
  · exact zok_R zo_293_1400 (by omega) (by omega) e
  rcases Nat.lt_or_ge pc 1500 with h | h
  · exact zok_R zo_293_1450 (by omega) (by omega) e
  rcases Nat.lt_or_ge pc 1550 with h | h
  · exact zok_R zo_293_1500 (by omega) (by omega) e
  rcases Nat.lt_or_ge pc 1600 with h | h
  · exact zok_R zo_293_1550 (by omega) (by omega) e
  rcases Nat.lt_or_ge pc 1650 with h | h
  · exact zok_R zo_293_1600 (by omega) (by omega) e
  rcases Nat.lt_or_ge pc 1700 with h | h
  · exact zok_R zo_293_1650 (by omega) (by omega) e
  rcases Nat.lt_or_ge pc 1750 with h | h
  · exact zok_R zo_293_1700 (by omega) (by omega) e
  rcases Nat.lt_or_ge pc 1800 with h | h
  · exact zok_R zo_293_1750 (by omega) (by omega) e
  rcases Nat.lt_or_ge pc 1850 with h | h
  · exact zok_R zo_293_1800 (by omega) (by omega) e
  rcases Nat.lt_or_ge pc 1900 with h | h
  · exact zok_R zo_293_1850 (by omega) (by omega) e
  rcases Nat.lt_or_ge pc 1950 with h | h
  · exact zok_R zo_293_1900 (by omega) (by omega) e
  rcases Nat.lt_or_ge pc 2000 with h | h
  · exact zok_R zo_293_1950 (by omega) (by omega) e
  rcases Nat.lt_or_ge pc 2018 with h | h
  · exact zok_R zo_293_2000 (by omega) (by omega) e
  exact absurd (e.symm.trans (show tL_law pc = none from zok_cut h)) (by intro q; cases q)
theorem zok_lt_0 : ∀ mi, mi < 0 → ∀ (pc : Nat) (ai : zI), zT mi pc = some ai → zokI mi pc ai = true := lt_0
theorem zok_lt_21 : ∀ mi, mi < 21 → ∀ (pc : Nat) (ai : zI), zT mi pc = some ai → zokI mi pc ai = true := lt_s (lt_s (lt_s (lt_s (lt_s (lt_s (lt_s (lt_s (lt_s (lt_s (lt_s (lt_s (lt_s (lt_s (lt_s (lt_s (lt_s (lt_s (lt_s (lt_s (lt_s zok_lt_0 zp_0) zp_1) zp_2) zp_3) zp_4) zp_5) zp_6) zp_7) zp_8) zp_9) zp_10) zp_11) zp_12) zp_13) zp_14) zp_15) zp_16) zp_17) zp_18) zp_19) zp_20
theorem zok_lt_42 : ∀ mi, mi < 42 → ∀ (pc : Nat) (ai : zI), zT mi pc = some ai → zokI mi pc ai = true := lt_s (lt_s (lt_s (lt_s (lt_s (lt_s (lt_s (lt_s (lt_s (lt_s (lt_s (lt_s (lt_s (lt_s (lt_s (lt_s (lt_s (lt_s (lt_s (lt_s (lt_s zok_lt_21 zp_21) zp_22) zp_23) zp_24) zp_25) zp_26) zp_27) zp_28) zp_29) zp_30) zp_31) zp_32) zp_33) zp_34) zp_35) zp_36) zp_37) zp_38) zp_39) zp_40) zp_41
theorem zok_lt_63 : ∀ mi, mi < 63 → ∀ (pc : Nat) (ai : zI), zT mi pc = some ai → zokI mi pc ai = true := lt_s (lt_s (lt_s (lt_s (lt_s (lt_s (lt_s (lt_s (lt_s (lt_s (lt_s (lt_s (lt_s (lt_s (lt_s (lt_s (lt_s (lt_s (lt_s (lt_s (lt_s zok_lt_42 zp_42) zp_43) zp_44) zp_45) zp_46) zp_47) zp_48) zp_49) zp_50) zp_51) zp_52) zp_53) zp_54) zp_55) zp_56) zp_57) zp_58) zp_59) zp_60) zp_61) zp_62
theorem zok_lt_84 : ∀ mi, mi < 84 → ∀ (pc : Nat) (ai : zI), zT mi pc = some ai → zokI mi pc ai = true := lt_s (lt_s (lt_s (lt_s (lt_s (lt_s (lt_s (lt_s (lt_s (lt_s (lt_s (lt_s (lt_s (lt_s (lt_s (lt_s (lt_s (lt_s (lt_s (lt_s (lt_s zok_lt_63 zp_63) zp_64) zp_65) zp_66) zp_67) zp_68) zp_69) zp_70) zp_71) zp_72) zp_73) zp_74) zp_75) zp_76) zp_77) zp_78) zp_79) zp_80) zp_81) zp_82) zp_83
theorem zok_lt_105 : ∀ mi, mi < 105 → ∀ (pc : Nat) (ai : zI), zT mi pc = some ai → zokI mi pc ai = true := lt_s (lt_s (lt_s (lt_s (lt_s (lt_s (lt_s (lt_s (lt_s (lt_s (lt_s (lt_s (lt_s (lt_s (lt_s (lt_s (lt_s (lt_s (lt_s (lt_s (lt_s zok_lt_84 zp_84) zp_85) zp_86) zp_87) zp_88) zp_89) zp_90) zp_91) zp_92) zp_93) zp_94) zp_95) zp_96) zp_97) zp_98) zp_99) zp_100) zp_101) zp_102) zp_103) zp_104
theorem zok_lt_126 : ∀ mi, mi < 126 → ∀ (pc : Nat) (ai : zI), zT mi pc = some ai → zokI mi pc ai = true := lt_s (lt_s (lt_s (lt_s (lt_s (lt_s (lt_s (lt_s (lt_s (lt_s (lt_s (lt_s (lt_s (lt_s (lt_s (lt_s (lt_s (lt_s (lt_s (lt_s (lt_s zok_lt_105 zp_105) zp_106) zp_107) zp_108) zp_109) zp_110) zp_111) zp_112) zp_113) zp_114) zp_115) zp_116) zp_117) zp_118) zp_119) zp_120) zp_121) zp_122) zp_123) zp_124) zp_125
theorem zok_lt_147 : ∀ mi, mi < 147 → ∀ (pc : Nat) (ai : zI), zT mi pc = some ai → zokI mi pc ai = true := lt_s (lt_s (lt_s (lt_s (lt_s (lt_s (lt_s (lt_s (lt_s (lt_s (lt_s (lt_s (lt_s (lt_s (lt_s (lt_s (lt_s (lt_s (lt_s (lt_s (lt_s zok_lt_126 zp_126) zp_127) zp_128) zp_129) zp_130) zp_131) zp_132) zp_133) zp_134) zp_135) zp_136) zp_137) zp_138) zp_139) zp_140) zp_141) zp_142) zp_143) zp_144) zp_145) zp_146
theorem zok_lt_168 : ∀ mi, mi < 168 → ∀ (pc : Nat) (ai : zI), zT mi pc = some ai → zokI mi pc ai = true := lt_s (lt_s (lt_s (lt_s (lt_s (lt_s (lt_s (lt_s (lt_s (lt_s (lt_s (lt_s (lt_s (lt_s (lt_s (lt_s (lt_s (lt_s (lt_s (lt_s (lt_s zok_lt_147 zp_147) zp_148) zp_149) zp_150) zp_151) zp_152) zp_153) zp_154) zp_155) zp_156) zp_157) zp_158) zp_159) zp_160) zp_161) zp_162) zp_163) zp_164) zp_165) zp_166) zp_167
theorem zok_lt_189 : ∀ mi, mi < 189 → ∀ (pc : Nat) (ai : zI), zT mi pc = some ai → zokI mi pc ai = true := lt_s (lt_s (lt_s (lt_s (lt_s (lt_s (lt_s (lt_s (lt_s (lt_s (lt_s (lt_s (lt_s (lt_s (lt_s (lt_s (lt_s (lt_s (lt_s (lt_s (lt_s zok_lt_168 zp_168) zp_169) zp_170) zp_171) zp_172) zp_173) zp_174) zp_175) zp_176) zp_177) zp_178) zp_179) zp_180) zp_181) zp_182) zp_183) zp_184) zp_185) zp_186) zp_187) zp_188
theorem zok_lt_210 : ∀ mi, mi < 210 → ∀ (pc : Nat) (ai : zI), zT mi pc = some ai → zokI mi pc ai = true := lt_s (lt_s (lt_s (lt_s (lt_s (lt_s (lt_s (lt_s (lt_s (lt_s (lt_s (lt_s (lt_s (lt_s (lt_s (lt_s (lt_s (lt_s (lt_s (lt_s (lt_s zok_lt_189 zp_189) zp_190) zp_191) zp_192) zp_193) zp_194) zp_195) zp_196) zp_197) zp_198) zp_199) zp_200) zp_201) zp_202) zp_203) zp_204) zp_205) zp_206) zp_207) zp_208) zp_209
theorem zok_lt_231 : ∀ mi, mi < 231 → ∀ (pc : Nat) (ai : zI), zT mi pc = some ai → zokI mi pc ai = true := lt_s (lt_s (lt_s (lt_s (lt_s (lt_s (lt_s (lt_s (lt_s (lt_s (lt_s (lt_s (lt_s (lt_s (lt_s (lt_s (lt_s (lt_s (lt_s (lt_s (lt_s zok_lt_210 zp_210) zp_211) zp_212) zp_213) zp_214) zp_215) zp_216) zp_217) zp_218) zp_219) zp_220) zp_221) zp_222) zp_223) zp_224) zp_225) zp_226) zp_227) zp_228) zp_229) zp_230
theorem zok_lt_252 : ∀ mi, mi < 252 → ∀ (pc : Nat) (ai : zI), zT mi pc = some ai → zokI mi pc ai = true := lt_s (lt_s (lt_s (lt_s (lt_s (lt_s (lt_s (lt_s (lt_s (lt_s (lt_s (lt_s (lt_s (lt_s (lt_s (lt_s (lt_s (lt_s (lt_s (lt_s (lt_s zok_lt_231 zp_231) zp_232) zp_233) zp_234) zp_235) zp_236) zp_237) zp_238) zp_239) zp_240) zp_241) zp_242) zp_243) zp_244) zp_245) zp_246) zp_247) zp_248) zp_249) zp_250) zp_251
theorem zok_lt_273 : ∀ mi, mi < 273 → ∀ (pc : Nat) (ai : zI), zT mi pc = some ai → zokI mi pc ai = true := lt_s (lt_s (lt_s (lt_s (lt_s (lt_s (lt_s (lt_s (lt_s (lt_s (lt_s (lt_s (lt_s (lt_s (lt_s (lt_s (lt_s (lt_s (lt_s (lt_s (lt_s zok_lt_252 zp_252) zp_253) zp_254) zp_255) zp_256) zp_257) zp_258) zp_259) zp_260) zp_261) zp_262) zp_263) zp_264) zp_265) zp_266) zp_267) zp_268) zp_269) zp_270) zp_271) zp_272
theorem zok_lt_294 : ∀ mi, mi < 294 → ∀ (pc : Nat) (ai : zI), zT mi pc = some ai → zokI mi pc ai = true := lt_s (lt_s (lt_s (lt_s (lt_s (lt_s (lt_s (lt_s (lt_s (lt_s (lt_s (lt_s (lt_s (lt_s (lt_s (lt_s (lt_s (lt_s (lt_s (lt_s (lt_s zok_lt_273 zp_273) zp_274) zp_275) zp_276) zp_277) zp_278) zp_279) zp_280) zp_281) zp_282) zp_283) zp_284) zp_285) zp_286) zp_287) zp_288) zp_289) zp_290) zp_291) zp_292) zp_293
theorem zok_hall : ∀ (mi pc : Nat) (ai : zI), zT mi pc = some ai → zokI mi pc ai = true := by
  intro mi pc ai e
  rcases Nat.lt_or_ge mi 294 with h | h
  · exact zok_lt_294 mi h pc ai e
  · have : zT mi pc = none := by
      have hb : Nat.blt mi 294 = false := by
        cases g : Nat.blt mi 294 with
        | false => rfl
        | true => exact absurd (Nat.le_of_ble_eq_true g) (by omega)
      unfold zT
      rw [hb]
      rfl
    rw [this] at e
    cases e
