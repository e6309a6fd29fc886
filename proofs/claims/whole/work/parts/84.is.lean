/-! the cells of a Row, a Code, a Shelf at a base -/
/-- a Row at a, with n cells behind it -/
def isRow (a n : Nat) : Prop := SH a = (12, 4, [(2, a + 1), (0, 0), (0, 0), (0, 0)]) ∧ SH (a + 1) = (0, n, [])
/-- a Code at b: 1 lengths, 2 codes, 3 mirrored, 4 ordered, 5 perLength, 6 nextCode, 7 nextPlace, 8 counts, 9 weights, 10 above -/
def isCode (b : Nat) : Prop := SH b = (7, 13, [(2, b + 1), (2, b + 2), (2, b + 3), (2, b + 4), (2, b + 5), (0, 0), (0, 0), (0, 0), (2, b + 6), (2, b + 7), (2, b + 8), (2, b + 9), (2, b + 10)]) ∧ SH (b + 1) = (0, 288, []) ∧ SH (b + 2) = (0, 288, []) ∧ SH (b + 3) = (0, 288, []) ∧ SH (b + 4) = (0, 288, []) ∧ SH (b + 5) = (0, 21, []) ∧ SH (b + 6) = (0, 22, []) ∧ SH (b + 7) = (0, 22, []) ∧ SH (b + 8) = (0, 288, []) ∧ SH (b + 9) = (0, 576, []) ∧ SH (b + 10) = (0, 576, [])
/-- a Shelf at b: 1 names, 2 texts, 3 modes, 4 times, 5 label and 6 its cells, 7 card, 8 heads, 9 methods, 10 stands; 11 + 4 i the name of entry i, 13 + 4 i its text -/
def isShelf (b : Nat) : Prop := SH b = (13, 12, [(2, b + 1), (2, b + 2), (2, b + 3), (2, b + 4), (0, 0), (2, 30), (2, 7), (2, b + 5), (2, b + 7), (2, b + 8), (2, b + 9), (2, b + 10)]) ∧ SH (b + 1) = (4, 16, [(0, b + 11), (0, b + 15), (0, b + 19), (0, b + 23), (0, b + 27), (0, b + 31), (0, b + 35), (0, b + 39), (0, b + 43), (0, b + 47), (0, b + 51), (0, b + 55), (0, b + 59), (0, b + 63), (0, b + 67), (0, b + 71)]) ∧ SH (b + 2) = (4, 16, [(0, b + 13), (0, b + 17), (0, b + 21), (0, b + 25), (0, b + 29), (0, b + 33), (0, b + 37), (0, b + 41), (0, b + 45), (0, b + 49), (0, b + 53), (0, b + 57), (0, b + 61), (0, b + 65), (0, b + 69), (0, b + 73)]) ∧ SH (b + 3) = (0, 16, []) ∧ SH (b + 4) = (0, 16, []) ∧ SH (b + 5) = (12, 4, [(2, b + 6), (0, 0), (0, 0), (0, 0)]) ∧ SH (b + 6) = (0, 100, []) ∧ SH (b + 7) = (0, 512, []) ∧ SH (b + 8) = (0, 16, []) ∧ SH (b + 9) = (0, 16, []) ∧ SH (b + 10) = (0, 16, [])
theorem is_1 : isRow 1 6000 := ⟨sh_1, sh_2⟩
theorem is_5 : isRow 5 100 := ⟨sh_5, sh_6⟩
theorem is_7 : isRow 7 12000 := ⟨sh_7, sh_8⟩
theorem is_31 : isCode 31 := ⟨sh_31, sh_32, sh_33, sh_34, sh_35, sh_36, sh_37, sh_38, sh_39, sh_40, sh_41⟩
theorem is_42 : isCode 42 := ⟨sh_42, sh_43, sh_44, sh_45, sh_46, sh_47, sh_48, sh_49, sh_50, sh_51, sh_52⟩
theorem is_53 : isCode 53 := ⟨sh_53, sh_54, sh_55, sh_56, sh_57, sh_58, sh_59, sh_60, sh_61, sh_62, sh_63⟩
theorem is_64 : isCode 64 := ⟨sh_64, sh_65, sh_66, sh_67, sh_68, sh_69, sh_70, sh_71, sh_72, sh_73, sh_74⟩
theorem is_75 : isCode 75 := ⟨sh_75, sh_76, sh_77, sh_78, sh_79, sh_80, sh_81, sh_82, sh_83, sh_84, sh_85⟩
theorem is_107 : isCode 107 := ⟨sh_107, sh_108, sh_109, sh_110, sh_111, sh_112, sh_113, sh_114, sh_115, sh_116, sh_117⟩
theorem is_118 : isCode 118 := ⟨sh_118, sh_119, sh_120, sh_121, sh_122, sh_123, sh_124, sh_125, sh_126, sh_127, sh_128⟩
theorem is_129 : isCode 129 := ⟨sh_129, sh_130, sh_131, sh_132, sh_133, sh_134, sh_135, sh_136, sh_137, sh_138, sh_139⟩
theorem is_140 : isCode 140 := ⟨sh_140, sh_141, sh_142, sh_143, sh_144, sh_145, sh_146, sh_147, sh_148, sh_149, sh_150⟩
theorem is_151 : isCode 151 := ⟨sh_151, sh_152, sh_153, sh_154, sh_155, sh_156, sh_157, sh_158, sh_159, sh_160, sh_161⟩
theorem is_162 : isCode 162 := ⟨sh_162, sh_163, sh_164, sh_165, sh_166, sh_167, sh_168, sh_169, sh_170, sh_171, sh_172⟩
theorem is_193 : isShelf 193 := ⟨sh_193, sh_194, sh_195, sh_196, sh_197, sh_198, sh_199, sh_200, sh_201, sh_202, sh_203⟩
theorem is_198 : isRow 198 100 := ⟨sh_198, sh_199⟩
theorem is_204 : isRow 204 100 := ⟨sh_204, sh_205⟩
theorem is_206 : isRow 206 6000 := ⟨sh_206, sh_207⟩
theorem is_208 : isRow 208 100 := ⟨sh_208, sh_209⟩
theorem is_210 : isRow 210 6000 := ⟨sh_210, sh_211⟩
theorem is_212 : isRow 212 100 := ⟨sh_212, sh_213⟩
theorem is_214 : isRow 214 6000 := ⟨sh_214, sh_215⟩
theorem is_216 : isRow 216 100 := ⟨sh_216, sh_217⟩
theorem is_218 : isRow 218 6000 := ⟨sh_218, sh_219⟩
theorem is_220 : isRow 220 100 := ⟨sh_220, sh_221⟩
theorem is_222 : isRow 222 6000 := ⟨sh_222, sh_223⟩
theorem is_224 : isRow 224 100 := ⟨sh_224, sh_225⟩
theorem is_226 : isRow 226 6000 := ⟨sh_226, sh_227⟩
theorem is_228 : isRow 228 100 := ⟨sh_228, sh_229⟩
theorem is_230 : isRow 230 6000 := ⟨sh_230, sh_231⟩
theorem is_232 : isRow 232 100 := ⟨sh_232, sh_233⟩
theorem is_234 : isRow 234 6000 := ⟨sh_234, sh_235⟩
theorem is_236 : isRow 236 100 := ⟨sh_236, sh_237⟩
theorem is_238 : isRow 238 6000 := ⟨sh_238, sh_239⟩
theorem is_240 : isRow 240 100 := ⟨sh_240, sh_241⟩
theorem is_242 : isRow 242 6000 := ⟨sh_242, sh_243⟩
theorem is_244 : isRow 244 100 := ⟨sh_244, sh_245⟩
theorem is_246 : isRow 246 6000 := ⟨sh_246, sh_247⟩
theorem is_248 : isRow 248 100 := ⟨sh_248, sh_249⟩
theorem is_250 : isRow 250 6000 := ⟨sh_250, sh_251⟩
theorem is_252 : isRow 252 100 := ⟨sh_252, sh_253⟩
theorem is_254 : isRow 254 6000 := ⟨sh_254, sh_255⟩
theorem is_256 : isRow 256 100 := ⟨sh_256, sh_257⟩
theorem is_258 : isRow 258 6000 := ⟨sh_258, sh_259⟩
theorem is_260 : isRow 260 100 := ⟨sh_260, sh_261⟩
theorem is_262 : isRow 262 6000 := ⟨sh_262, sh_263⟩
theorem is_264 : isRow 264 100 := ⟨sh_264, sh_265⟩
theorem is_266 : isRow 266 6000 := ⟨sh_266, sh_267⟩
theorem is_268 : isShelf 268 := ⟨sh_268, sh_269, sh_270, sh_271, sh_272, sh_273, sh_274, sh_275, sh_276, sh_277, sh_278⟩
theorem is_273 : isRow 273 100 := ⟨sh_273, sh_274⟩
theorem is_279 : isRow 279 100 := ⟨sh_279, sh_280⟩
theorem is_281 : isRow 281 6000 := ⟨sh_281, sh_282⟩
theorem is_283 : isRow 283 100 := ⟨sh_283, sh_284⟩
theorem is_285 : isRow 285 6000 := ⟨sh_285, sh_286⟩
theorem is_287 : isRow 287 100 := ⟨sh_287, sh_288⟩
theorem is_289 : isRow 289 6000 := ⟨sh_289, sh_290⟩
theorem is_291 : isRow 291 100 := ⟨sh_291, sh_292⟩
theorem is_293 : isRow 293 6000 := ⟨sh_293, sh_294⟩
theorem is_295 : isRow 295 100 := ⟨sh_295, sh_296⟩
theorem is_297 : isRow 297 6000 := ⟨sh_297, sh_298⟩
theorem is_299 : isRow 299 100 := ⟨sh_299, sh_300⟩
theorem is_301 : isRow 301 6000 := ⟨sh_301, sh_302⟩
theorem is_303 : isRow 303 100 := ⟨sh_303, sh_304⟩
theorem is_305 : isRow 305 6000 := ⟨sh_305, sh_306⟩
theorem is_307 : isRow 307 100 := ⟨sh_307, sh_308⟩
theorem is_309 : isRow 309 6000 := ⟨sh_309, sh_310⟩
theorem is_311 : isRow 311 100 := ⟨sh_311, sh_312⟩
theorem is_313 : isRow 313 6000 := ⟨sh_313, sh_314⟩
theorem is_315 : isRow 315 100 := ⟨sh_315, sh_316⟩
theorem is_317 : isRow 317 6000 := ⟨sh_317, sh_318⟩
theorem is_319 : isRow 319 100 := ⟨sh_319, sh_320⟩
theorem is_321 : isRow 321 6000 := ⟨sh_321, sh_322⟩
theorem is_323 : isRow 323 100 := ⟨sh_323, sh_324⟩
theorem is_325 : isRow 325 6000 := ⟨sh_325, sh_326⟩
theorem is_327 : isRow 327 100 := ⟨sh_327, sh_328⟩
theorem is_329 : isRow 329 6000 := ⟨sh_329, sh_330⟩
theorem is_331 : isRow 331 100 := ⟨sh_331, sh_332⟩
theorem is_333 : isRow 333 6000 := ⟨sh_333, sh_334⟩
theorem is_335 : isRow 335 100 := ⟨sh_335, sh_336⟩
theorem is_337 : isRow 337 6000 := ⟨sh_337, sh_338⟩
theorem is_339 : isRow 339 100 := ⟨sh_339, sh_340⟩
theorem is_341 : isRow 341 6000 := ⟨sh_341, sh_342⟩
theorem is_343 : isRow 343 12000 := ⟨sh_343, sh_344⟩
theorem is_345 : isRow 345 12000 := ⟨sh_345, sh_346⟩
theorem is_347 : isRow 347 12000 := ⟨sh_347, sh_348⟩
theorem is_349 : isRow 349 12000 := ⟨sh_349, sh_350⟩
theorem is_351 : isRow 351 12000 := ⟨sh_351, sh_352⟩
theorem is_353 : isRow 353 12000 := ⟨sh_353, sh_354⟩
theorem is_355 : isRow 355 12000 := ⟨sh_355, sh_356⟩
theorem is_357 : isRow 357 12000 := ⟨sh_357, sh_358⟩
theorem is_359 : isRow 359 12000 := ⟨sh_359, sh_360⟩
theorem is_361 : isRow 361 12000 := ⟨sh_361, sh_362⟩
theorem is_363 : isRow 363 12000 := ⟨sh_363, sh_364⟩
theorem is_365 : isRow 365 12000 := ⟨sh_365, sh_366⟩
theorem mv_gfV {tb : en_T} {j pc cs ss : Nat} {lv : en_L} {st : List Value} {h' : en_H} {r : Option Value} {S : ms} {f t k n z v : Nat} {fs : List (Nat × Nat)} {a : Nat} (hI : en_pI pg_P j pc = some (.getfield f, 3)) (hF : en_pF pg_P j f = some (t, k)) (hs : SH a = (t + 6, n, fs)) (ht : t < 90) (hk : fs[k]? = some (3, z)) (he : S.2.2 a (k : Int) = v) (kk : en_Ev pg_P tb pg_cr j (pc + 3, lv, .ref v :: st, hp S, cs, ss) r h') : en_Ev pg_P tb pg_cr j (pc, lv, .ref a :: st, hp S, cs, ss) r h' := by
  subst he
  exact mv_gfM hI hF hs ht hk kk
