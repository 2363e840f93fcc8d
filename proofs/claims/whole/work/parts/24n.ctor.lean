/-! the class DioceseBookModel: what it makes -/
/-- the first store of the system 2 -/
def m02 : AM := fun q i => cond (Nat.beq q 0) (cond (decide (i = 32)) (-1) (0)) (0)
def ctZ (cA : Nat → ClassId) (u : Nat → Nat) (n : Nat) : va_W := (List.range n).map fun j => (u (j + 1), aw_e s2_G u cA m02 (j + 1))
theorem ctZ_succ (cA : Nat → ClassId) (u : Nat → Nat) (n : Nat) : ctZ cA u (n + 1) = ctZ cA u n ++ [(u (n + 1), aw_e s2_G u cA m02 (n + 1))] := by unfold ctZ; rw [List.range_succ, List.map_append]; rfl
theorem ctZ_aw (cA : Nat → ClassId) (u : Nat → Nat) (n : Nat) : (u 0, aw_e s2_G u cA m02 0) :: ctZ cA u n = aw s2_G u cA (n + 1) m02 := by unfold aw ctZ; rw [List.range_succ_eq_map, List.map_cons, List.map_map]; rfl
def ctW_Model (cA : Nat → ClassId) (u : Nat → Nat) : va_W := aw s2_G u cA 68 m02
abbrev ctB_Model : ByteArray := prog_14_method_1_code
def ctY_Model : MethodName := ⟨"DioceseBookModel", "<init>", "()V"⟩
def ctE_Model (h0 : Nat) : va_W := [(h0, .inr (12, [.int 0, .int 0, .null, .int 0, .null, .null, .null, .int 0, .null, .null, .null, .null, .null, .null, .null, .null, .null, .int 0, .int 0, .null, .null, .null, .null, .null, .null, .null, .null, .null, .null, .int 0, .int 0, .int 0, .int 0, .int 0, .int 0, .int 0, .null, .int 0, .int 0, .null, .null, .int 0, .int 0, .null, .null, .null, .null, .null, .null, .null, .null, .int 0, .int 0, .null, .null, .null, .null, .int 0, .int 0, .null, .null, .null, .int 0, .int 0, .int 0, .int 0, .int 0, .null, .null, .int 0, .null, .null, .null, .null, .null, .null, .null, .null, .int 0, .null, .null, .null, .null, .null, .null, .null, .null, .null, .null, .int 0, .null, .null, .int 0, .null, .null, .null, .null]))]
theorem ctD_Model_0 : decode ctB_Model 0 = .ok (.aload_n 0, 1) := by decide +kernel
theorem ctD_Model_1 : decode ctB_Model 1 = .ok (.invokespecial 1, 3) := by decide +kernel
theorem ctD_Model_4 : decode ctB_Model 4 = .ok (.aload_n 0, 1) := by decide +kernel
theorem ctD_Model_5 : decode ctB_Model 5 = .ok (.bipush 40, 2) := by decide +kernel
theorem ctD_Model_7 : decode ctB_Model 7 = .ok (.newarray .int, 2) := by decide +kernel
theorem ctD_Model_9 : decode ctB_Model 9 = .ok (.putfield 7, 3) := by decide +kernel
theorem ctD_Model_12 : decode ctB_Model 12 = .ok (.aload_n 0, 1) := by decide +kernel
theorem ctD_Model_13 : decode ctB_Model 13 = .ok (.bipush 12, 2) := by decide +kernel
theorem ctD_Model_15 : decode ctB_Model 15 = .ok (.newarray .int, 2) := by decide +kernel
theorem ctD_Model_17 : decode ctB_Model 17 = .ok (.putfield 13, 3) := by decide +kernel
theorem ctD_Model_20 : decode ctB_Model 20 = .ok (.aload_n 0, 1) := by decide +kernel
theorem ctD_Model_21 : decode ctB_Model 21 = .ok (.bipush 12, 2) := by decide +kernel
theorem ctD_Model_23 : decode ctB_Model 23 = .ok (.newarray .int, 2) := by decide +kernel
theorem ctD_Model_25 : decode ctB_Model 25 = .ok (.putfield 16, 3) := by decide +kernel
theorem ctD_Model_28 : decode ctB_Model 28 = .ok (.aload_n 0, 1) := by decide +kernel
theorem ctD_Model_29 : decode ctB_Model 29 = .ok (.bipush 12, 2) := by decide +kernel
theorem ctD_Model_31 : decode ctB_Model 31 = .ok (.newarray .int, 2) := by decide +kernel
theorem ctD_Model_33 : decode ctB_Model 33 = .ok (.putfield 19, 3) := by decide +kernel
theorem ctD_Model_36 : decode ctB_Model 36 = .ok (.aload_n 0, 1) := by decide +kernel
theorem ctD_Model_37 : decode ctB_Model 37 = .ok (.sipush 150, 3) := by decide +kernel
theorem ctD_Model_40 : decode ctB_Model 40 = .ok (.newarray .int, 2) := by decide +kernel
theorem ctD_Model_42 : decode ctB_Model 42 = .ok (.putfield 22, 3) := by decide +kernel
theorem ctD_Model_45 : decode ctB_Model 45 = .ok (.aload_n 0, 1) := by decide +kernel
theorem ctD_Model_46 : decode ctB_Model 46 = .ok (.sipush 150, 3) := by decide +kernel
theorem ctD_Model_49 : decode ctB_Model 49 = .ok (.newarray .int, 2) := by decide +kernel
theorem ctD_Model_51 : decode ctB_Model 51 = .ok (.putfield 25, 3) := by decide +kernel
theorem ctD_Model_54 : decode ctB_Model 54 = .ok (.aload_n 0, 1) := by decide +kernel
theorem ctD_Model_55 : decode ctB_Model 55 = .ok (.sipush 150, 3) := by decide +kernel
theorem ctD_Model_58 : decode ctB_Model 58 = .ok (.newarray .int, 2) := by decide +kernel
theorem ctD_Model_60 : decode ctB_Model 60 = .ok (.putfield 28, 3) := by decide +kernel
theorem ctD_Model_63 : decode ctB_Model 63 = .ok (.aload_n 0, 1) := by decide +kernel
theorem ctD_Model_64 : decode ctB_Model 64 = .ok (.sipush 150, 3) := by decide +kernel
theorem ctD_Model_67 : decode ctB_Model 67 = .ok (.newarray .int, 2) := by decide +kernel
theorem ctD_Model_69 : decode ctB_Model 69 = .ok (.putfield 31, 3) := by decide +kernel
theorem ctD_Model_72 : decode ctB_Model 72 = .ok (.aload_n 0, 1) := by decide +kernel
theorem ctD_Model_73 : decode ctB_Model 73 = .ok (.sipush 150, 3) := by decide +kernel
theorem ctD_Model_76 : decode ctB_Model 76 = .ok (.newarray .int, 2) := by decide +kernel
theorem ctD_Model_78 : decode ctB_Model 78 = .ok (.putfield 34, 3) := by decide +kernel
theorem ctD_Model_81 : decode ctB_Model 81 = .ok (.aload_n 0, 1) := by decide +kernel
theorem ctD_Model_82 : decode ctB_Model 82 = .ok (.sipush 150, 3) := by decide +kernel
theorem ctD_Model_85 : decode ctB_Model 85 = .ok (.newarray .int, 2) := by decide +kernel
theorem ctD_Model_87 : decode ctB_Model 87 = .ok (.putfield 37, 3) := by decide +kernel
theorem ctD_Model_90 : decode ctB_Model 90 = .ok (.aload_n 0, 1) := by decide +kernel
theorem ctD_Model_91 : decode ctB_Model 91 = .ok (.sipush 150, 3) := by decide +kernel
theorem ctD_Model_94 : decode ctB_Model 94 = .ok (.newarray .int, 2) := by decide +kernel
theorem ctD_Model_96 : decode ctB_Model 96 = .ok (.putfield 40, 3) := by decide +kernel
theorem ctD_Model_99 : decode ctB_Model 99 = .ok (.aload_n 0, 1) := by decide +kernel
theorem ctD_Model_100 : decode ctB_Model 100 = .ok (.sipush 150, 3) := by decide +kernel
theorem ctD_Model_103 : decode ctB_Model 103 = .ok (.newarray .boolean, 2) := by decide +kernel
theorem ctD_Model_105 : decode ctB_Model 105 = .ok (.putfield 43, 3) := by decide +kernel
theorem ctD_Model_108 : decode ctB_Model 108 = .ok (.aload_n 0, 1) := by decide +kernel
theorem ctD_Model_109 : decode ctB_Model 109 = .ok (.sipush 150, 3) := by decide +kernel
theorem ctD_Model_112 : decode ctB_Model 112 = .ok (.newarray .int, 2) := by decide +kernel
theorem ctD_Model_114 : decode ctB_Model 114 = .ok (.putfield 47, 3) := by decide +kernel
theorem ctD_Model_117 : decode ctB_Model 117 = .ok (.aload_n 0, 1) := by decide +kernel
theorem ctD_Model_118 : decode ctB_Model 118 = .ok (.bipush 10, 2) := by decide +kernel
theorem ctD_Model_120 : decode ctB_Model 120 = .ok (.newarray .int, 2) := by decide +kernel
theorem ctD_Model_122 : decode ctB_Model 122 = .ok (.putfield 50, 3) := by decide +kernel
theorem ctD_Model_125 : decode ctB_Model 125 = .ok (.aload_n 0, 1) := by decide +kernel
theorem ctD_Model_126 : decode ctB_Model 126 = .ok (.bipush 10, 2) := by decide +kernel
theorem ctD_Model_128 : decode ctB_Model 128 = .ok (.newarray .int, 2) := by decide +kernel
theorem ctD_Model_130 : decode ctB_Model 130 = .ok (.putfield 53, 3) := by decide +kernel
theorem ctD_Model_133 : decode ctB_Model 133 = .ok (.aload_n 0, 1) := by decide +kernel
theorem ctD_Model_134 : decode ctB_Model 134 = .ok (.bipush 120, 2) := by decide +kernel
theorem ctD_Model_136 : decode ctB_Model 136 = .ok (.newarray .int, 2) := by decide +kernel
theorem ctD_Model_138 : decode ctB_Model 138 = .ok (.putfield 56, 3) := by decide +kernel
theorem ctD_Model_141 : decode ctB_Model 141 = .ok (.aload_n 0, 1) := by decide +kernel
theorem ctD_Model_142 : decode ctB_Model 142 = .ok (.bipush 120, 2) := by decide +kernel
theorem ctD_Model_144 : decode ctB_Model 144 = .ok (.newarray .int, 2) := by decide +kernel
theorem ctD_Model_146 : decode ctB_Model 146 = .ok (.putfield 59, 3) := by decide +kernel
theorem ctD_Model_149 : decode ctB_Model 149 = .ok (.aload_n 0, 1) := by decide +kernel
theorem ctD_Model_150 : decode ctB_Model 150 = .ok (.bipush 120, 2) := by decide +kernel
theorem ctD_Model_152 : decode ctB_Model 152 = .ok (.newarray .int, 2) := by decide +kernel
theorem ctD_Model_154 : decode ctB_Model 154 = .ok (.putfield 62, 3) := by decide +kernel
theorem ctD_Model_157 : decode ctB_Model 157 = .ok (.aload_n 0, 1) := by decide +kernel
theorem ctD_Model_158 : decode ctB_Model 158 = .ok (.bipush 120, 2) := by decide +kernel
theorem ctD_Model_160 : decode ctB_Model 160 = .ok (.newarray .int, 2) := by decide +kernel
theorem ctD_Model_162 : decode ctB_Model 162 = .ok (.putfield 65, 3) := by decide +kernel
theorem ctD_Model_165 : decode ctB_Model 165 = .ok (.aload_n 0, 1) := by decide +kernel
theorem ctD_Model_166 : decode ctB_Model 166 = .ok (.bipush 120, 2) := by decide +kernel
theorem ctD_Model_168 : decode ctB_Model 168 = .ok (.newarray .int, 2) := by decide +kernel
theorem ctD_Model_170 : decode ctB_Model 170 = .ok (.putfield 68, 3) := by decide +kernel
theorem ctD_Model_173 : decode ctB_Model 173 = .ok (.aload_n 0, 1) := by decide +kernel
theorem ctD_Model_174 : decode ctB_Model 174 = .ok (.bipush 120, 2) := by decide +kernel
theorem ctD_Model_176 : decode ctB_Model 176 = .ok (.newarray .int, 2) := by decide +kernel
theorem ctD_Model_178 : decode ctB_Model 178 = .ok (.putfield 71, 3) := by decide +kernel
theorem ctD_Model_181 : decode ctB_Model 181 = .ok (.aload_n 0, 1) := by decide +kernel
theorem ctD_Model_182 : decode ctB_Model 182 = .ok (.sipush 1400, 3) := by decide +kernel
theorem ctD_Model_185 : decode ctB_Model 185 = .ok (.newarray .int, 2) := by decide +kernel
theorem ctD_Model_187 : decode ctB_Model 187 = .ok (.putfield 74, 3) := by decide +kernel
theorem ctD_Model_190 : decode ctB_Model 190 = .ok (.aload_n 0, 1) := by decide +kernel
theorem ctD_Model_191 : decode ctB_Model 191 = .ok (.sipush 200, 3) := by decide +kernel
theorem ctD_Model_194 : decode ctB_Model 194 = .ok (.newarray .int, 2) := by decide +kernel
theorem ctD_Model_196 : decode ctB_Model 196 = .ok (.putfield 77, 3) := by decide +kernel
theorem ctD_Model_199 : decode ctB_Model 199 = .ok (.aload_n 0, 1) := by decide +kernel
theorem ctD_Model_200 : decode ctB_Model 200 = .ok (.iconst (-1), 1) := by decide +kernel
theorem ctD_Model_201 : decode ctB_Model 201 = .ok (.putfield 80, 3) := by decide +kernel
theorem ctD_Model_204 : decode ctB_Model 204 = .ok (.aload_n 0, 1) := by decide +kernel
theorem ctD_Model_205 : decode ctB_Model 205 = .ok (.sipush 140, 3) := by decide +kernel
theorem ctD_Model_208 : decode ctB_Model 208 = .ok (.newarray .int, 2) := by decide +kernel
theorem ctD_Model_210 : decode ctB_Model 210 = .ok (.putfield 84, 3) := by decide +kernel
theorem ctD_Model_213 : decode ctB_Model 213 = .ok (.aload_n 0, 1) := by decide +kernel
theorem ctD_Model_214 : decode ctB_Model 214 = .ok (.bipush 10, 2) := by decide +kernel
theorem ctD_Model_216 : decode ctB_Model 216 = .ok (.newarray .boolean, 2) := by decide +kernel
theorem ctD_Model_218 : decode ctB_Model 218 = .ok (.putfield 87, 3) := by decide +kernel
theorem ctD_Model_221 : decode ctB_Model 221 = .ok (.aload_n 0, 1) := by decide +kernel
theorem ctD_Model_222 : decode ctB_Model 222 = .ok (.bipush 10, 2) := by decide +kernel
theorem ctD_Model_224 : decode ctB_Model 224 = .ok (.newarray .int, 2) := by decide +kernel
theorem ctD_Model_226 : decode ctB_Model 226 = .ok (.putfield 90, 3) := by decide +kernel
theorem ctD_Model_229 : decode ctB_Model 229 = .ok (.aload_n 0, 1) := by decide +kernel
theorem ctD_Model_230 : decode ctB_Model 230 = .ok (.bipush 12, 2) := by decide +kernel
theorem ctD_Model_232 : decode ctB_Model 232 = .ok (.newarray .int, 2) := by decide +kernel
theorem ctD_Model_234 : decode ctB_Model 234 = .ok (.putfield 93, 3) := by decide +kernel
theorem ctD_Model_237 : decode ctB_Model 237 = .ok (.aload_n 0, 1) := by decide +kernel
theorem ctD_Model_238 : decode ctB_Model 238 = .ok (.sipush 480, 3) := by decide +kernel
theorem ctD_Model_241 : decode ctB_Model 241 = .ok (.newarray .int, 2) := by decide +kernel
theorem ctD_Model_243 : decode ctB_Model 243 = .ok (.putfield 96, 3) := by decide +kernel
theorem ctD_Model_246 : decode ctB_Model 246 = .ok (.aload_n 0, 1) := by decide +kernel
theorem ctD_Model_247 : decode ctB_Model 247 = .ok (.bipush 12, 2) := by decide +kernel
theorem ctD_Model_249 : decode ctB_Model 249 = .ok (.newarray .int, 2) := by decide +kernel
theorem ctD_Model_251 : decode ctB_Model 251 = .ok (.putfield 99, 3) := by decide +kernel
theorem ctD_Model_254 : decode ctB_Model 254 = .ok (.aload_n 0, 1) := by decide +kernel
theorem ctD_Model_255 : decode ctB_Model 255 = .ok (.bipush 12, 2) := by decide +kernel
theorem ctD_Model_257 : decode ctB_Model 257 = .ok (.newarray .int, 2) := by decide +kernel
theorem ctD_Model_259 : decode ctB_Model 259 = .ok (.putfield 102, 3) := by decide +kernel
theorem ctD_Model_262 : decode ctB_Model 262 = .ok (.aload_n 0, 1) := by decide +kernel
theorem ctD_Model_263 : decode ctB_Model 263 = .ok (.bipush 12, 2) := by decide +kernel
theorem ctD_Model_265 : decode ctB_Model 265 = .ok (.newarray .int, 2) := by decide +kernel
theorem ctD_Model_267 : decode ctB_Model 267 = .ok (.putfield 105, 3) := by decide +kernel
theorem ctD_Model_270 : decode ctB_Model 270 = .ok (.aload_n 0, 1) := by decide +kernel
theorem ctD_Model_271 : decode ctB_Model 271 = .ok (.bipush 12, 2) := by decide +kernel
theorem ctD_Model_273 : decode ctB_Model 273 = .ok (.newarray .int, 2) := by decide +kernel
theorem ctD_Model_275 : decode ctB_Model 275 = .ok (.putfield 108, 3) := by decide +kernel
theorem ctD_Model_278 : decode ctB_Model 278 = .ok (.aload_n 0, 1) := by decide +kernel
theorem ctD_Model_279 : decode ctB_Model 279 = .ok (.bipush 12, 2) := by decide +kernel
theorem ctD_Model_281 : decode ctB_Model 281 = .ok (.newarray .int, 2) := by decide +kernel
theorem ctD_Model_283 : decode ctB_Model 283 = .ok (.putfield 111, 3) := by decide +kernel
theorem ctD_Model_286 : decode ctB_Model 286 = .ok (.aload_n 0, 1) := by decide +kernel
theorem ctD_Model_287 : decode ctB_Model 287 = .ok (.sipush 480, 3) := by decide +kernel
theorem ctD_Model_290 : decode ctB_Model 290 = .ok (.newarray .int, 2) := by decide +kernel
theorem ctD_Model_292 : decode ctB_Model 292 = .ok (.putfield 114, 3) := by decide +kernel
theorem ctD_Model_295 : decode ctB_Model 295 = .ok (.aload_n 0, 1) := by decide +kernel
theorem ctD_Model_296 : decode ctB_Model 296 = .ok (.sipush 150, 3) := by decide +kernel
theorem ctD_Model_299 : decode ctB_Model 299 = .ok (.newarray .int, 2) := by decide +kernel
theorem ctD_Model_301 : decode ctB_Model 301 = .ok (.putfield 117, 3) := by decide +kernel
theorem ctD_Model_304 : decode ctB_Model 304 = .ok (.aload_n 0, 1) := by decide +kernel
theorem ctD_Model_305 : decode ctB_Model 305 = .ok (.sipush 150, 3) := by decide +kernel
theorem ctD_Model_308 : decode ctB_Model 308 = .ok (.newarray .int, 2) := by decide +kernel
theorem ctD_Model_310 : decode ctB_Model 310 = .ok (.putfield 120, 3) := by decide +kernel
theorem ctD_Model_313 : decode ctB_Model 313 = .ok (.aload_n 0, 1) := by decide +kernel
theorem ctD_Model_314 : decode ctB_Model 314 = .ok (.sipush 150, 3) := by decide +kernel
theorem ctD_Model_317 : decode ctB_Model 317 = .ok (.newarray .int, 2) := by decide +kernel
theorem ctD_Model_319 : decode ctB_Model 319 = .ok (.putfield 123, 3) := by decide +kernel
theorem ctD_Model_322 : decode ctB_Model 322 = .ok (.aload_n 0, 1) := by decide +kernel
theorem ctD_Model_323 : decode ctB_Model 323 = .ok (.sipush 150, 3) := by decide +kernel
theorem ctD_Model_326 : decode ctB_Model 326 = .ok (.newarray .boolean, 2) := by decide +kernel
theorem ctD_Model_328 : decode ctB_Model 328 = .ok (.putfield 126, 3) := by decide +kernel
theorem ctD_Model_331 : decode ctB_Model 331 = .ok (.aload_n 0, 1) := by decide +kernel
theorem ctD_Model_332 : decode ctB_Model 332 = .ok (.sipush 160, 3) := by decide +kernel
theorem ctD_Model_335 : decode ctB_Model 335 = .ok (.newarray .int, 2) := by decide +kernel
theorem ctD_Model_337 : decode ctB_Model 337 = .ok (.putfield 129, 3) := by decide +kernel
theorem ctD_Model_340 : decode ctB_Model 340 = .ok (.aload_n 0, 1) := by decide +kernel
theorem ctD_Model_341 : decode ctB_Model 341 = .ok (.sipush 160, 3) := by decide +kernel
theorem ctD_Model_344 : decode ctB_Model 344 = .ok (.newarray .int, 2) := by decide +kernel
theorem ctD_Model_346 : decode ctB_Model 346 = .ok (.putfield 132, 3) := by decide +kernel
theorem ctD_Model_349 : decode ctB_Model 349 = .ok (.aload_n 0, 1) := by decide +kernel
theorem ctD_Model_350 : decode ctB_Model 350 = .ok (.sipush 160, 3) := by decide +kernel
theorem ctD_Model_353 : decode ctB_Model 353 = .ok (.newarray .int, 2) := by decide +kernel
theorem ctD_Model_355 : decode ctB_Model 355 = .ok (.putfield 135, 3) := by decide +kernel
theorem ctD_Model_358 : decode ctB_Model 358 = .ok (.aload_n 0, 1) := by decide +kernel
theorem ctD_Model_359 : decode ctB_Model 359 = .ok (.sipush 140, 3) := by decide +kernel
theorem ctD_Model_362 : decode ctB_Model 362 = .ok (.newarray .boolean, 2) := by decide +kernel
theorem ctD_Model_364 : decode ctB_Model 364 = .ok (.putfield 138, 3) := by decide +kernel
theorem ctD_Model_367 : decode ctB_Model 367 = .ok (.aload_n 0, 1) := by decide +kernel
theorem ctD_Model_368 : decode ctB_Model 368 = .ok (.sipush 480, 3) := by decide +kernel
theorem ctD_Model_371 : decode ctB_Model 371 = .ok (.newarray .boolean, 2) := by decide +kernel
theorem ctD_Model_373 : decode ctB_Model 373 = .ok (.putfield 141, 3) := by decide +kernel
theorem ctD_Model_376 : decode ctB_Model 376 = .ok (.aload_n 0, 1) := by decide +kernel
theorem ctD_Model_377 : decode ctB_Model 377 = .ok (.bipush 20, 2) := by decide +kernel
theorem ctD_Model_379 : decode ctB_Model 379 = .ok (.newarray .int, 2) := by decide +kernel
theorem ctD_Model_381 : decode ctB_Model 381 = .ok (.putfield 144, 3) := by decide +kernel
theorem ctD_Model_384 : decode ctB_Model 384 = .ok (.aload_n 0, 1) := by decide +kernel
theorem ctD_Model_385 : decode ctB_Model 385 = .ok (.bipush 20, 2) := by decide +kernel
theorem ctD_Model_387 : decode ctB_Model 387 = .ok (.newarray .int, 2) := by decide +kernel
theorem ctD_Model_389 : decode ctB_Model 389 = .ok (.putfield 147, 3) := by decide +kernel
theorem ctD_Model_392 : decode ctB_Model 392 = .ok (.aload_n 0, 1) := by decide +kernel
theorem ctD_Model_393 : decode ctB_Model 393 = .ok (.bipush 100, 2) := by decide +kernel
theorem ctD_Model_395 : decode ctB_Model 395 = .ok (.newarray .int, 2) := by decide +kernel
theorem ctD_Model_397 : decode ctB_Model 397 = .ok (.putfield 150, 3) := by decide +kernel
theorem ctD_Model_400 : decode ctB_Model 400 = .ok (.aload_n 0, 1) := by decide +kernel
theorem ctD_Model_401 : decode ctB_Model 401 = .ok (.bipush 24, 2) := by decide +kernel
theorem ctD_Model_403 : decode ctB_Model 403 = .ok (.newarray .int, 2) := by decide +kernel
theorem ctD_Model_405 : decode ctB_Model 405 = .ok (.putfield 153, 3) := by decide +kernel
theorem ctD_Model_408 : decode ctB_Model 408 = .ok (.aload_n 0, 1) := by decide +kernel
theorem ctD_Model_409 : decode ctB_Model 409 = .ok (.sipush 192, 3) := by decide +kernel
theorem ctD_Model_412 : decode ctB_Model 412 = .ok (.newarray .int, 2) := by decide +kernel
theorem ctD_Model_414 : decode ctB_Model 414 = .ok (.putfield 156, 3) := by decide +kernel
theorem ctD_Model_417 : decode ctB_Model 417 = .ok (.aload_n 0, 1) := by decide +kernel
theorem ctD_Model_418 : decode ctB_Model 418 = .ok (.sipush 192, 3) := by decide +kernel
theorem ctD_Model_421 : decode ctB_Model 421 = .ok (.newarray .int, 2) := by decide +kernel
theorem ctD_Model_423 : decode ctB_Model 423 = .ok (.putfield 159, 3) := by decide +kernel
theorem ctD_Model_426 : decode ctB_Model 426 = .ok (.aload_n 0, 1) := by decide +kernel
theorem ctD_Model_427 : decode ctB_Model 427 = .ok (.sipush 192, 3) := by decide +kernel
theorem ctD_Model_430 : decode ctB_Model 430 = .ok (.newarray .int, 2) := by decide +kernel
theorem ctD_Model_432 : decode ctB_Model 432 = .ok (.putfield 162, 3) := by decide +kernel
theorem ctD_Model_435 : decode ctB_Model 435 = .ok (.aload_n 0, 1) := by decide +kernel
theorem ctD_Model_436 : decode ctB_Model 436 = .ok (.sipush 2304, 3) := by decide +kernel
theorem ctD_Model_439 : decode ctB_Model 439 = .ok (.newarray .int, 2) := by decide +kernel
theorem ctD_Model_441 : decode ctB_Model 441 = .ok (.putfield 165, 3) := by decide +kernel
theorem ctD_Model_444 : decode ctB_Model 444 = .ok (.aload_n 0, 1) := by decide +kernel
theorem ctD_Model_445 : decode ctB_Model 445 = .ok (.bipush 16, 2) := by decide +kernel
theorem ctD_Model_447 : decode ctB_Model 447 = .ok (.newarray .int, 2) := by decide +kernel
theorem ctD_Model_449 : decode ctB_Model 449 = .ok (.putfield 168, 3) := by decide +kernel
theorem ctD_Model_452 : decode ctB_Model 452 = .ok (.aload_n 0, 1) := by decide +kernel
theorem ctD_Model_453 : decode ctB_Model 453 = .ok (.bipush 16, 2) := by decide +kernel
theorem ctD_Model_455 : decode ctB_Model 455 = .ok (.newarray .int, 2) := by decide +kernel
theorem ctD_Model_457 : decode ctB_Model 457 = .ok (.putfield 171, 3) := by decide +kernel
theorem ctD_Model_460 : decode ctB_Model 460 = .ok (.aload_n 0, 1) := by decide +kernel
theorem ctD_Model_461 : decode ctB_Model 461 = .ok (.bipush 16, 2) := by decide +kernel
theorem ctD_Model_463 : decode ctB_Model 463 = .ok (.newarray .int, 2) := by decide +kernel
theorem ctD_Model_465 : decode ctB_Model 465 = .ok (.putfield 174, 3) := by decide +kernel
theorem ctD_Model_468 : decode ctB_Model 468 = .ok (.aload_n 0, 1) := by decide +kernel
theorem ctD_Model_469 : decode ctB_Model 469 = .ok (.bipush 16, 2) := by decide +kernel
theorem ctD_Model_471 : decode ctB_Model 471 = .ok (.newarray .int, 2) := by decide +kernel
theorem ctD_Model_473 : decode ctB_Model 473 = .ok (.putfield 177, 3) := by decide +kernel
theorem ctD_Model_476 : decode ctB_Model 476 = .ok (.aload_n 0, 1) := by decide +kernel
theorem ctD_Model_477 : decode ctB_Model 477 = .ok (.bipush 16, 2) := by decide +kernel
theorem ctD_Model_479 : decode ctB_Model 479 = .ok (.newarray .int, 2) := by decide +kernel
theorem ctD_Model_481 : decode ctB_Model 481 = .ok (.putfield 180, 3) := by decide +kernel
theorem ctD_Model_484 : decode ctB_Model 484 = .ok (.aload_n 0, 1) := by decide +kernel
theorem ctD_Model_485 : decode ctB_Model 485 = .ok (.bipush 16, 2) := by decide +kernel
theorem ctD_Model_487 : decode ctB_Model 487 = .ok (.newarray .int, 2) := by decide +kernel
theorem ctD_Model_489 : decode ctB_Model 489 = .ok (.putfield 183, 3) := by decide +kernel
theorem ctD_Model_492 : decode ctB_Model 492 = .ok (.aload_n 0, 1) := by decide +kernel
theorem ctD_Model_493 : decode ctB_Model 493 = .ok (.bipush 16, 2) := by decide +kernel
theorem ctD_Model_495 : decode ctB_Model 495 = .ok (.newarray .int, 2) := by decide +kernel
theorem ctD_Model_497 : decode ctB_Model 497 = .ok (.putfield 186, 3) := by decide +kernel
theorem ctD_Model_500 : decode ctB_Model 500 = .ok (.aload_n 0, 1) := by decide +kernel
theorem ctD_Model_501 : decode ctB_Model 501 = .ok (.bipush 16, 2) := by decide +kernel
theorem ctD_Model_503 : decode ctB_Model 503 = .ok (.newarray .boolean, 2) := by decide +kernel
theorem ctD_Model_505 : decode ctB_Model 505 = .ok (.putfield 189, 3) := by decide +kernel
theorem ctD_Model_508 : decode ctB_Model 508 = .ok (.aload_n 0, 1) := by decide +kernel
theorem ctD_Model_509 : decode ctB_Model 509 = .ok (.bipush 16, 2) := by decide +kernel
theorem ctD_Model_511 : decode ctB_Model 511 = .ok (.newarray .int, 2) := by decide +kernel
theorem ctD_Model_513 : decode ctB_Model 513 = .ok (.putfield 192, 3) := by decide +kernel
theorem ctD_Model_516 : decode ctB_Model 516 = .ok (.aload_n 0, 1) := by decide +kernel
theorem ctD_Model_517 : decode ctB_Model 517 = .ok (.bipush 16, 2) := by decide +kernel
theorem ctD_Model_519 : decode ctB_Model 519 = .ok (.newarray .int, 2) := by decide +kernel
theorem ctD_Model_521 : decode ctB_Model 521 = .ok (.putfield 195, 3) := by decide +kernel
theorem ctD_Model_524 : decode ctB_Model 524 = .ok (.aload_n 0, 1) := by decide +kernel
theorem ctD_Model_525 : decode ctB_Model 525 = .ok (.bipush 16, 2) := by decide +kernel
theorem ctD_Model_527 : decode ctB_Model 527 = .ok (.newarray .int, 2) := by decide +kernel
theorem ctD_Model_529 : decode ctB_Model 529 = .ok (.putfield 198, 3) := by decide +kernel
theorem ctD_Model_532 : decode ctB_Model 532 = .ok (.aload_n 0, 1) := by decide +kernel
theorem ctD_Model_533 : decode ctB_Model 533 = .ok (.bipush 8, 2) := by decide +kernel
theorem ctD_Model_535 : decode ctB_Model 535 = .ok (.newarray .int, 2) := by decide +kernel
theorem ctD_Model_537 : decode ctB_Model 537 = .ok (.putfield 201, 3) := by decide +kernel
theorem ctD_Model_540 : decode ctB_Model 540 = .ok (.aload_n 0, 1) := by decide +kernel
theorem ctD_Model_541 : decode ctB_Model 541 = .ok (.sipush 2048, 3) := by decide +kernel
theorem ctD_Model_544 : decode ctB_Model 544 = .ok (.newarray .int, 2) := by decide +kernel
theorem ctD_Model_546 : decode ctB_Model 546 = .ok (.putfield 204, 3) := by decide +kernel
theorem ctD_Model_549 : decode ctB_Model 549 = .ok (.aload_n 0, 1) := by decide +kernel
theorem ctD_Model_550 : decode ctB_Model 550 = .ok (.sipush 256, 3) := by decide +kernel
theorem ctD_Model_553 : decode ctB_Model 553 = .ok (.newarray .int, 2) := by decide +kernel
theorem ctD_Model_555 : decode ctB_Model 555 = .ok (.putfield 207, 3) := by decide +kernel
theorem ctD_Model_558 : decode ctB_Model 558 = .ok (.aload_n 0, 1) := by decide +kernel
theorem ctD_Model_559 : decode ctB_Model 559 = .ok (.sipush 256, 3) := by decide +kernel
theorem ctD_Model_562 : decode ctB_Model 562 = .ok (.newarray .int, 2) := by decide +kernel
theorem ctD_Model_564 : decode ctB_Model 564 = .ok (.putfield 210, 3) := by decide +kernel
theorem ctD_Model_567 : decode ctB_Model 567 = .ok (.aload_n 0, 1) := by decide +kernel
theorem ctD_Model_568 : decode ctB_Model 568 = .ok (.sipush 256, 3) := by decide +kernel
theorem ctD_Model_571 : decode ctB_Model 571 = .ok (.newarray .int, 2) := by decide +kernel
theorem ctD_Model_573 : decode ctB_Model 573 = .ok (.putfield 213, 3) := by decide +kernel
theorem ctD_Model_576 : decode ctB_Model 576 = .ok (.return_, 1) := by decide +kernel
theorem ctC_Model : Cond.code ctY_Model ctB_Model 1 none ∈ aAW := ck_w_ok (i := 1366) (by decide +kernel)
theorem ctI_Model : Cond.instanceMethod ctY_Model ∈ aAW := ck_w_ok (i := 1365) (by decide +kernel)
def ctR_Model : Room := { frames := 1, cells := 67, slots := 12702, locals := 12 }
def ctF_0 (u : Nat → Nat) : List Value := [.int 0, .int 0, .null, .int 0, .null, .null, .null, .int 0, .null, .null, .null, .null, .null, .null, .null, .null, .null, .int 0, .int 0, .null, .null, .null, .null, .null, .null, .null, .null, .null, .null, .int 0, .int 0, .int 0, .int 0, .int 0, .int 0, .int 0, .null, .int 0, .int 0, .null, .null, .int 0, .int 0, .null, .null, .null, .null, .null, .null, .null, .null, .int 0, .int 0, .null, .null, .null, .null, .int 0, .int 0, .null, .null, .null, .int 0, .int 0, .int 0, .int 0, .int 0, .null, .null, .int 0, .null, .null, .null, .null, .null, .null, .null, .null, .int 0, .null, .null, .null, .null, .null, .null, .null, .null, .null, .null, .int 0, .null, .null, .int 0, .null, .null, .null, .null]
def ctF_1 (u : Nat → Nat) : List Value := [.int 0, .int 0, .ref (u 1), .int 0, .null, .null, .null, .int 0, .null, .null, .null, .null, .null, .null, .null, .null, .null, .int 0, .int 0, .null, .null, .null, .null, .null, .null, .null, .null, .null, .null, .int 0, .int 0, .int 0, .int 0, .int 0, .int 0, .int 0, .null, .int 0, .int 0, .null, .null, .int 0, .int 0, .null, .null, .null, .null, .null, .null, .null, .null, .int 0, .int 0, .null, .null, .null, .null, .int 0, .int 0, .null, .null, .null, .int 0, .int 0, .int 0, .int 0, .int 0, .null, .null, .int 0, .null, .null, .null, .null, .null, .null, .null, .null, .int 0, .null, .null, .null, .null, .null, .null, .null, .null, .null, .null, .int 0, .null, .null, .int 0, .null, .null, .null, .null]
theorem ctFs_0 (u : Nat → Nat) : (ctF_0 u).set 2 (.ref (u 1)) = ctF_1 u := rfl
def ctF_2 (u : Nat → Nat) : List Value := [.int 0, .int 0, .ref (u 1), .int 0, .ref (u 2), .null, .null, .int 0, .null, .null, .null, .null, .null, .null, .null, .null, .null, .int 0, .int 0, .null, .null, .null, .null, .null, .null, .null, .null, .null, .null, .int 0, .int 0, .int 0, .int 0, .int 0, .int 0, .int 0, .null, .int 0, .int 0, .null, .null, .int 0, .int 0, .null, .null, .null, .null, .null, .null, .null, .null, .int 0, .int 0, .null, .null, .null, .null, .int 0, .int 0, .null, .null, .null, .int 0, .int 0, .int 0, .int 0, .int 0, .null, .null, .int 0, .null, .null, .null, .null, .null, .null, .null, .null, .int 0, .null, .null, .null, .null, .null, .null, .null, .null, .null, .null, .int 0, .null, .null, .int 0, .null, .null, .null, .null]
theorem ctFs_1 (u : Nat → Nat) : (ctF_1 u).set 4 (.ref (u 2)) = ctF_2 u := rfl
def ctF_3 (u : Nat → Nat) : List Value := [.int 0, .int 0, .ref (u 1), .int 0, .ref (u 2), .ref (u 3), .null, .int 0, .null, .null, .null, .null, .null, .null, .null, .null, .null, .int 0, .int 0, .null, .null, .null, .null, .null, .null, .null, .null, .null, .null, .int 0, .int 0, .int 0, .int 0, .int 0, .int 0, .int 0, .null, .int 0, .int 0, .null, .null, .int 0, .int 0, .null, .null, .null, .null, .null, .null, .null, .null, .int 0, .int 0, .null, .null, .null, .null, .int 0, .int 0, .null, .null, .null, .int 0, .int 0, .int 0, .int 0, .int 0, .null, .null, .int 0, .null, .null, .null, .null, .null, .null, .null, .null, .int 0, .null, .null, .null, .null, .null, .null, .null, .null, .null, .null, .int 0, .null, .null, .int 0, .null, .null, .null, .null]
theorem ctFs_2 (u : Nat → Nat) : (ctF_2 u).set 5 (.ref (u 3)) = ctF_3 u := rfl
def ctF_4 (u : Nat → Nat) : List Value := [.int 0, .int 0, .ref (u 1), .int 0, .ref (u 2), .ref (u 3), .ref (u 4), .int 0, .null, .null, .null, .null, .null, .null, .null, .null, .null, .int 0, .int 0, .null, .null, .null, .null, .null, .null, .null, .null, .null, .null, .int 0, .int 0, .int 0, .int 0, .int 0, .int 0, .int 0, .null, .int 0, .int 0, .null, .null, .int 0, .int 0, .null, .null, .null, .null, .null, .null, .null, .null, .int 0, .int 0, .null, .null, .null, .null, .int 0, .int 0, .null, .null, .null, .int 0, .int 0, .int 0, .int 0, .int 0, .null, .null, .int 0, .null, .null, .null, .null, .null, .null, .null, .null, .int 0, .null, .null, .null, .null, .null, .null, .null, .null, .null, .null, .int 0, .null, .null, .int 0, .null, .null, .null, .null]
theorem ctFs_3 (u : Nat → Nat) : (ctF_3 u).set 6 (.ref (u 4)) = ctF_4 u := rfl
def ctF_5 (u : Nat → Nat) : List Value := [.int 0, .int 0, .ref (u 1), .int 0, .ref (u 2), .ref (u 3), .ref (u 4), .int 0, .ref (u 5), .null, .null, .null, .null, .null, .null, .null, .null, .int 0, .int 0, .null, .null, .null, .null, .null, .null, .null, .null, .null, .null, .int 0, .int 0, .int 0, .int 0, .int 0, .int 0, .int 0, .null, .int 0, .int 0, .null, .null, .int 0, .int 0, .null, .null, .null, .null, .null, .null, .null, .null, .int 0, .int 0, .null, .null, .null, .null, .int 0, .int 0, .null, .null, .null, .int 0, .int 0, .int 0, .int 0, .int 0, .null, .null, .int 0, .null, .null, .null, .null, .null, .null, .null, .null, .int 0, .null, .null, .null, .null, .null, .null, .null, .null, .null, .null, .int 0, .null, .null, .int 0, .null, .null, .null, .null]
theorem ctFs_4 (u : Nat → Nat) : (ctF_4 u).set 8 (.ref (u 5)) = ctF_5 u := rfl
def ctF_6 (u : Nat → Nat) : List Value := [.int 0, .int 0, .ref (u 1), .int 0, .ref (u 2), .ref (u 3), .ref (u 4), .int 0, .ref (u 5), .ref (u 6), .null, .null, .null, .null, .null, .null, .null, .int 0, .int 0, .null, .null, .null, .null, .null, .null, .null, .null, .null, .null, .int 0, .int 0, .int 0, .int 0, .int 0, .int 0, .int 0, .null, .int 0, .int 0, .null, .null, .int 0, .int 0, .null, .null, .null, .null, .null, .null, .null, .null, .int 0, .int 0, .null, .null, .null, .null, .int 0, .int 0, .null, .null, .null, .int 0, .int 0, .int 0, .int 0, .int 0, .null, .null, .int 0, .null, .null, .null, .null, .null, .null, .null, .null, .int 0, .null, .null, .null, .null, .null, .null, .null, .null, .null, .null, .int 0, .null, .null, .int 0, .null, .null, .null, .null]
theorem ctFs_5 (u : Nat → Nat) : (ctF_5 u).set 9 (.ref (u 6)) = ctF_6 u := rfl
def ctF_7 (u : Nat → Nat) : List Value := [.int 0, .int 0, .ref (u 1), .int 0, .ref (u 2), .ref (u 3), .ref (u 4), .int 0, .ref (u 5), .ref (u 6), .ref (u 7), .null, .null, .null, .null, .null, .null, .int 0, .int 0, .null, .null, .null, .null, .null, .null, .null, .null, .null, .null, .int 0, .int 0, .int 0, .int 0, .int 0, .int 0, .int 0, .null, .int 0, .int 0, .null, .null, .int 0, .int 0, .null, .null, .null, .null, .null, .null, .null, .null, .int 0, .int 0, .null, .null, .null, .null, .int 0, .int 0, .null, .null, .null, .int 0, .int 0, .int 0, .int 0, .int 0, .null, .null, .int 0, .null, .null, .null, .null, .null, .null, .null, .null, .int 0, .null, .null, .null, .null, .null, .null, .null, .null, .null, .null, .int 0, .null, .null, .int 0, .null, .null, .null, .null]
theorem ctFs_6 (u : Nat → Nat) : (ctF_6 u).set 10 (.ref (u 7)) = ctF_7 u := rfl
def ctF_8 (u : Nat → Nat) : List Value := [.int 0, .int 0, .ref (u 1), .int 0, .ref (u 2), .ref (u 3), .ref (u 4), .int 0, .ref (u 5), .ref (u 6), .ref (u 7), .ref (u 8), .null, .null, .null, .null, .null, .int 0, .int 0, .null, .null, .null, .null, .null, .null, .null, .null, .null, .null, .int 0, .int 0, .int 0, .int 0, .int 0, .int 0, .int 0, .null, .int 0, .int 0, .null, .null, .int 0, .int 0, .null, .null, .null, .null, .null, .null, .null, .null, .int 0, .int 0, .null, .null, .null, .null, .int 0, .int 0, .null, .null, .null, .int 0, .int 0, .int 0, .int 0, .int 0, .null, .null, .int 0, .null, .null, .null, .null, .null, .null, .null, .null, .int 0, .null, .null, .null, .null, .null, .null, .null, .null, .null, .null, .int 0, .null, .null, .int 0, .null, .null, .null, .null]
theorem ctFs_7 (u : Nat → Nat) : (ctF_7 u).set 11 (.ref (u 8)) = ctF_8 u := rfl
def ctF_9 (u : Nat → Nat) : List Value := [.int 0, .int 0, .ref (u 1), .int 0, .ref (u 2), .ref (u 3), .ref (u 4), .int 0, .ref (u 5), .ref (u 6), .ref (u 7), .ref (u 8), .ref (u 9), .null, .null, .null, .null, .int 0, .int 0, .null, .null, .null, .null, .null, .null, .null, .null, .null, .null, .int 0, .int 0, .int 0, .int 0, .int 0, .int 0, .int 0, .null, .int 0, .int 0, .null, .null, .int 0, .int 0, .null, .null, .null, .null, .null, .null, .null, .null, .int 0, .int 0, .null, .null, .null, .null, .int 0, .int 0, .null, .null, .null, .int 0, .int 0, .int 0, .int 0, .int 0, .null, .null, .int 0, .null, .null, .null, .null, .null, .null, .null, .null, .int 0, .null, .null, .null, .null, .null, .null, .null, .null, .null, .null, .int 0, .null, .null, .int 0, .null, .null, .null, .null]
theorem ctFs_8 (u : Nat → Nat) : (ctF_8 u).set 12 (.ref (u 9)) = ctF_9 u := rfl
def ctF_10 (u : Nat → Nat) : List Value := [.int 0, .int 0, .ref (u 1), .int 0, .ref (u 2), .ref (u 3), .ref (u 4), .int 0, .ref (u 5), .ref (u 6), .ref (u 7), .ref (u 8), .ref (u 9), .ref (u 10), .null, .null, .null, .int 0, .int 0, .null, .null, .null, .null, .null, .null, .null, .null, .null, .null, .int 0, .int 0, .int 0, .int 0, .int 0, .int 0, .int 0, .null, .int 0, .int 0, .null, .null, .int 0, .int 0, .null, .null, .null, .null, .null, .null, .null, .null, .int 0, .int 0, .null, .null, .null, .null, .int 0, .int 0, .null, .null, .null, .int 0, .int 0, .int 0, .int 0, .int 0, .null, .null, .int 0, .null, .null, .null, .null, .null, .null, .null, .null, .int 0, .null, .null, .null, .null, .null, .null, .null, .null, .null, .null, .int 0, .null, .null, .int 0, .null, .null, .null, .null]
theorem ctFs_9 (u : Nat → Nat) : (ctF_9 u).set 13 (.ref (u 10)) = ctF_10 u := rfl
def ctF_11 (u : Nat → Nat) : List Value := [.int 0, .int 0, .ref (u 1), .int 0, .ref (u 2), .ref (u 3), .ref (u 4), .int 0, .ref (u 5), .ref (u 6), .ref (u 7), .ref (u 8), .ref (u 9), .ref (u 10), .ref (u 11), .null, .null, .int 0, .int 0, .null, .null, .null, .null, .null, .null, .null, .null, .null, .null, .int 0, .int 0, .int 0, .int 0, .int 0, .int 0, .int 0, .null, .int 0, .int 0, .null, .null, .int 0, .int 0, .null, .null, .null, .null, .null, .null, .null, .null, .int 0, .int 0, .null, .null, .null, .null, .int 0, .int 0, .null, .null, .null, .int 0, .int 0, .int 0, .int 0, .int 0, .null, .null, .int 0, .null, .null, .null, .null, .null, .null, .null, .null, .int 0, .null, .null, .null, .null, .null, .null, .null, .null, .null, .null, .int 0, .null, .null, .int 0, .null, .null, .null, .null]
theorem ctFs_10 (u : Nat → Nat) : (ctF_10 u).set 14 (.ref (u 11)) = ctF_11 u := rfl
def ctF_12 (u : Nat → Nat) : List Value := [.int 0, .int 0, .ref (u 1), .int 0, .ref (u 2), .ref (u 3), .ref (u 4), .int 0, .ref (u 5), .ref (u 6), .ref (u 7), .ref (u 8), .ref (u 9), .ref (u 10), .ref (u 11), .ref (u 12), .null, .int 0, .int 0, .null, .null, .null, .null, .null, .null, .null, .null, .null, .null, .int 0, .int 0, .int 0, .int 0, .int 0, .int 0, .int 0, .null, .int 0, .int 0, .null, .null, .int 0, .int 0, .null, .null, .null, .null, .null, .null, .null, .null, .int 0, .int 0, .null, .null, .null, .null, .int 0, .int 0, .null, .null, .null, .int 0, .int 0, .int 0, .int 0, .int 0, .null, .null, .int 0, .null, .null, .null, .null, .null, .null, .null, .null, .int 0, .null, .null, .null, .null, .null, .null, .null, .null, .null, .null, .int 0, .null, .null, .int 0, .null, .null, .null, .null]
theorem ctFs_11 (u : Nat → Nat) : (ctF_11 u).set 15 (.ref (u 12)) = ctF_12 u := rfl
def ctF_13 (u : Nat → Nat) : List Value := [.int 0, .int 0, .ref (u 1), .int 0, .ref (u 2), .ref (u 3), .ref (u 4), .int 0, .ref (u 5), .ref (u 6), .ref (u 7), .ref (u 8), .ref (u 9), .ref (u 10), .ref (u 11), .ref (u 12), .ref (u 13), .int 0, .int 0, .null, .null, .null, .null, .null, .null, .null, .null, .null, .null, .int 0, .int 0, .int 0, .int 0, .int 0, .int 0, .int 0, .null, .int 0, .int 0, .null, .null, .int 0, .int 0, .null, .null, .null, .null, .null, .null, .null, .null, .int 0, .int 0, .null, .null, .null, .null, .int 0, .int 0, .null, .null, .null, .int 0, .int 0, .int 0, .int 0, .int 0, .null, .null, .int 0, .null, .null, .null, .null, .null, .null, .null, .null, .int 0, .null, .null, .null, .null, .null, .null, .null, .null, .null, .null, .int 0, .null, .null, .int 0, .null, .null, .null, .null]
theorem ctFs_12 (u : Nat → Nat) : (ctF_12 u).set 16 (.ref (u 13)) = ctF_13 u := rfl
def ctF_14 (u : Nat → Nat) : List Value := [.int 0, .int 0, .ref (u 1), .int 0, .ref (u 2), .ref (u 3), .ref (u 4), .int 0, .ref (u 5), .ref (u 6), .ref (u 7), .ref (u 8), .ref (u 9), .ref (u 10), .ref (u 11), .ref (u 12), .ref (u 13), .int 0, .int 0, .ref (u 14), .null, .null, .null, .null, .null, .null, .null, .null, .null, .int 0, .int 0, .int 0, .int 0, .int 0, .int 0, .int 0, .null, .int 0, .int 0, .null, .null, .int 0, .int 0, .null, .null, .null, .null, .null, .null, .null, .null, .int 0, .int 0, .null, .null, .null, .null, .int 0, .int 0, .null, .null, .null, .int 0, .int 0, .int 0, .int 0, .int 0, .null, .null, .int 0, .null, .null, .null, .null, .null, .null, .null, .null, .int 0, .null, .null, .null, .null, .null, .null, .null, .null, .null, .null, .int 0, .null, .null, .int 0, .null, .null, .null, .null]
theorem ctFs_13 (u : Nat → Nat) : (ctF_13 u).set 19 (.ref (u 14)) = ctF_14 u := rfl
def ctF_15 (u : Nat → Nat) : List Value := [.int 0, .int 0, .ref (u 1), .int 0, .ref (u 2), .ref (u 3), .ref (u 4), .int 0, .ref (u 5), .ref (u 6), .ref (u 7), .ref (u 8), .ref (u 9), .ref (u 10), .ref (u 11), .ref (u 12), .ref (u 13), .int 0, .int 0, .ref (u 14), .ref (u 15), .null, .null, .null, .null, .null, .null, .null, .null, .int 0, .int 0, .int 0, .int 0, .int 0, .int 0, .int 0, .null, .int 0, .int 0, .null, .null, .int 0, .int 0, .null, .null, .null, .null, .null, .null, .null, .null, .int 0, .int 0, .null, .null, .null, .null, .int 0, .int 0, .null, .null, .null, .int 0, .int 0, .int 0, .int 0, .int 0, .null, .null, .int 0, .null, .null, .null, .null, .null, .null, .null, .null, .int 0, .null, .null, .null, .null, .null, .null, .null, .null, .null, .null, .int 0, .null, .null, .int 0, .null, .null, .null, .null]
theorem ctFs_14 (u : Nat → Nat) : (ctF_14 u).set 20 (.ref (u 15)) = ctF_15 u := rfl
def ctF_16 (u : Nat → Nat) : List Value := [.int 0, .int 0, .ref (u 1), .int 0, .ref (u 2), .ref (u 3), .ref (u 4), .int 0, .ref (u 5), .ref (u 6), .ref (u 7), .ref (u 8), .ref (u 9), .ref (u 10), .ref (u 11), .ref (u 12), .ref (u 13), .int 0, .int 0, .ref (u 14), .ref (u 15), .ref (u 16), .null, .null, .null, .null, .null, .null, .null, .int 0, .int 0, .int 0, .int 0, .int 0, .int 0, .int 0, .null, .int 0, .int 0, .null, .null, .int 0, .int 0, .null, .null, .null, .null, .null, .null, .null, .null, .int 0, .int 0, .null, .null, .null, .null, .int 0, .int 0, .null, .null, .null, .int 0, .int 0, .int 0, .int 0, .int 0, .null, .null, .int 0, .null, .null, .null, .null, .null, .null, .null, .null, .int 0, .null, .null, .null, .null, .null, .null, .null, .null, .null, .null, .int 0, .null, .null, .int 0, .null, .null, .null, .null]
theorem ctFs_15 (u : Nat → Nat) : (ctF_15 u).set 21 (.ref (u 16)) = ctF_16 u := rfl
def ctF_17 (u : Nat → Nat) : List Value := [.int 0, .int 0, .ref (u 1), .int 0, .ref (u 2), .ref (u 3), .ref (u 4), .int 0, .ref (u 5), .ref (u 6), .ref (u 7), .ref (u 8), .ref (u 9), .ref (u 10), .ref (u 11), .ref (u 12), .ref (u 13), .int 0, .int 0, .ref (u 14), .ref (u 15), .ref (u 16), .ref (u 17), .null, .null, .null, .null, .null, .null, .int 0, .int 0, .int 0, .int 0, .int 0, .int 0, .int 0, .null, .int 0, .int 0, .null, .null, .int 0, .int 0, .null, .null, .null, .null, .null, .null, .null, .null, .int 0, .int 0, .null, .null, .null, .null, .int 0, .int 0, .null, .null, .null, .int 0, .int 0, .int 0, .int 0, .int 0, .null, .null, .int 0, .null, .null, .null, .null, .null, .null, .null, .null, .int 0, .null, .null, .null, .null, .null, .null, .null, .null, .null, .null, .int 0, .null, .null, .int 0, .null, .null, .null, .null]
theorem ctFs_16 (u : Nat → Nat) : (ctF_16 u).set 22 (.ref (u 17)) = ctF_17 u := rfl
def ctF_18 (u : Nat → Nat) : List Value := [.int 0, .int 0, .ref (u 1), .int 0, .ref (u 2), .ref (u 3), .ref (u 4), .int 0, .ref (u 5), .ref (u 6), .ref (u 7), .ref (u 8), .ref (u 9), .ref (u 10), .ref (u 11), .ref (u 12), .ref (u 13), .int 0, .int 0, .ref (u 14), .ref (u 15), .ref (u 16), .ref (u 17), .ref (u 18), .null, .null, .null, .null, .null, .int 0, .int 0, .int 0, .int 0, .int 0, .int 0, .int 0, .null, .int 0, .int 0, .null, .null, .int 0, .int 0, .null, .null, .null, .null, .null, .null, .null, .null, .int 0, .int 0, .null, .null, .null, .null, .int 0, .int 0, .null, .null, .null, .int 0, .int 0, .int 0, .int 0, .int 0, .null, .null, .int 0, .null, .null, .null, .null, .null, .null, .null, .null, .int 0, .null, .null, .null, .null, .null, .null, .null, .null, .null, .null, .int 0, .null, .null, .int 0, .null, .null, .null, .null]
theorem ctFs_17 (u : Nat → Nat) : (ctF_17 u).set 23 (.ref (u 18)) = ctF_18 u := rfl
def ctF_19 (u : Nat → Nat) : List Value := [.int 0, .int 0, .ref (u 1), .int 0, .ref (u 2), .ref (u 3), .ref (u 4), .int 0, .ref (u 5), .ref (u 6), .ref (u 7), .ref (u 8), .ref (u 9), .ref (u 10), .ref (u 11), .ref (u 12), .ref (u 13), .int 0, .int 0, .ref (u 14), .ref (u 15), .ref (u 16), .ref (u 17), .ref (u 18), .ref (u 19), .null, .null, .null, .null, .int 0, .int 0, .int 0, .int 0, .int 0, .int 0, .int 0, .null, .int 0, .int 0, .null, .null, .int 0, .int 0, .null, .null, .null, .null, .null, .null, .null, .null, .int 0, .int 0, .null, .null, .null, .null, .int 0, .int 0, .null, .null, .null, .int 0, .int 0, .int 0, .int 0, .int 0, .null, .null, .int 0, .null, .null, .null, .null, .null, .null, .null, .null, .int 0, .null, .null, .null, .null, .null, .null, .null, .null, .null, .null, .int 0, .null, .null, .int 0, .null, .null, .null, .null]
theorem ctFs_18 (u : Nat → Nat) : (ctF_18 u).set 24 (.ref (u 19)) = ctF_19 u := rfl
def ctF_20 (u : Nat → Nat) : List Value := [.int 0, .int 0, .ref (u 1), .int 0, .ref (u 2), .ref (u 3), .ref (u 4), .int 0, .ref (u 5), .ref (u 6), .ref (u 7), .ref (u 8), .ref (u 9), .ref (u 10), .ref (u 11), .ref (u 12), .ref (u 13), .int 0, .int 0, .ref (u 14), .ref (u 15), .ref (u 16), .ref (u 17), .ref (u 18), .ref (u 19), .ref (u 20), .null, .null, .null, .int 0, .int 0, .int 0, .int 0, .int 0, .int 0, .int 0, .null, .int 0, .int 0, .null, .null, .int 0, .int 0, .null, .null, .null, .null, .null, .null, .null, .null, .int 0, .int 0, .null, .null, .null, .null, .int 0, .int 0, .null, .null, .null, .int 0, .int 0, .int 0, .int 0, .int 0, .null, .null, .int 0, .null, .null, .null, .null, .null, .null, .null, .null, .int 0, .null, .null, .null, .null, .null, .null, .null, .null, .null, .null, .int 0, .null, .null, .int 0, .null, .null, .null, .null]
theorem ctFs_19 (u : Nat → Nat) : (ctF_19 u).set 25 (.ref (u 20)) = ctF_20 u := rfl
def ctF_21 (u : Nat → Nat) : List Value := [.int 0, .int 0, .ref (u 1), .int 0, .ref (u 2), .ref (u 3), .ref (u 4), .int 0, .ref (u 5), .ref (u 6), .ref (u 7), .ref (u 8), .ref (u 9), .ref (u 10), .ref (u 11), .ref (u 12), .ref (u 13), .int 0, .int 0, .ref (u 14), .ref (u 15), .ref (u 16), .ref (u 17), .ref (u 18), .ref (u 19), .ref (u 20), .ref (u 21), .null, .null, .int 0, .int 0, .int 0, .int 0, .int 0, .int 0, .int 0, .null, .int 0, .int 0, .null, .null, .int 0, .int 0, .null, .null, .null, .null, .null, .null, .null, .null, .int 0, .int 0, .null, .null, .null, .null, .int 0, .int 0, .null, .null, .null, .int 0, .int 0, .int 0, .int 0, .int 0, .null, .null, .int 0, .null, .null, .null, .null, .null, .null, .null, .null, .int 0, .null, .null, .null, .null, .null, .null, .null, .null, .null, .null, .int 0, .null, .null, .int 0, .null, .null, .null, .null]
theorem ctFs_20 (u : Nat → Nat) : (ctF_20 u).set 26 (.ref (u 21)) = ctF_21 u := rfl
def ctF_22 (u : Nat → Nat) : List Value := [.int 0, .int 0, .ref (u 1), .int 0, .ref (u 2), .ref (u 3), .ref (u 4), .int 0, .ref (u 5), .ref (u 6), .ref (u 7), .ref (u 8), .ref (u 9), .ref (u 10), .ref (u 11), .ref (u 12), .ref (u 13), .int 0, .int 0, .ref (u 14), .ref (u 15), .ref (u 16), .ref (u 17), .ref (u 18), .ref (u 19), .ref (u 20), .ref (u 21), .ref (u 22), .null, .int 0, .int 0, .int 0, .int 0, .int 0, .int 0, .int 0, .null, .int 0, .int 0, .null, .null, .int 0, .int 0, .null, .null, .null, .null, .null, .null, .null, .null, .int 0, .int 0, .null, .null, .null, .null, .int 0, .int 0, .null, .null, .null, .int 0, .int 0, .int 0, .int 0, .int 0, .null, .null, .int 0, .null, .null, .null, .null, .null, .null, .null, .null, .int 0, .null, .null, .null, .null, .null, .null, .null, .null, .null, .null, .int 0, .null, .null, .int 0, .null, .null, .null, .null]
theorem ctFs_21 (u : Nat → Nat) : (ctF_21 u).set 27 (.ref (u 22)) = ctF_22 u := rfl
def ctF_23 (u : Nat → Nat) : List Value := [.int 0, .int 0, .ref (u 1), .int 0, .ref (u 2), .ref (u 3), .ref (u 4), .int 0, .ref (u 5), .ref (u 6), .ref (u 7), .ref (u 8), .ref (u 9), .ref (u 10), .ref (u 11), .ref (u 12), .ref (u 13), .int 0, .int 0, .ref (u 14), .ref (u 15), .ref (u 16), .ref (u 17), .ref (u 18), .ref (u 19), .ref (u 20), .ref (u 21), .ref (u 22), .ref (u 23), .int 0, .int 0, .int 0, .int 0, .int 0, .int 0, .int 0, .null, .int 0, .int 0, .null, .null, .int 0, .int 0, .null, .null, .null, .null, .null, .null, .null, .null, .int 0, .int 0, .null, .null, .null, .null, .int 0, .int 0, .null, .null, .null, .int 0, .int 0, .int 0, .int 0, .int 0, .null, .null, .int 0, .null, .null, .null, .null, .null, .null, .null, .null, .int 0, .null, .null, .null, .null, .null, .null, .null, .null, .null, .null, .int 0, .null, .null, .int 0, .null, .null, .null, .null]
theorem ctFs_22 (u : Nat → Nat) : (ctF_22 u).set 28 (.ref (u 23)) = ctF_23 u := rfl
def ctF_24 (u : Nat → Nat) : List Value := [.int 0, .int 0, .ref (u 1), .int 0, .ref (u 2), .ref (u 3), .ref (u 4), .int 0, .ref (u 5), .ref (u 6), .ref (u 7), .ref (u 8), .ref (u 9), .ref (u 10), .ref (u 11), .ref (u 12), .ref (u 13), .int 0, .int 0, .ref (u 14), .ref (u 15), .ref (u 16), .ref (u 17), .ref (u 18), .ref (u 19), .ref (u 20), .ref (u 21), .ref (u 22), .ref (u 23), .int 0, .int 0, .int 0, .int (-1), .int 0, .int 0, .int 0, .null, .int 0, .int 0, .null, .null, .int 0, .int 0, .null, .null, .null, .null, .null, .null, .null, .null, .int 0, .int 0, .null, .null, .null, .null, .int 0, .int 0, .null, .null, .null, .int 0, .int 0, .int 0, .int 0, .int 0, .null, .null, .int 0, .null, .null, .null, .null, .null, .null, .null, .null, .int 0, .null, .null, .null, .null, .null, .null, .null, .null, .null, .null, .int 0, .null, .null, .int 0, .null, .null, .null, .null]
theorem ctFs_23 (u : Nat → Nat) : (ctF_23 u).set 32 (.int (-1)) = ctF_24 u := rfl
def ctF_25 (u : Nat → Nat) : List Value := [.int 0, .int 0, .ref (u 1), .int 0, .ref (u 2), .ref (u 3), .ref (u 4), .int 0, .ref (u 5), .ref (u 6), .ref (u 7), .ref (u 8), .ref (u 9), .ref (u 10), .ref (u 11), .ref (u 12), .ref (u 13), .int 0, .int 0, .ref (u 14), .ref (u 15), .ref (u 16), .ref (u 17), .ref (u 18), .ref (u 19), .ref (u 20), .ref (u 21), .ref (u 22), .ref (u 23), .int 0, .int 0, .int 0, .int (-1), .int 0, .int 0, .int 0, .ref (u 24), .int 0, .int 0, .null, .null, .int 0, .int 0, .null, .null, .null, .null, .null, .null, .null, .null, .int 0, .int 0, .null, .null, .null, .null, .int 0, .int 0, .null, .null, .null, .int 0, .int 0, .int 0, .int 0, .int 0, .null, .null, .int 0, .null, .null, .null, .null, .null, .null, .null, .null, .int 0, .null, .null, .null, .null, .null, .null, .null, .null, .null, .null, .int 0, .null, .null, .int 0, .null, .null, .null, .null]
theorem ctFs_24 (u : Nat → Nat) : (ctF_24 u).set 36 (.ref (u 24)) = ctF_25 u := rfl
def ctF_26 (u : Nat → Nat) : List Value := [.int 0, .int 0, .ref (u 1), .int 0, .ref (u 2), .ref (u 3), .ref (u 4), .int 0, .ref (u 5), .ref (u 6), .ref (u 7), .ref (u 8), .ref (u 9), .ref (u 10), .ref (u 11), .ref (u 12), .ref (u 13), .int 0, .int 0, .ref (u 14), .ref (u 15), .ref (u 16), .ref (u 17), .ref (u 18), .ref (u 19), .ref (u 20), .ref (u 21), .ref (u 22), .ref (u 23), .int 0, .int 0, .int 0, .int (-1), .int 0, .int 0, .int 0, .ref (u 24), .int 0, .int 0, .ref (u 25), .null, .int 0, .int 0, .null, .null, .null, .null, .null, .null, .null, .null, .int 0, .int 0, .null, .null, .null, .null, .int 0, .int 0, .null, .null, .null, .int 0, .int 0, .int 0, .int 0, .int 0, .null, .null, .int 0, .null, .null, .null, .null, .null, .null, .null, .null, .int 0, .null, .null, .null, .null, .null, .null, .null, .null, .null, .null, .int 0, .null, .null, .int 0, .null, .null, .null, .null]
theorem ctFs_25 (u : Nat → Nat) : (ctF_25 u).set 39 (.ref (u 25)) = ctF_26 u := rfl
def ctF_27 (u : Nat → Nat) : List Value := [.int 0, .int 0, .ref (u 1), .int 0, .ref (u 2), .ref (u 3), .ref (u 4), .int 0, .ref (u 5), .ref (u 6), .ref (u 7), .ref (u 8), .ref (u 9), .ref (u 10), .ref (u 11), .ref (u 12), .ref (u 13), .int 0, .int 0, .ref (u 14), .ref (u 15), .ref (u 16), .ref (u 17), .ref (u 18), .ref (u 19), .ref (u 20), .ref (u 21), .ref (u 22), .ref (u 23), .int 0, .int 0, .int 0, .int (-1), .int 0, .int 0, .int 0, .ref (u 24), .int 0, .int 0, .ref (u 25), .ref (u 26), .int 0, .int 0, .null, .null, .null, .null, .null, .null, .null, .null, .int 0, .int 0, .null, .null, .null, .null, .int 0, .int 0, .null, .null, .null, .int 0, .int 0, .int 0, .int 0, .int 0, .null, .null, .int 0, .null, .null, .null, .null, .null, .null, .null, .null, .int 0, .null, .null, .null, .null, .null, .null, .null, .null, .null, .null, .int 0, .null, .null, .int 0, .null, .null, .null, .null]
theorem ctFs_26 (u : Nat → Nat) : (ctF_26 u).set 40 (.ref (u 26)) = ctF_27 u := rfl
def ctF_28 (u : Nat → Nat) : List Value := [.int 0, .int 0, .ref (u 1), .int 0, .ref (u 2), .ref (u 3), .ref (u 4), .int 0, .ref (u 5), .ref (u 6), .ref (u 7), .ref (u 8), .ref (u 9), .ref (u 10), .ref (u 11), .ref (u 12), .ref (u 13), .int 0, .int 0, .ref (u 14), .ref (u 15), .ref (u 16), .ref (u 17), .ref (u 18), .ref (u 19), .ref (u 20), .ref (u 21), .ref (u 22), .ref (u 23), .int 0, .int 0, .int 0, .int (-1), .int 0, .int 0, .int 0, .ref (u 24), .int 0, .int 0, .ref (u 25), .ref (u 26), .int 0, .int 0, .ref (u 27), .null, .null, .null, .null, .null, .null, .null, .int 0, .int 0, .null, .null, .null, .null, .int 0, .int 0, .null, .null, .null, .int 0, .int 0, .int 0, .int 0, .int 0, .null, .null, .int 0, .null, .null, .null, .null, .null, .null, .null, .null, .int 0, .null, .null, .null, .null, .null, .null, .null, .null, .null, .null, .int 0, .null, .null, .int 0, .null, .null, .null, .null]
theorem ctFs_27 (u : Nat → Nat) : (ctF_27 u).set 43 (.ref (u 27)) = ctF_28 u := rfl
def ctF_29 (u : Nat → Nat) : List Value := [.int 0, .int 0, .ref (u 1), .int 0, .ref (u 2), .ref (u 3), .ref (u 4), .int 0, .ref (u 5), .ref (u 6), .ref (u 7), .ref (u 8), .ref (u 9), .ref (u 10), .ref (u 11), .ref (u 12), .ref (u 13), .int 0, .int 0, .ref (u 14), .ref (u 15), .ref (u 16), .ref (u 17), .ref (u 18), .ref (u 19), .ref (u 20), .ref (u 21), .ref (u 22), .ref (u 23), .int 0, .int 0, .int 0, .int (-1), .int 0, .int 0, .int 0, .ref (u 24), .int 0, .int 0, .ref (u 25), .ref (u 26), .int 0, .int 0, .ref (u 27), .ref (u 28), .null, .null, .null, .null, .null, .null, .int 0, .int 0, .null, .null, .null, .null, .int 0, .int 0, .null, .null, .null, .int 0, .int 0, .int 0, .int 0, .int 0, .null, .null, .int 0, .null, .null, .null, .null, .null, .null, .null, .null, .int 0, .null, .null, .null, .null, .null, .null, .null, .null, .null, .null, .int 0, .null, .null, .int 0, .null, .null, .null, .null]
theorem ctFs_28 (u : Nat → Nat) : (ctF_28 u).set 44 (.ref (u 28)) = ctF_29 u := rfl
def ctF_30 (u : Nat → Nat) : List Value := [.int 0, .int 0, .ref (u 1), .int 0, .ref (u 2), .ref (u 3), .ref (u 4), .int 0, .ref (u 5), .ref (u 6), .ref (u 7), .ref (u 8), .ref (u 9), .ref (u 10), .ref (u 11), .ref (u 12), .ref (u 13), .int 0, .int 0, .ref (u 14), .ref (u 15), .ref (u 16), .ref (u 17), .ref (u 18), .ref (u 19), .ref (u 20), .ref (u 21), .ref (u 22), .ref (u 23), .int 0, .int 0, .int 0, .int (-1), .int 0, .int 0, .int 0, .ref (u 24), .int 0, .int 0, .ref (u 25), .ref (u 26), .int 0, .int 0, .ref (u 27), .ref (u 28), .ref (u 29), .null, .null, .null, .null, .null, .int 0, .int 0, .null, .null, .null, .null, .int 0, .int 0, .null, .null, .null, .int 0, .int 0, .int 0, .int 0, .int 0, .null, .null, .int 0, .null, .null, .null, .null, .null, .null, .null, .null, .int 0, .null, .null, .null, .null, .null, .null, .null, .null, .null, .null, .int 0, .null, .null, .int 0, .null, .null, .null, .null]
theorem ctFs_29 (u : Nat → Nat) : (ctF_29 u).set 45 (.ref (u 29)) = ctF_30 u := rfl
def ctF_31 (u : Nat → Nat) : List Value := [.int 0, .int 0, .ref (u 1), .int 0, .ref (u 2), .ref (u 3), .ref (u 4), .int 0, .ref (u 5), .ref (u 6), .ref (u 7), .ref (u 8), .ref (u 9), .ref (u 10), .ref (u 11), .ref (u 12), .ref (u 13), .int 0, .int 0, .ref (u 14), .ref (u 15), .ref (u 16), .ref (u 17), .ref (u 18), .ref (u 19), .ref (u 20), .ref (u 21), .ref (u 22), .ref (u 23), .int 0, .int 0, .int 0, .int (-1), .int 0, .int 0, .int 0, .ref (u 24), .int 0, .int 0, .ref (u 25), .ref (u 26), .int 0, .int 0, .ref (u 27), .ref (u 28), .ref (u 29), .ref (u 30), .null, .null, .null, .null, .int 0, .int 0, .null, .null, .null, .null, .int 0, .int 0, .null, .null, .null, .int 0, .int 0, .int 0, .int 0, .int 0, .null, .null, .int 0, .null, .null, .null, .null, .null, .null, .null, .null, .int 0, .null, .null, .null, .null, .null, .null, .null, .null, .null, .null, .int 0, .null, .null, .int 0, .null, .null, .null, .null]
theorem ctFs_30 (u : Nat → Nat) : (ctF_30 u).set 46 (.ref (u 30)) = ctF_31 u := rfl
def ctF_32 (u : Nat → Nat) : List Value := [.int 0, .int 0, .ref (u 1), .int 0, .ref (u 2), .ref (u 3), .ref (u 4), .int 0, .ref (u 5), .ref (u 6), .ref (u 7), .ref (u 8), .ref (u 9), .ref (u 10), .ref (u 11), .ref (u 12), .ref (u 13), .int 0, .int 0, .ref (u 14), .ref (u 15), .ref (u 16), .ref (u 17), .ref (u 18), .ref (u 19), .ref (u 20), .ref (u 21), .ref (u 22), .ref (u 23), .int 0, .int 0, .int 0, .int (-1), .int 0, .int 0, .int 0, .ref (u 24), .int 0, .int 0, .ref (u 25), .ref (u 26), .int 0, .int 0, .ref (u 27), .ref (u 28), .ref (u 29), .ref (u 30), .ref (u 31), .null, .null, .null, .int 0, .int 0, .null, .null, .null, .null, .int 0, .int 0, .null, .null, .null, .int 0, .int 0, .int 0, .int 0, .int 0, .null, .null, .int 0, .null, .null, .null, .null, .null, .null, .null, .null, .int 0, .null, .null, .null, .null, .null, .null, .null, .null, .null, .null, .int 0, .null, .null, .int 0, .null, .null, .null, .null]
theorem ctFs_31 (u : Nat → Nat) : (ctF_31 u).set 47 (.ref (u 31)) = ctF_32 u := rfl
def ctF_33 (u : Nat → Nat) : List Value := [.int 0, .int 0, .ref (u 1), .int 0, .ref (u 2), .ref (u 3), .ref (u 4), .int 0, .ref (u 5), .ref (u 6), .ref (u 7), .ref (u 8), .ref (u 9), .ref (u 10), .ref (u 11), .ref (u 12), .ref (u 13), .int 0, .int 0, .ref (u 14), .ref (u 15), .ref (u 16), .ref (u 17), .ref (u 18), .ref (u 19), .ref (u 20), .ref (u 21), .ref (u 22), .ref (u 23), .int 0, .int 0, .int 0, .int (-1), .int 0, .int 0, .int 0, .ref (u 24), .int 0, .int 0, .ref (u 25), .ref (u 26), .int 0, .int 0, .ref (u 27), .ref (u 28), .ref (u 29), .ref (u 30), .ref (u 31), .ref (u 32), .null, .null, .int 0, .int 0, .null, .null, .null, .null, .int 0, .int 0, .null, .null, .null, .int 0, .int 0, .int 0, .int 0, .int 0, .null, .null, .int 0, .null, .null, .null, .null, .null, .null, .null, .null, .int 0, .null, .null, .null, .null, .null, .null, .null, .null, .null, .null, .int 0, .null, .null, .int 0, .null, .null, .null, .null]
theorem ctFs_32 (u : Nat → Nat) : (ctF_32 u).set 48 (.ref (u 32)) = ctF_33 u := rfl
def ctF_34 (u : Nat → Nat) : List Value := [.int 0, .int 0, .ref (u 1), .int 0, .ref (u 2), .ref (u 3), .ref (u 4), .int 0, .ref (u 5), .ref (u 6), .ref (u 7), .ref (u 8), .ref (u 9), .ref (u 10), .ref (u 11), .ref (u 12), .ref (u 13), .int 0, .int 0, .ref (u 14), .ref (u 15), .ref (u 16), .ref (u 17), .ref (u 18), .ref (u 19), .ref (u 20), .ref (u 21), .ref (u 22), .ref (u 23), .int 0, .int 0, .int 0, .int (-1), .int 0, .int 0, .int 0, .ref (u 24), .int 0, .int 0, .ref (u 25), .ref (u 26), .int 0, .int 0, .ref (u 27), .ref (u 28), .ref (u 29), .ref (u 30), .ref (u 31), .ref (u 32), .ref (u 33), .null, .int 0, .int 0, .null, .null, .null, .null, .int 0, .int 0, .null, .null, .null, .int 0, .int 0, .int 0, .int 0, .int 0, .null, .null, .int 0, .null, .null, .null, .null, .null, .null, .null, .null, .int 0, .null, .null, .null, .null, .null, .null, .null, .null, .null, .null, .int 0, .null, .null, .int 0, .null, .null, .null, .null]
theorem ctFs_33 (u : Nat → Nat) : (ctF_33 u).set 49 (.ref (u 33)) = ctF_34 u := rfl
def ctF_35 (u : Nat → Nat) : List Value := [.int 0, .int 0, .ref (u 1), .int 0, .ref (u 2), .ref (u 3), .ref (u 4), .int 0, .ref (u 5), .ref (u 6), .ref (u 7), .ref (u 8), .ref (u 9), .ref (u 10), .ref (u 11), .ref (u 12), .ref (u 13), .int 0, .int 0, .ref (u 14), .ref (u 15), .ref (u 16), .ref (u 17), .ref (u 18), .ref (u 19), .ref (u 20), .ref (u 21), .ref (u 22), .ref (u 23), .int 0, .int 0, .int 0, .int (-1), .int 0, .int 0, .int 0, .ref (u 24), .int 0, .int 0, .ref (u 25), .ref (u 26), .int 0, .int 0, .ref (u 27), .ref (u 28), .ref (u 29), .ref (u 30), .ref (u 31), .ref (u 32), .ref (u 33), .ref (u 34), .int 0, .int 0, .null, .null, .null, .null, .int 0, .int 0, .null, .null, .null, .int 0, .int 0, .int 0, .int 0, .int 0, .null, .null, .int 0, .null, .null, .null, .null, .null, .null, .null, .null, .int 0, .null, .null, .null, .null, .null, .null, .null, .null, .null, .null, .int 0, .null, .null, .int 0, .null, .null, .null, .null]
theorem ctFs_34 (u : Nat → Nat) : (ctF_34 u).set 50 (.ref (u 34)) = ctF_35 u := rfl
def ctF_36 (u : Nat → Nat) : List Value := [.int 0, .int 0, .ref (u 1), .int 0, .ref (u 2), .ref (u 3), .ref (u 4), .int 0, .ref (u 5), .ref (u 6), .ref (u 7), .ref (u 8), .ref (u 9), .ref (u 10), .ref (u 11), .ref (u 12), .ref (u 13), .int 0, .int 0, .ref (u 14), .ref (u 15), .ref (u 16), .ref (u 17), .ref (u 18), .ref (u 19), .ref (u 20), .ref (u 21), .ref (u 22), .ref (u 23), .int 0, .int 0, .int 0, .int (-1), .int 0, .int 0, .int 0, .ref (u 24), .int 0, .int 0, .ref (u 25), .ref (u 26), .int 0, .int 0, .ref (u 27), .ref (u 28), .ref (u 29), .ref (u 30), .ref (u 31), .ref (u 32), .ref (u 33), .ref (u 34), .int 0, .int 0, .ref (u 35), .null, .null, .null, .int 0, .int 0, .null, .null, .null, .int 0, .int 0, .int 0, .int 0, .int 0, .null, .null, .int 0, .null, .null, .null, .null, .null, .null, .null, .null, .int 0, .null, .null, .null, .null, .null, .null, .null, .null, .null, .null, .int 0, .null, .null, .int 0, .null, .null, .null, .null]
theorem ctFs_35 (u : Nat → Nat) : (ctF_35 u).set 53 (.ref (u 35)) = ctF_36 u := rfl
def ctF_37 (u : Nat → Nat) : List Value := [.int 0, .int 0, .ref (u 1), .int 0, .ref (u 2), .ref (u 3), .ref (u 4), .int 0, .ref (u 5), .ref (u 6), .ref (u 7), .ref (u 8), .ref (u 9), .ref (u 10), .ref (u 11), .ref (u 12), .ref (u 13), .int 0, .int 0, .ref (u 14), .ref (u 15), .ref (u 16), .ref (u 17), .ref (u 18), .ref (u 19), .ref (u 20), .ref (u 21), .ref (u 22), .ref (u 23), .int 0, .int 0, .int 0, .int (-1), .int 0, .int 0, .int 0, .ref (u 24), .int 0, .int 0, .ref (u 25), .ref (u 26), .int 0, .int 0, .ref (u 27), .ref (u 28), .ref (u 29), .ref (u 30), .ref (u 31), .ref (u 32), .ref (u 33), .ref (u 34), .int 0, .int 0, .ref (u 35), .ref (u 36), .null, .null, .int 0, .int 0, .null, .null, .null, .int 0, .int 0, .int 0, .int 0, .int 0, .null, .null, .int 0, .null, .null, .null, .null, .null, .null, .null, .null, .int 0, .null, .null, .null, .null, .null, .null, .null, .null, .null, .null, .int 0, .null, .null, .int 0, .null, .null, .null, .null]
theorem ctFs_36 (u : Nat → Nat) : (ctF_36 u).set 54 (.ref (u 36)) = ctF_37 u := rfl
def ctF_38 (u : Nat → Nat) : List Value := [.int 0, .int 0, .ref (u 1), .int 0, .ref (u 2), .ref (u 3), .ref (u 4), .int 0, .ref (u 5), .ref (u 6), .ref (u 7), .ref (u 8), .ref (u 9), .ref (u 10), .ref (u 11), .ref (u 12), .ref (u 13), .int 0, .int 0, .ref (u 14), .ref (u 15), .ref (u 16), .ref (u 17), .ref (u 18), .ref (u 19), .ref (u 20), .ref (u 21), .ref (u 22), .ref (u 23), .int 0, .int 0, .int 0, .int (-1), .int 0, .int 0, .int 0, .ref (u 24), .int 0, .int 0, .ref (u 25), .ref (u 26), .int 0, .int 0, .ref (u 27), .ref (u 28), .ref (u 29), .ref (u 30), .ref (u 31), .ref (u 32), .ref (u 33), .ref (u 34), .int 0, .int 0, .ref (u 35), .ref (u 36), .ref (u 37), .null, .int 0, .int 0, .null, .null, .null, .int 0, .int 0, .int 0, .int 0, .int 0, .null, .null, .int 0, .null, .null, .null, .null, .null, .null, .null, .null, .int 0, .null, .null, .null, .null, .null, .null, .null, .null, .null, .null, .int 0, .null, .null, .int 0, .null, .null, .null, .null]
theorem ctFs_37 (u : Nat → Nat) : (ctF_37 u).set 55 (.ref (u 37)) = ctF_38 u := rfl
def ctF_39 (u : Nat → Nat) : List Value := [.int 0, .int 0, .ref (u 1), .int 0, .ref (u 2), .ref (u 3), .ref (u 4), .int 0, .ref (u 5), .ref (u 6), .ref (u 7), .ref (u 8), .ref (u 9), .ref (u 10), .ref (u 11), .ref (u 12), .ref (u 13), .int 0, .int 0, .ref (u 14), .ref (u 15), .ref (u 16), .ref (u 17), .ref (u 18), .ref (u 19), .ref (u 20), .ref (u 21), .ref (u 22), .ref (u 23), .int 0, .int 0, .int 0, .int (-1), .int 0, .int 0, .int 0, .ref (u 24), .int 0, .int 0, .ref (u 25), .ref (u 26), .int 0, .int 0, .ref (u 27), .ref (u 28), .ref (u 29), .ref (u 30), .ref (u 31), .ref (u 32), .ref (u 33), .ref (u 34), .int 0, .int 0, .ref (u 35), .ref (u 36), .ref (u 37), .ref (u 38), .int 0, .int 0, .null, .null, .null, .int 0, .int 0, .int 0, .int 0, .int 0, .null, .null, .int 0, .null, .null, .null, .null, .null, .null, .null, .null, .int 0, .null, .null, .null, .null, .null, .null, .null, .null, .null, .null, .int 0, .null, .null, .int 0, .null, .null, .null, .null]
theorem ctFs_38 (u : Nat → Nat) : (ctF_38 u).set 56 (.ref (u 38)) = ctF_39 u := rfl
def ctF_40 (u : Nat → Nat) : List Value := [.int 0, .int 0, .ref (u 1), .int 0, .ref (u 2), .ref (u 3), .ref (u 4), .int 0, .ref (u 5), .ref (u 6), .ref (u 7), .ref (u 8), .ref (u 9), .ref (u 10), .ref (u 11), .ref (u 12), .ref (u 13), .int 0, .int 0, .ref (u 14), .ref (u 15), .ref (u 16), .ref (u 17), .ref (u 18), .ref (u 19), .ref (u 20), .ref (u 21), .ref (u 22), .ref (u 23), .int 0, .int 0, .int 0, .int (-1), .int 0, .int 0, .int 0, .ref (u 24), .int 0, .int 0, .ref (u 25), .ref (u 26), .int 0, .int 0, .ref (u 27), .ref (u 28), .ref (u 29), .ref (u 30), .ref (u 31), .ref (u 32), .ref (u 33), .ref (u 34), .int 0, .int 0, .ref (u 35), .ref (u 36), .ref (u 37), .ref (u 38), .int 0, .int 0, .ref (u 39), .null, .null, .int 0, .int 0, .int 0, .int 0, .int 0, .null, .null, .int 0, .null, .null, .null, .null, .null, .null, .null, .null, .int 0, .null, .null, .null, .null, .null, .null, .null, .null, .null, .null, .int 0, .null, .null, .int 0, .null, .null, .null, .null]
theorem ctFs_39 (u : Nat → Nat) : (ctF_39 u).set 59 (.ref (u 39)) = ctF_40 u := rfl
def ctF_41 (u : Nat → Nat) : List Value := [.int 0, .int 0, .ref (u 1), .int 0, .ref (u 2), .ref (u 3), .ref (u 4), .int 0, .ref (u 5), .ref (u 6), .ref (u 7), .ref (u 8), .ref (u 9), .ref (u 10), .ref (u 11), .ref (u 12), .ref (u 13), .int 0, .int 0, .ref (u 14), .ref (u 15), .ref (u 16), .ref (u 17), .ref (u 18), .ref (u 19), .ref (u 20), .ref (u 21), .ref (u 22), .ref (u 23), .int 0, .int 0, .int 0, .int (-1), .int 0, .int 0, .int 0, .ref (u 24), .int 0, .int 0, .ref (u 25), .ref (u 26), .int 0, .int 0, .ref (u 27), .ref (u 28), .ref (u 29), .ref (u 30), .ref (u 31), .ref (u 32), .ref (u 33), .ref (u 34), .int 0, .int 0, .ref (u 35), .ref (u 36), .ref (u 37), .ref (u 38), .int 0, .int 0, .ref (u 39), .ref (u 40), .null, .int 0, .int 0, .int 0, .int 0, .int 0, .null, .null, .int 0, .null, .null, .null, .null, .null, .null, .null, .null, .int 0, .null, .null, .null, .null, .null, .null, .null, .null, .null, .null, .int 0, .null, .null, .int 0, .null, .null, .null, .null]
theorem ctFs_40 (u : Nat → Nat) : (ctF_40 u).set 60 (.ref (u 40)) = ctF_41 u := rfl
def ctF_42 (u : Nat → Nat) : List Value := [.int 0, .int 0, .ref (u 1), .int 0, .ref (u 2), .ref (u 3), .ref (u 4), .int 0, .ref (u 5), .ref (u 6), .ref (u 7), .ref (u 8), .ref (u 9), .ref (u 10), .ref (u 11), .ref (u 12), .ref (u 13), .int 0, .int 0, .ref (u 14), .ref (u 15), .ref (u 16), .ref (u 17), .ref (u 18), .ref (u 19), .ref (u 20), .ref (u 21), .ref (u 22), .ref (u 23), .int 0, .int 0, .int 0, .int (-1), .int 0, .int 0, .int 0, .ref (u 24), .int 0, .int 0, .ref (u 25), .ref (u 26), .int 0, .int 0, .ref (u 27), .ref (u 28), .ref (u 29), .ref (u 30), .ref (u 31), .ref (u 32), .ref (u 33), .ref (u 34), .int 0, .int 0, .ref (u 35), .ref (u 36), .ref (u 37), .ref (u 38), .int 0, .int 0, .ref (u 39), .ref (u 40), .ref (u 41), .int 0, .int 0, .int 0, .int 0, .int 0, .null, .null, .int 0, .null, .null, .null, .null, .null, .null, .null, .null, .int 0, .null, .null, .null, .null, .null, .null, .null, .null, .null, .null, .int 0, .null, .null, .int 0, .null, .null, .null, .null]
theorem ctFs_41 (u : Nat → Nat) : (ctF_41 u).set 61 (.ref (u 41)) = ctF_42 u := rfl
def ctF_43 (u : Nat → Nat) : List Value := [.int 0, .int 0, .ref (u 1), .int 0, .ref (u 2), .ref (u 3), .ref (u 4), .int 0, .ref (u 5), .ref (u 6), .ref (u 7), .ref (u 8), .ref (u 9), .ref (u 10), .ref (u 11), .ref (u 12), .ref (u 13), .int 0, .int 0, .ref (u 14), .ref (u 15), .ref (u 16), .ref (u 17), .ref (u 18), .ref (u 19), .ref (u 20), .ref (u 21), .ref (u 22), .ref (u 23), .int 0, .int 0, .int 0, .int (-1), .int 0, .int 0, .int 0, .ref (u 24), .int 0, .int 0, .ref (u 25), .ref (u 26), .int 0, .int 0, .ref (u 27), .ref (u 28), .ref (u 29), .ref (u 30), .ref (u 31), .ref (u 32), .ref (u 33), .ref (u 34), .int 0, .int 0, .ref (u 35), .ref (u 36), .ref (u 37), .ref (u 38), .int 0, .int 0, .ref (u 39), .ref (u 40), .ref (u 41), .int 0, .int 0, .int 0, .int 0, .int 0, .ref (u 42), .null, .int 0, .null, .null, .null, .null, .null, .null, .null, .null, .int 0, .null, .null, .null, .null, .null, .null, .null, .null, .null, .null, .int 0, .null, .null, .int 0, .null, .null, .null, .null]
theorem ctFs_42 (u : Nat → Nat) : (ctF_42 u).set 67 (.ref (u 42)) = ctF_43 u := rfl
def ctF_44 (u : Nat → Nat) : List Value := [.int 0, .int 0, .ref (u 1), .int 0, .ref (u 2), .ref (u 3), .ref (u 4), .int 0, .ref (u 5), .ref (u 6), .ref (u 7), .ref (u 8), .ref (u 9), .ref (u 10), .ref (u 11), .ref (u 12), .ref (u 13), .int 0, .int 0, .ref (u 14), .ref (u 15), .ref (u 16), .ref (u 17), .ref (u 18), .ref (u 19), .ref (u 20), .ref (u 21), .ref (u 22), .ref (u 23), .int 0, .int 0, .int 0, .int (-1), .int 0, .int 0, .int 0, .ref (u 24), .int 0, .int 0, .ref (u 25), .ref (u 26), .int 0, .int 0, .ref (u 27), .ref (u 28), .ref (u 29), .ref (u 30), .ref (u 31), .ref (u 32), .ref (u 33), .ref (u 34), .int 0, .int 0, .ref (u 35), .ref (u 36), .ref (u 37), .ref (u 38), .int 0, .int 0, .ref (u 39), .ref (u 40), .ref (u 41), .int 0, .int 0, .int 0, .int 0, .int 0, .ref (u 42), .ref (u 43), .int 0, .null, .null, .null, .null, .null, .null, .null, .null, .int 0, .null, .null, .null, .null, .null, .null, .null, .null, .null, .null, .int 0, .null, .null, .int 0, .null, .null, .null, .null]
theorem ctFs_43 (u : Nat → Nat) : (ctF_43 u).set 68 (.ref (u 43)) = ctF_44 u := rfl
def ctF_45 (u : Nat → Nat) : List Value := [.int 0, .int 0, .ref (u 1), .int 0, .ref (u 2), .ref (u 3), .ref (u 4), .int 0, .ref (u 5), .ref (u 6), .ref (u 7), .ref (u 8), .ref (u 9), .ref (u 10), .ref (u 11), .ref (u 12), .ref (u 13), .int 0, .int 0, .ref (u 14), .ref (u 15), .ref (u 16), .ref (u 17), .ref (u 18), .ref (u 19), .ref (u 20), .ref (u 21), .ref (u 22), .ref (u 23), .int 0, .int 0, .int 0, .int (-1), .int 0, .int 0, .int 0, .ref (u 24), .int 0, .int 0, .ref (u 25), .ref (u 26), .int 0, .int 0, .ref (u 27), .ref (u 28), .ref (u 29), .ref (u 30), .ref (u 31), .ref (u 32), .ref (u 33), .ref (u 34), .int 0, .int 0, .ref (u 35), .ref (u 36), .ref (u 37), .ref (u 38), .int 0, .int 0, .ref (u 39), .ref (u 40), .ref (u 41), .int 0, .int 0, .int 0, .int 0, .int 0, .ref (u 42), .ref (u 43), .int 0, .ref (u 44), .null, .null, .null, .null, .null, .null, .null, .int 0, .null, .null, .null, .null, .null, .null, .null, .null, .null, .null, .int 0, .null, .null, .int 0, .null, .null, .null, .null]
theorem ctFs_44 (u : Nat → Nat) : (ctF_44 u).set 70 (.ref (u 44)) = ctF_45 u := rfl
def ctF_46 (u : Nat → Nat) : List Value := [.int 0, .int 0, .ref (u 1), .int 0, .ref (u 2), .ref (u 3), .ref (u 4), .int 0, .ref (u 5), .ref (u 6), .ref (u 7), .ref (u 8), .ref (u 9), .ref (u 10), .ref (u 11), .ref (u 12), .ref (u 13), .int 0, .int 0, .ref (u 14), .ref (u 15), .ref (u 16), .ref (u 17), .ref (u 18), .ref (u 19), .ref (u 20), .ref (u 21), .ref (u 22), .ref (u 23), .int 0, .int 0, .int 0, .int (-1), .int 0, .int 0, .int 0, .ref (u 24), .int 0, .int 0, .ref (u 25), .ref (u 26), .int 0, .int 0, .ref (u 27), .ref (u 28), .ref (u 29), .ref (u 30), .ref (u 31), .ref (u 32), .ref (u 33), .ref (u 34), .int 0, .int 0, .ref (u 35), .ref (u 36), .ref (u 37), .ref (u 38), .int 0, .int 0, .ref (u 39), .ref (u 40), .ref (u 41), .int 0, .int 0, .int 0, .int 0, .int 0, .ref (u 42), .ref (u 43), .int 0, .ref (u 44), .ref (u 45), .null, .null, .null, .null, .null, .null, .int 0, .null, .null, .null, .null, .null, .null, .null, .null, .null, .null, .int 0, .null, .null, .int 0, .null, .null, .null, .null]
theorem ctFs_45 (u : Nat → Nat) : (ctF_45 u).set 71 (.ref (u 45)) = ctF_46 u := rfl
def ctF_47 (u : Nat → Nat) : List Value := [.int 0, .int 0, .ref (u 1), .int 0, .ref (u 2), .ref (u 3), .ref (u 4), .int 0, .ref (u 5), .ref (u 6), .ref (u 7), .ref (u 8), .ref (u 9), .ref (u 10), .ref (u 11), .ref (u 12), .ref (u 13), .int 0, .int 0, .ref (u 14), .ref (u 15), .ref (u 16), .ref (u 17), .ref (u 18), .ref (u 19), .ref (u 20), .ref (u 21), .ref (u 22), .ref (u 23), .int 0, .int 0, .int 0, .int (-1), .int 0, .int 0, .int 0, .ref (u 24), .int 0, .int 0, .ref (u 25), .ref (u 26), .int 0, .int 0, .ref (u 27), .ref (u 28), .ref (u 29), .ref (u 30), .ref (u 31), .ref (u 32), .ref (u 33), .ref (u 34), .int 0, .int 0, .ref (u 35), .ref (u 36), .ref (u 37), .ref (u 38), .int 0, .int 0, .ref (u 39), .ref (u 40), .ref (u 41), .int 0, .int 0, .int 0, .int 0, .int 0, .ref (u 42), .ref (u 43), .int 0, .ref (u 44), .ref (u 45), .ref (u 46), .null, .null, .null, .null, .null, .int 0, .null, .null, .null, .null, .null, .null, .null, .null, .null, .null, .int 0, .null, .null, .int 0, .null, .null, .null, .null]
theorem ctFs_46 (u : Nat → Nat) : (ctF_46 u).set 72 (.ref (u 46)) = ctF_47 u := rfl
def ctF_48 (u : Nat → Nat) : List Value := [.int 0, .int 0, .ref (u 1), .int 0, .ref (u 2), .ref (u 3), .ref (u 4), .int 0, .ref (u 5), .ref (u 6), .ref (u 7), .ref (u 8), .ref (u 9), .ref (u 10), .ref (u 11), .ref (u 12), .ref (u 13), .int 0, .int 0, .ref (u 14), .ref (u 15), .ref (u 16), .ref (u 17), .ref (u 18), .ref (u 19), .ref (u 20), .ref (u 21), .ref (u 22), .ref (u 23), .int 0, .int 0, .int 0, .int (-1), .int 0, .int 0, .int 0, .ref (u 24), .int 0, .int 0, .ref (u 25), .ref (u 26), .int 0, .int 0, .ref (u 27), .ref (u 28), .ref (u 29), .ref (u 30), .ref (u 31), .ref (u 32), .ref (u 33), .ref (u 34), .int 0, .int 0, .ref (u 35), .ref (u 36), .ref (u 37), .ref (u 38), .int 0, .int 0, .ref (u 39), .ref (u 40), .ref (u 41), .int 0, .int 0, .int 0, .int 0, .int 0, .ref (u 42), .ref (u 43), .int 0, .ref (u 44), .ref (u 45), .ref (u 46), .ref (u 47), .null, .null, .null, .null, .int 0, .null, .null, .null, .null, .null, .null, .null, .null, .null, .null, .int 0, .null, .null, .int 0, .null, .null, .null, .null]
theorem ctFs_47 (u : Nat → Nat) : (ctF_47 u).set 73 (.ref (u 47)) = ctF_48 u := rfl
def ctF_49 (u : Nat → Nat) : List Value := [.int 0, .int 0, .ref (u 1), .int 0, .ref (u 2), .ref (u 3), .ref (u 4), .int 0, .ref (u 5), .ref (u 6), .ref (u 7), .ref (u 8), .ref (u 9), .ref (u 10), .ref (u 11), .ref (u 12), .ref (u 13), .int 0, .int 0, .ref (u 14), .ref (u 15), .ref (u 16), .ref (u 17), .ref (u 18), .ref (u 19), .ref (u 20), .ref (u 21), .ref (u 22), .ref (u 23), .int 0, .int 0, .int 0, .int (-1), .int 0, .int 0, .int 0, .ref (u 24), .int 0, .int 0, .ref (u 25), .ref (u 26), .int 0, .int 0, .ref (u 27), .ref (u 28), .ref (u 29), .ref (u 30), .ref (u 31), .ref (u 32), .ref (u 33), .ref (u 34), .int 0, .int 0, .ref (u 35), .ref (u 36), .ref (u 37), .ref (u 38), .int 0, .int 0, .ref (u 39), .ref (u 40), .ref (u 41), .int 0, .int 0, .int 0, .int 0, .int 0, .ref (u 42), .ref (u 43), .int 0, .ref (u 44), .ref (u 45), .ref (u 46), .ref (u 47), .ref (u 48), .null, .null, .null, .int 0, .null, .null, .null, .null, .null, .null, .null, .null, .null, .null, .int 0, .null, .null, .int 0, .null, .null, .null, .null]
theorem ctFs_48 (u : Nat → Nat) : (ctF_48 u).set 74 (.ref (u 48)) = ctF_49 u := rfl
def ctF_50 (u : Nat → Nat) : List Value := [.int 0, .int 0, .ref (u 1), .int 0, .ref (u 2), .ref (u 3), .ref (u 4), .int 0, .ref (u 5), .ref (u 6), .ref (u 7), .ref (u 8), .ref (u 9), .ref (u 10), .ref (u 11), .ref (u 12), .ref (u 13), .int 0, .int 0, .ref (u 14), .ref (u 15), .ref (u 16), .ref (u 17), .ref (u 18), .ref (u 19), .ref (u 20), .ref (u 21), .ref (u 22), .ref (u 23), .int 0, .int 0, .int 0, .int (-1), .int 0, .int 0, .int 0, .ref (u 24), .int 0, .int 0, .ref (u 25), .ref (u 26), .int 0, .int 0, .ref (u 27), .ref (u 28), .ref (u 29), .ref (u 30), .ref (u 31), .ref (u 32), .ref (u 33), .ref (u 34), .int 0, .int 0, .ref (u 35), .ref (u 36), .ref (u 37), .ref (u 38), .int 0, .int 0, .ref (u 39), .ref (u 40), .ref (u 41), .int 0, .int 0, .int 0, .int 0, .int 0, .ref (u 42), .ref (u 43), .int 0, .ref (u 44), .ref (u 45), .ref (u 46), .ref (u 47), .ref (u 48), .ref (u 49), .null, .null, .int 0, .null, .null, .null, .null, .null, .null, .null, .null, .null, .null, .int 0, .null, .null, .int 0, .null, .null, .null, .null]
theorem ctFs_49 (u : Nat → Nat) : (ctF_49 u).set 75 (.ref (u 49)) = ctF_50 u := rfl
def ctF_51 (u : Nat → Nat) : List Value := [.int 0, .int 0, .ref (u 1), .int 0, .ref (u 2), .ref (u 3), .ref (u 4), .int 0, .ref (u 5), .ref (u 6), .ref (u 7), .ref (u 8), .ref (u 9), .ref (u 10), .ref (u 11), .ref (u 12), .ref (u 13), .int 0, .int 0, .ref (u 14), .ref (u 15), .ref (u 16), .ref (u 17), .ref (u 18), .ref (u 19), .ref (u 20), .ref (u 21), .ref (u 22), .ref (u 23), .int 0, .int 0, .int 0, .int (-1), .int 0, .int 0, .int 0, .ref (u 24), .int 0, .int 0, .ref (u 25), .ref (u 26), .int 0, .int 0, .ref (u 27), .ref (u 28), .ref (u 29), .ref (u 30), .ref (u 31), .ref (u 32), .ref (u 33), .ref (u 34), .int 0, .int 0, .ref (u 35), .ref (u 36), .ref (u 37), .ref (u 38), .int 0, .int 0, .ref (u 39), .ref (u 40), .ref (u 41), .int 0, .int 0, .int 0, .int 0, .int 0, .ref (u 42), .ref (u 43), .int 0, .ref (u 44), .ref (u 45), .ref (u 46), .ref (u 47), .ref (u 48), .ref (u 49), .ref (u 50), .null, .int 0, .null, .null, .null, .null, .null, .null, .null, .null, .null, .null, .int 0, .null, .null, .int 0, .null, .null, .null, .null]
theorem ctFs_50 (u : Nat → Nat) : (ctF_50 u).set 76 (.ref (u 50)) = ctF_51 u := rfl
def ctF_52 (u : Nat → Nat) : List Value := [.int 0, .int 0, .ref (u 1), .int 0, .ref (u 2), .ref (u 3), .ref (u 4), .int 0, .ref (u 5), .ref (u 6), .ref (u 7), .ref (u 8), .ref (u 9), .ref (u 10), .ref (u 11), .ref (u 12), .ref (u 13), .int 0, .int 0, .ref (u 14), .ref (u 15), .ref (u 16), .ref (u 17), .ref (u 18), .ref (u 19), .ref (u 20), .ref (u 21), .ref (u 22), .ref (u 23), .int 0, .int 0, .int 0, .int (-1), .int 0, .int 0, .int 0, .ref (u 24), .int 0, .int 0, .ref (u 25), .ref (u 26), .int 0, .int 0, .ref (u 27), .ref (u 28), .ref (u 29), .ref (u 30), .ref (u 31), .ref (u 32), .ref (u 33), .ref (u 34), .int 0, .int 0, .ref (u 35), .ref (u 36), .ref (u 37), .ref (u 38), .int 0, .int 0, .ref (u 39), .ref (u 40), .ref (u 41), .int 0, .int 0, .int 0, .int 0, .int 0, .ref (u 42), .ref (u 43), .int 0, .ref (u 44), .ref (u 45), .ref (u 46), .ref (u 47), .ref (u 48), .ref (u 49), .ref (u 50), .ref (u 51), .int 0, .null, .null, .null, .null, .null, .null, .null, .null, .null, .null, .int 0, .null, .null, .int 0, .null, .null, .null, .null]
theorem ctFs_51 (u : Nat → Nat) : (ctF_51 u).set 77 (.ref (u 51)) = ctF_52 u := rfl
def ctF_53 (u : Nat → Nat) : List Value := [.int 0, .int 0, .ref (u 1), .int 0, .ref (u 2), .ref (u 3), .ref (u 4), .int 0, .ref (u 5), .ref (u 6), .ref (u 7), .ref (u 8), .ref (u 9), .ref (u 10), .ref (u 11), .ref (u 12), .ref (u 13), .int 0, .int 0, .ref (u 14), .ref (u 15), .ref (u 16), .ref (u 17), .ref (u 18), .ref (u 19), .ref (u 20), .ref (u 21), .ref (u 22), .ref (u 23), .int 0, .int 0, .int 0, .int (-1), .int 0, .int 0, .int 0, .ref (u 24), .int 0, .int 0, .ref (u 25), .ref (u 26), .int 0, .int 0, .ref (u 27), .ref (u 28), .ref (u 29), .ref (u 30), .ref (u 31), .ref (u 32), .ref (u 33), .ref (u 34), .int 0, .int 0, .ref (u 35), .ref (u 36), .ref (u 37), .ref (u 38), .int 0, .int 0, .ref (u 39), .ref (u 40), .ref (u 41), .int 0, .int 0, .int 0, .int 0, .int 0, .ref (u 42), .ref (u 43), .int 0, .ref (u 44), .ref (u 45), .ref (u 46), .ref (u 47), .ref (u 48), .ref (u 49), .ref (u 50), .ref (u 51), .int 0, .ref (u 52), .null, .null, .null, .null, .null, .null, .null, .null, .null, .int 0, .null, .null, .int 0, .null, .null, .null, .null]
theorem ctFs_52 (u : Nat → Nat) : (ctF_52 u).set 79 (.ref (u 52)) = ctF_53 u := rfl
def ctF_54 (u : Nat → Nat) : List Value := [.int 0, .int 0, .ref (u 1), .int 0, .ref (u 2), .ref (u 3), .ref (u 4), .int 0, .ref (u 5), .ref (u 6), .ref (u 7), .ref (u 8), .ref (u 9), .ref (u 10), .ref (u 11), .ref (u 12), .ref (u 13), .int 0, .int 0, .ref (u 14), .ref (u 15), .ref (u 16), .ref (u 17), .ref (u 18), .ref (u 19), .ref (u 20), .ref (u 21), .ref (u 22), .ref (u 23), .int 0, .int 0, .int 0, .int (-1), .int 0, .int 0, .int 0, .ref (u 24), .int 0, .int 0, .ref (u 25), .ref (u 26), .int 0, .int 0, .ref (u 27), .ref (u 28), .ref (u 29), .ref (u 30), .ref (u 31), .ref (u 32), .ref (u 33), .ref (u 34), .int 0, .int 0, .ref (u 35), .ref (u 36), .ref (u 37), .ref (u 38), .int 0, .int 0, .ref (u 39), .ref (u 40), .ref (u 41), .int 0, .int 0, .int 0, .int 0, .int 0, .ref (u 42), .ref (u 43), .int 0, .ref (u 44), .ref (u 45), .ref (u 46), .ref (u 47), .ref (u 48), .ref (u 49), .ref (u 50), .ref (u 51), .int 0, .ref (u 52), .ref (u 53), .null, .null, .null, .null, .null, .null, .null, .null, .int 0, .null, .null, .int 0, .null, .null, .null, .null]
theorem ctFs_53 (u : Nat → Nat) : (ctF_53 u).set 80 (.ref (u 53)) = ctF_54 u := rfl
def ctF_55 (u : Nat → Nat) : List Value := [.int 0, .int 0, .ref (u 1), .int 0, .ref (u 2), .ref (u 3), .ref (u 4), .int 0, .ref (u 5), .ref (u 6), .ref (u 7), .ref (u 8), .ref (u 9), .ref (u 10), .ref (u 11), .ref (u 12), .ref (u 13), .int 0, .int 0, .ref (u 14), .ref (u 15), .ref (u 16), .ref (u 17), .ref (u 18), .ref (u 19), .ref (u 20), .ref (u 21), .ref (u 22), .ref (u 23), .int 0, .int 0, .int 0, .int (-1), .int 0, .int 0, .int 0, .ref (u 24), .int 0, .int 0, .ref (u 25), .ref (u 26), .int 0, .int 0, .ref (u 27), .ref (u 28), .ref (u 29), .ref (u 30), .ref (u 31), .ref (u 32), .ref (u 33), .ref (u 34), .int 0, .int 0, .ref (u 35), .ref (u 36), .ref (u 37), .ref (u 38), .int 0, .int 0, .ref (u 39), .ref (u 40), .ref (u 41), .int 0, .int 0, .int 0, .int 0, .int 0, .ref (u 42), .ref (u 43), .int 0, .ref (u 44), .ref (u 45), .ref (u 46), .ref (u 47), .ref (u 48), .ref (u 49), .ref (u 50), .ref (u 51), .int 0, .ref (u 52), .ref (u 53), .ref (u 54), .null, .null, .null, .null, .null, .null, .null, .int 0, .null, .null, .int 0, .null, .null, .null, .null]
theorem ctFs_54 (u : Nat → Nat) : (ctF_54 u).set 81 (.ref (u 54)) = ctF_55 u := rfl
def ctF_56 (u : Nat → Nat) : List Value := [.int 0, .int 0, .ref (u 1), .int 0, .ref (u 2), .ref (u 3), .ref (u 4), .int 0, .ref (u 5), .ref (u 6), .ref (u 7), .ref (u 8), .ref (u 9), .ref (u 10), .ref (u 11), .ref (u 12), .ref (u 13), .int 0, .int 0, .ref (u 14), .ref (u 15), .ref (u 16), .ref (u 17), .ref (u 18), .ref (u 19), .ref (u 20), .ref (u 21), .ref (u 22), .ref (u 23), .int 0, .int 0, .int 0, .int (-1), .int 0, .int 0, .int 0, .ref (u 24), .int 0, .int 0, .ref (u 25), .ref (u 26), .int 0, .int 0, .ref (u 27), .ref (u 28), .ref (u 29), .ref (u 30), .ref (u 31), .ref (u 32), .ref (u 33), .ref (u 34), .int 0, .int 0, .ref (u 35), .ref (u 36), .ref (u 37), .ref (u 38), .int 0, .int 0, .ref (u 39), .ref (u 40), .ref (u 41), .int 0, .int 0, .int 0, .int 0, .int 0, .ref (u 42), .ref (u 43), .int 0, .ref (u 44), .ref (u 45), .ref (u 46), .ref (u 47), .ref (u 48), .ref (u 49), .ref (u 50), .ref (u 51), .int 0, .ref (u 52), .ref (u 53), .ref (u 54), .ref (u 55), .null, .null, .null, .null, .null, .null, .int 0, .null, .null, .int 0, .null, .null, .null, .null]
theorem ctFs_55 (u : Nat → Nat) : (ctF_55 u).set 82 (.ref (u 55)) = ctF_56 u := rfl
def ctF_57 (u : Nat → Nat) : List Value := [.int 0, .int 0, .ref (u 1), .int 0, .ref (u 2), .ref (u 3), .ref (u 4), .int 0, .ref (u 5), .ref (u 6), .ref (u 7), .ref (u 8), .ref (u 9), .ref (u 10), .ref (u 11), .ref (u 12), .ref (u 13), .int 0, .int 0, .ref (u 14), .ref (u 15), .ref (u 16), .ref (u 17), .ref (u 18), .ref (u 19), .ref (u 20), .ref (u 21), .ref (u 22), .ref (u 23), .int 0, .int 0, .int 0, .int (-1), .int 0, .int 0, .int 0, .ref (u 24), .int 0, .int 0, .ref (u 25), .ref (u 26), .int 0, .int 0, .ref (u 27), .ref (u 28), .ref (u 29), .ref (u 30), .ref (u 31), .ref (u 32), .ref (u 33), .ref (u 34), .int 0, .int 0, .ref (u 35), .ref (u 36), .ref (u 37), .ref (u 38), .int 0, .int 0, .ref (u 39), .ref (u 40), .ref (u 41), .int 0, .int 0, .int 0, .int 0, .int 0, .ref (u 42), .ref (u 43), .int 0, .ref (u 44), .ref (u 45), .ref (u 46), .ref (u 47), .ref (u 48), .ref (u 49), .ref (u 50), .ref (u 51), .int 0, .ref (u 52), .ref (u 53), .ref (u 54), .ref (u 55), .ref (u 56), .null, .null, .null, .null, .null, .int 0, .null, .null, .int 0, .null, .null, .null, .null]
theorem ctFs_56 (u : Nat → Nat) : (ctF_56 u).set 83 (.ref (u 56)) = ctF_57 u := rfl
def ctF_58 (u : Nat → Nat) : List Value := [.int 0, .int 0, .ref (u 1), .int 0, .ref (u 2), .ref (u 3), .ref (u 4), .int 0, .ref (u 5), .ref (u 6), .ref (u 7), .ref (u 8), .ref (u 9), .ref (u 10), .ref (u 11), .ref (u 12), .ref (u 13), .int 0, .int 0, .ref (u 14), .ref (u 15), .ref (u 16), .ref (u 17), .ref (u 18), .ref (u 19), .ref (u 20), .ref (u 21), .ref (u 22), .ref (u 23), .int 0, .int 0, .int 0, .int (-1), .int 0, .int 0, .int 0, .ref (u 24), .int 0, .int 0, .ref (u 25), .ref (u 26), .int 0, .int 0, .ref (u 27), .ref (u 28), .ref (u 29), .ref (u 30), .ref (u 31), .ref (u 32), .ref (u 33), .ref (u 34), .int 0, .int 0, .ref (u 35), .ref (u 36), .ref (u 37), .ref (u 38), .int 0, .int 0, .ref (u 39), .ref (u 40), .ref (u 41), .int 0, .int 0, .int 0, .int 0, .int 0, .ref (u 42), .ref (u 43), .int 0, .ref (u 44), .ref (u 45), .ref (u 46), .ref (u 47), .ref (u 48), .ref (u 49), .ref (u 50), .ref (u 51), .int 0, .ref (u 52), .ref (u 53), .ref (u 54), .ref (u 55), .ref (u 56), .ref (u 57), .null, .null, .null, .null, .int 0, .null, .null, .int 0, .null, .null, .null, .null]
theorem ctFs_57 (u : Nat → Nat) : (ctF_57 u).set 84 (.ref (u 57)) = ctF_58 u := rfl
def ctF_59 (u : Nat → Nat) : List Value := [.int 0, .int 0, .ref (u 1), .int 0, .ref (u 2), .ref (u 3), .ref (u 4), .int 0, .ref (u 5), .ref (u 6), .ref (u 7), .ref (u 8), .ref (u 9), .ref (u 10), .ref (u 11), .ref (u 12), .ref (u 13), .int 0, .int 0, .ref (u 14), .ref (u 15), .ref (u 16), .ref (u 17), .ref (u 18), .ref (u 19), .ref (u 20), .ref (u 21), .ref (u 22), .ref (u 23), .int 0, .int 0, .int 0, .int (-1), .int 0, .int 0, .int 0, .ref (u 24), .int 0, .int 0, .ref (u 25), .ref (u 26), .int 0, .int 0, .ref (u 27), .ref (u 28), .ref (u 29), .ref (u 30), .ref (u 31), .ref (u 32), .ref (u 33), .ref (u 34), .int 0, .int 0, .ref (u 35), .ref (u 36), .ref (u 37), .ref (u 38), .int 0, .int 0, .ref (u 39), .ref (u 40), .ref (u 41), .int 0, .int 0, .int 0, .int 0, .int 0, .ref (u 42), .ref (u 43), .int 0, .ref (u 44), .ref (u 45), .ref (u 46), .ref (u 47), .ref (u 48), .ref (u 49), .ref (u 50), .ref (u 51), .int 0, .ref (u 52), .ref (u 53), .ref (u 54), .ref (u 55), .ref (u 56), .ref (u 57), .ref (u 58), .null, .null, .null, .int 0, .null, .null, .int 0, .null, .null, .null, .null]
theorem ctFs_58 (u : Nat → Nat) : (ctF_58 u).set 85 (.ref (u 58)) = ctF_59 u := rfl
def ctF_60 (u : Nat → Nat) : List Value := [.int 0, .int 0, .ref (u 1), .int 0, .ref (u 2), .ref (u 3), .ref (u 4), .int 0, .ref (u 5), .ref (u 6), .ref (u 7), .ref (u 8), .ref (u 9), .ref (u 10), .ref (u 11), .ref (u 12), .ref (u 13), .int 0, .int 0, .ref (u 14), .ref (u 15), .ref (u 16), .ref (u 17), .ref (u 18), .ref (u 19), .ref (u 20), .ref (u 21), .ref (u 22), .ref (u 23), .int 0, .int 0, .int 0, .int (-1), .int 0, .int 0, .int 0, .ref (u 24), .int 0, .int 0, .ref (u 25), .ref (u 26), .int 0, .int 0, .ref (u 27), .ref (u 28), .ref (u 29), .ref (u 30), .ref (u 31), .ref (u 32), .ref (u 33), .ref (u 34), .int 0, .int 0, .ref (u 35), .ref (u 36), .ref (u 37), .ref (u 38), .int 0, .int 0, .ref (u 39), .ref (u 40), .ref (u 41), .int 0, .int 0, .int 0, .int 0, .int 0, .ref (u 42), .ref (u 43), .int 0, .ref (u 44), .ref (u 45), .ref (u 46), .ref (u 47), .ref (u 48), .ref (u 49), .ref (u 50), .ref (u 51), .int 0, .ref (u 52), .ref (u 53), .ref (u 54), .ref (u 55), .ref (u 56), .ref (u 57), .ref (u 58), .ref (u 59), .null, .null, .int 0, .null, .null, .int 0, .null, .null, .null, .null]
theorem ctFs_59 (u : Nat → Nat) : (ctF_59 u).set 86 (.ref (u 59)) = ctF_60 u := rfl
def ctF_61 (u : Nat → Nat) : List Value := [.int 0, .int 0, .ref (u 1), .int 0, .ref (u 2), .ref (u 3), .ref (u 4), .int 0, .ref (u 5), .ref (u 6), .ref (u 7), .ref (u 8), .ref (u 9), .ref (u 10), .ref (u 11), .ref (u 12), .ref (u 13), .int 0, .int 0, .ref (u 14), .ref (u 15), .ref (u 16), .ref (u 17), .ref (u 18), .ref (u 19), .ref (u 20), .ref (u 21), .ref (u 22), .ref (u 23), .int 0, .int 0, .int 0, .int (-1), .int 0, .int 0, .int 0, .ref (u 24), .int 0, .int 0, .ref (u 25), .ref (u 26), .int 0, .int 0, .ref (u 27), .ref (u 28), .ref (u 29), .ref (u 30), .ref (u 31), .ref (u 32), .ref (u 33), .ref (u 34), .int 0, .int 0, .ref (u 35), .ref (u 36), .ref (u 37), .ref (u 38), .int 0, .int 0, .ref (u 39), .ref (u 40), .ref (u 41), .int 0, .int 0, .int 0, .int 0, .int 0, .ref (u 42), .ref (u 43), .int 0, .ref (u 44), .ref (u 45), .ref (u 46), .ref (u 47), .ref (u 48), .ref (u 49), .ref (u 50), .ref (u 51), .int 0, .ref (u 52), .ref (u 53), .ref (u 54), .ref (u 55), .ref (u 56), .ref (u 57), .ref (u 58), .ref (u 59), .ref (u 60), .null, .int 0, .null, .null, .int 0, .null, .null, .null, .null]
theorem ctFs_60 (u : Nat → Nat) : (ctF_60 u).set 87 (.ref (u 60)) = ctF_61 u := rfl
def ctF_62 (u : Nat → Nat) : List Value := [.int 0, .int 0, .ref (u 1), .int 0, .ref (u 2), .ref (u 3), .ref (u 4), .int 0, .ref (u 5), .ref (u 6), .ref (u 7), .ref (u 8), .ref (u 9), .ref (u 10), .ref (u 11), .ref (u 12), .ref (u 13), .int 0, .int 0, .ref (u 14), .ref (u 15), .ref (u 16), .ref (u 17), .ref (u 18), .ref (u 19), .ref (u 20), .ref (u 21), .ref (u 22), .ref (u 23), .int 0, .int 0, .int 0, .int (-1), .int 0, .int 0, .int 0, .ref (u 24), .int 0, .int 0, .ref (u 25), .ref (u 26), .int 0, .int 0, .ref (u 27), .ref (u 28), .ref (u 29), .ref (u 30), .ref (u 31), .ref (u 32), .ref (u 33), .ref (u 34), .int 0, .int 0, .ref (u 35), .ref (u 36), .ref (u 37), .ref (u 38), .int 0, .int 0, .ref (u 39), .ref (u 40), .ref (u 41), .int 0, .int 0, .int 0, .int 0, .int 0, .ref (u 42), .ref (u 43), .int 0, .ref (u 44), .ref (u 45), .ref (u 46), .ref (u 47), .ref (u 48), .ref (u 49), .ref (u 50), .ref (u 51), .int 0, .ref (u 52), .ref (u 53), .ref (u 54), .ref (u 55), .ref (u 56), .ref (u 57), .ref (u 58), .ref (u 59), .ref (u 60), .ref (u 61), .int 0, .null, .null, .int 0, .null, .null, .null, .null]
theorem ctFs_61 (u : Nat → Nat) : (ctF_61 u).set 88 (.ref (u 61)) = ctF_62 u := rfl
def ctF_63 (u : Nat → Nat) : List Value := [.int 0, .int 0, .ref (u 1), .int 0, .ref (u 2), .ref (u 3), .ref (u 4), .int 0, .ref (u 5), .ref (u 6), .ref (u 7), .ref (u 8), .ref (u 9), .ref (u 10), .ref (u 11), .ref (u 12), .ref (u 13), .int 0, .int 0, .ref (u 14), .ref (u 15), .ref (u 16), .ref (u 17), .ref (u 18), .ref (u 19), .ref (u 20), .ref (u 21), .ref (u 22), .ref (u 23), .int 0, .int 0, .int 0, .int (-1), .int 0, .int 0, .int 0, .ref (u 24), .int 0, .int 0, .ref (u 25), .ref (u 26), .int 0, .int 0, .ref (u 27), .ref (u 28), .ref (u 29), .ref (u 30), .ref (u 31), .ref (u 32), .ref (u 33), .ref (u 34), .int 0, .int 0, .ref (u 35), .ref (u 36), .ref (u 37), .ref (u 38), .int 0, .int 0, .ref (u 39), .ref (u 40), .ref (u 41), .int 0, .int 0, .int 0, .int 0, .int 0, .ref (u 42), .ref (u 43), .int 0, .ref (u 44), .ref (u 45), .ref (u 46), .ref (u 47), .ref (u 48), .ref (u 49), .ref (u 50), .ref (u 51), .int 0, .ref (u 52), .ref (u 53), .ref (u 54), .ref (u 55), .ref (u 56), .ref (u 57), .ref (u 58), .ref (u 59), .ref (u 60), .ref (u 61), .int 0, .ref (u 62), .null, .int 0, .null, .null, .null, .null]
theorem ctFs_62 (u : Nat → Nat) : (ctF_62 u).set 90 (.ref (u 62)) = ctF_63 u := rfl
def ctF_64 (u : Nat → Nat) : List Value := [.int 0, .int 0, .ref (u 1), .int 0, .ref (u 2), .ref (u 3), .ref (u 4), .int 0, .ref (u 5), .ref (u 6), .ref (u 7), .ref (u 8), .ref (u 9), .ref (u 10), .ref (u 11), .ref (u 12), .ref (u 13), .int 0, .int 0, .ref (u 14), .ref (u 15), .ref (u 16), .ref (u 17), .ref (u 18), .ref (u 19), .ref (u 20), .ref (u 21), .ref (u 22), .ref (u 23), .int 0, .int 0, .int 0, .int (-1), .int 0, .int 0, .int 0, .ref (u 24), .int 0, .int 0, .ref (u 25), .ref (u 26), .int 0, .int 0, .ref (u 27), .ref (u 28), .ref (u 29), .ref (u 30), .ref (u 31), .ref (u 32), .ref (u 33), .ref (u 34), .int 0, .int 0, .ref (u 35), .ref (u 36), .ref (u 37), .ref (u 38), .int 0, .int 0, .ref (u 39), .ref (u 40), .ref (u 41), .int 0, .int 0, .int 0, .int 0, .int 0, .ref (u 42), .ref (u 43), .int 0, .ref (u 44), .ref (u 45), .ref (u 46), .ref (u 47), .ref (u 48), .ref (u 49), .ref (u 50), .ref (u 51), .int 0, .ref (u 52), .ref (u 53), .ref (u 54), .ref (u 55), .ref (u 56), .ref (u 57), .ref (u 58), .ref (u 59), .ref (u 60), .ref (u 61), .int 0, .ref (u 62), .ref (u 63), .int 0, .null, .null, .null, .null]
theorem ctFs_63 (u : Nat → Nat) : (ctF_63 u).set 91 (.ref (u 63)) = ctF_64 u := rfl
def ctF_65 (u : Nat → Nat) : List Value := [.int 0, .int 0, .ref (u 1), .int 0, .ref (u 2), .ref (u 3), .ref (u 4), .int 0, .ref (u 5), .ref (u 6), .ref (u 7), .ref (u 8), .ref (u 9), .ref (u 10), .ref (u 11), .ref (u 12), .ref (u 13), .int 0, .int 0, .ref (u 14), .ref (u 15), .ref (u 16), .ref (u 17), .ref (u 18), .ref (u 19), .ref (u 20), .ref (u 21), .ref (u 22), .ref (u 23), .int 0, .int 0, .int 0, .int (-1), .int 0, .int 0, .int 0, .ref (u 24), .int 0, .int 0, .ref (u 25), .ref (u 26), .int 0, .int 0, .ref (u 27), .ref (u 28), .ref (u 29), .ref (u 30), .ref (u 31), .ref (u 32), .ref (u 33), .ref (u 34), .int 0, .int 0, .ref (u 35), .ref (u 36), .ref (u 37), .ref (u 38), .int 0, .int 0, .ref (u 39), .ref (u 40), .ref (u 41), .int 0, .int 0, .int 0, .int 0, .int 0, .ref (u 42), .ref (u 43), .int 0, .ref (u 44), .ref (u 45), .ref (u 46), .ref (u 47), .ref (u 48), .ref (u 49), .ref (u 50), .ref (u 51), .int 0, .ref (u 52), .ref (u 53), .ref (u 54), .ref (u 55), .ref (u 56), .ref (u 57), .ref (u 58), .ref (u 59), .ref (u 60), .ref (u 61), .int 0, .ref (u 62), .ref (u 63), .int 0, .ref (u 64), .null, .null, .null]
theorem ctFs_64 (u : Nat → Nat) : (ctF_64 u).set 93 (.ref (u 64)) = ctF_65 u := rfl
def ctF_66 (u : Nat → Nat) : List Value := [.int 0, .int 0, .ref (u 1), .int 0, .ref (u 2), .ref (u 3), .ref (u 4), .int 0, .ref (u 5), .ref (u 6), .ref (u 7), .ref (u 8), .ref (u 9), .ref (u 10), .ref (u 11), .ref (u 12), .ref (u 13), .int 0, .int 0, .ref (u 14), .ref (u 15), .ref (u 16), .ref (u 17), .ref (u 18), .ref (u 19), .ref (u 20), .ref (u 21), .ref (u 22), .ref (u 23), .int 0, .int 0, .int 0, .int (-1), .int 0, .int 0, .int 0, .ref (u 24), .int 0, .int 0, .ref (u 25), .ref (u 26), .int 0, .int 0, .ref (u 27), .ref (u 28), .ref (u 29), .ref (u 30), .ref (u 31), .ref (u 32), .ref (u 33), .ref (u 34), .int 0, .int 0, .ref (u 35), .ref (u 36), .ref (u 37), .ref (u 38), .int 0, .int 0, .ref (u 39), .ref (u 40), .ref (u 41), .int 0, .int 0, .int 0, .int 0, .int 0, .ref (u 42), .ref (u 43), .int 0, .ref (u 44), .ref (u 45), .ref (u 46), .ref (u 47), .ref (u 48), .ref (u 49), .ref (u 50), .ref (u 51), .int 0, .ref (u 52), .ref (u 53), .ref (u 54), .ref (u 55), .ref (u 56), .ref (u 57), .ref (u 58), .ref (u 59), .ref (u 60), .ref (u 61), .int 0, .ref (u 62), .ref (u 63), .int 0, .ref (u 64), .ref (u 65), .null, .null]
theorem ctFs_65 (u : Nat → Nat) : (ctF_65 u).set 94 (.ref (u 65)) = ctF_66 u := rfl
def ctF_67 (u : Nat → Nat) : List Value := [.int 0, .int 0, .ref (u 1), .int 0, .ref (u 2), .ref (u 3), .ref (u 4), .int 0, .ref (u 5), .ref (u 6), .ref (u 7), .ref (u 8), .ref (u 9), .ref (u 10), .ref (u 11), .ref (u 12), .ref (u 13), .int 0, .int 0, .ref (u 14), .ref (u 15), .ref (u 16), .ref (u 17), .ref (u 18), .ref (u 19), .ref (u 20), .ref (u 21), .ref (u 22), .ref (u 23), .int 0, .int 0, .int 0, .int (-1), .int 0, .int 0, .int 0, .ref (u 24), .int 0, .int 0, .ref (u 25), .ref (u 26), .int 0, .int 0, .ref (u 27), .ref (u 28), .ref (u 29), .ref (u 30), .ref (u 31), .ref (u 32), .ref (u 33), .ref (u 34), .int 0, .int 0, .ref (u 35), .ref (u 36), .ref (u 37), .ref (u 38), .int 0, .int 0, .ref (u 39), .ref (u 40), .ref (u 41), .int 0, .int 0, .int 0, .int 0, .int 0, .ref (u 42), .ref (u 43), .int 0, .ref (u 44), .ref (u 45), .ref (u 46), .ref (u 47), .ref (u 48), .ref (u 49), .ref (u 50), .ref (u 51), .int 0, .ref (u 52), .ref (u 53), .ref (u 54), .ref (u 55), .ref (u 56), .ref (u 57), .ref (u 58), .ref (u 59), .ref (u 60), .ref (u 61), .int 0, .ref (u 62), .ref (u 63), .int 0, .ref (u 64), .ref (u 65), .ref (u 66), .null]
theorem ctFs_66 (u : Nat → Nat) : (ctF_66 u).set 95 (.ref (u 66)) = ctF_67 u := rfl
def ctF_68 (u : Nat → Nat) : List Value := [.int 0, .int 0, .ref (u 1), .int 0, .ref (u 2), .ref (u 3), .ref (u 4), .int 0, .ref (u 5), .ref (u 6), .ref (u 7), .ref (u 8), .ref (u 9), .ref (u 10), .ref (u 11), .ref (u 12), .ref (u 13), .int 0, .int 0, .ref (u 14), .ref (u 15), .ref (u 16), .ref (u 17), .ref (u 18), .ref (u 19), .ref (u 20), .ref (u 21), .ref (u 22), .ref (u 23), .int 0, .int 0, .int 0, .int (-1), .int 0, .int 0, .int 0, .ref (u 24), .int 0, .int 0, .ref (u 25), .ref (u 26), .int 0, .int 0, .ref (u 27), .ref (u 28), .ref (u 29), .ref (u 30), .ref (u 31), .ref (u 32), .ref (u 33), .ref (u 34), .int 0, .int 0, .ref (u 35), .ref (u 36), .ref (u 37), .ref (u 38), .int 0, .int 0, .ref (u 39), .ref (u 40), .ref (u 41), .int 0, .int 0, .int 0, .int 0, .int 0, .ref (u 42), .ref (u 43), .int 0, .ref (u 44), .ref (u 45), .ref (u 46), .ref (u 47), .ref (u 48), .ref (u 49), .ref (u 50), .ref (u 51), .int 0, .ref (u 52), .ref (u 53), .ref (u 54), .ref (u 55), .ref (u 56), .ref (u 57), .ref (u 58), .ref (u 59), .ref (u 60), .ref (u 61), .int 0, .ref (u 62), .ref (u 63), .int 0, .ref (u 64), .ref (u 65), .ref (u 66), .ref (u 67)]
theorem ctFs_67 (u : Nat → Nat) : (ctF_67 u).set 96 (.ref (u 67)) = ctF_68 u := rfl
theorem cte_0 (cA : Nat → ClassId) (u : Nat → Nat) : aw_e s2_G u cA m02 0 = .inr (12, ctF_68 u) := rfl
theorem cte_1 (cA : Nat → ClassId) (u : Nat → Nat) : aw_e s2_G u cA m02 1 = .inl (cA 0, 40, .inl (fun _ => 0)) := rfl
theorem cte_2 (cA : Nat → ClassId) (u : Nat → Nat) : aw_e s2_G u cA m02 2 = .inl (cA 0, 12, .inl (fun _ => 0)) := rfl
theorem cte_3 (cA : Nat → ClassId) (u : Nat → Nat) : aw_e s2_G u cA m02 3 = .inl (cA 0, 12, .inl (fun _ => 0)) := rfl
theorem cte_4 (cA : Nat → ClassId) (u : Nat → Nat) : aw_e s2_G u cA m02 4 = .inl (cA 0, 12, .inl (fun _ => 0)) := rfl
theorem cte_5 (cA : Nat → ClassId) (u : Nat → Nat) : aw_e s2_G u cA m02 5 = .inl (cA 0, 150, .inl (fun _ => 0)) := rfl
theorem cte_6 (cA : Nat → ClassId) (u : Nat → Nat) : aw_e s2_G u cA m02 6 = .inl (cA 0, 150, .inl (fun _ => 0)) := rfl
theorem cte_7 (cA : Nat → ClassId) (u : Nat → Nat) : aw_e s2_G u cA m02 7 = .inl (cA 0, 150, .inl (fun _ => 0)) := rfl
theorem cte_8 (cA : Nat → ClassId) (u : Nat → Nat) : aw_e s2_G u cA m02 8 = .inl (cA 0, 150, .inl (fun _ => 0)) := rfl
theorem cte_9 (cA : Nat → ClassId) (u : Nat → Nat) : aw_e s2_G u cA m02 9 = .inl (cA 0, 150, .inl (fun _ => 0)) := rfl
theorem cte_10 (cA : Nat → ClassId) (u : Nat → Nat) : aw_e s2_G u cA m02 10 = .inl (cA 0, 150, .inl (fun _ => 0)) := rfl
theorem cte_11 (cA : Nat → ClassId) (u : Nat → Nat) : aw_e s2_G u cA m02 11 = .inl (cA 0, 150, .inl (fun _ => 0)) := rfl
theorem cte_12 (cA : Nat → ClassId) (u : Nat → Nat) : aw_e s2_G u cA m02 12 = .inl (cA 1, 150, .inl (fun _ => 0)) := rfl
theorem cte_13 (cA : Nat → ClassId) (u : Nat → Nat) : aw_e s2_G u cA m02 13 = .inl (cA 0, 150, .inl (fun _ => 0)) := rfl
theorem cte_14 (cA : Nat → ClassId) (u : Nat → Nat) : aw_e s2_G u cA m02 14 = .inl (cA 0, 10, .inl (fun _ => 0)) := rfl
theorem cte_15 (cA : Nat → ClassId) (u : Nat → Nat) : aw_e s2_G u cA m02 15 = .inl (cA 0, 10, .inl (fun _ => 0)) := rfl
theorem cte_16 (cA : Nat → ClassId) (u : Nat → Nat) : aw_e s2_G u cA m02 16 = .inl (cA 0, 120, .inl (fun _ => 0)) := rfl
theorem cte_17 (cA : Nat → ClassId) (u : Nat → Nat) : aw_e s2_G u cA m02 17 = .inl (cA 0, 120, .inl (fun _ => 0)) := rfl
theorem cte_18 (cA : Nat → ClassId) (u : Nat → Nat) : aw_e s2_G u cA m02 18 = .inl (cA 0, 120, .inl (fun _ => 0)) := rfl
theorem cte_19 (cA : Nat → ClassId) (u : Nat → Nat) : aw_e s2_G u cA m02 19 = .inl (cA 0, 120, .inl (fun _ => 0)) := rfl
theorem cte_20 (cA : Nat → ClassId) (u : Nat → Nat) : aw_e s2_G u cA m02 20 = .inl (cA 0, 120, .inl (fun _ => 0)) := rfl
theorem cte_21 (cA : Nat → ClassId) (u : Nat → Nat) : aw_e s2_G u cA m02 21 = .inl (cA 0, 120, .inl (fun _ => 0)) := rfl
theorem cte_22 (cA : Nat → ClassId) (u : Nat → Nat) : aw_e s2_G u cA m02 22 = .inl (cA 0, 1400, .inl (fun _ => 0)) := rfl
theorem cte_23 (cA : Nat → ClassId) (u : Nat → Nat) : aw_e s2_G u cA m02 23 = .inl (cA 0, 200, .inl (fun _ => 0)) := rfl
theorem cte_24 (cA : Nat → ClassId) (u : Nat → Nat) : aw_e s2_G u cA m02 24 = .inl (cA 0, 140, .inl (fun _ => 0)) := rfl
theorem cte_25 (cA : Nat → ClassId) (u : Nat → Nat) : aw_e s2_G u cA m02 25 = .inl (cA 1, 10, .inl (fun _ => 0)) := rfl
theorem cte_26 (cA : Nat → ClassId) (u : Nat → Nat) : aw_e s2_G u cA m02 26 = .inl (cA 0, 10, .inl (fun _ => 0)) := rfl
theorem cte_27 (cA : Nat → ClassId) (u : Nat → Nat) : aw_e s2_G u cA m02 27 = .inl (cA 0, 12, .inl (fun _ => 0)) := rfl
theorem cte_28 (cA : Nat → ClassId) (u : Nat → Nat) : aw_e s2_G u cA m02 28 = .inl (cA 0, 480, .inl (fun _ => 0)) := rfl
theorem cte_29 (cA : Nat → ClassId) (u : Nat → Nat) : aw_e s2_G u cA m02 29 = .inl (cA 0, 12, .inl (fun _ => 0)) := rfl
theorem cte_30 (cA : Nat → ClassId) (u : Nat → Nat) : aw_e s2_G u cA m02 30 = .inl (cA 0, 12, .inl (fun _ => 0)) := rfl
theorem cte_31 (cA : Nat → ClassId) (u : Nat → Nat) : aw_e s2_G u cA m02 31 = .inl (cA 0, 12, .inl (fun _ => 0)) := rfl
theorem cte_32 (cA : Nat → ClassId) (u : Nat → Nat) : aw_e s2_G u cA m02 32 = .inl (cA 0, 12, .inl (fun _ => 0)) := rfl
theorem cte_33 (cA : Nat → ClassId) (u : Nat → Nat) : aw_e s2_G u cA m02 33 = .inl (cA 0, 12, .inl (fun _ => 0)) := rfl
theorem cte_34 (cA : Nat → ClassId) (u : Nat → Nat) : aw_e s2_G u cA m02 34 = .inl (cA 0, 480, .inl (fun _ => 0)) := rfl
theorem cte_35 (cA : Nat → ClassId) (u : Nat → Nat) : aw_e s2_G u cA m02 35 = .inl (cA 0, 150, .inl (fun _ => 0)) := rfl
theorem cte_36 (cA : Nat → ClassId) (u : Nat → Nat) : aw_e s2_G u cA m02 36 = .inl (cA 0, 150, .inl (fun _ => 0)) := rfl
theorem cte_37 (cA : Nat → ClassId) (u : Nat → Nat) : aw_e s2_G u cA m02 37 = .inl (cA 0, 150, .inl (fun _ => 0)) := rfl
theorem cte_38 (cA : Nat → ClassId) (u : Nat → Nat) : aw_e s2_G u cA m02 38 = .inl (cA 1, 150, .inl (fun _ => 0)) := rfl
theorem cte_39 (cA : Nat → ClassId) (u : Nat → Nat) : aw_e s2_G u cA m02 39 = .inl (cA 0, 160, .inl (fun _ => 0)) := rfl
theorem cte_40 (cA : Nat → ClassId) (u : Nat → Nat) : aw_e s2_G u cA m02 40 = .inl (cA 0, 160, .inl (fun _ => 0)) := rfl
theorem cte_41 (cA : Nat → ClassId) (u : Nat → Nat) : aw_e s2_G u cA m02 41 = .inl (cA 0, 160, .inl (fun _ => 0)) := rfl
theorem cte_42 (cA : Nat → ClassId) (u : Nat → Nat) : aw_e s2_G u cA m02 42 = .inl (cA 1, 140, .inl (fun _ => 0)) := rfl
theorem cte_43 (cA : Nat → ClassId) (u : Nat → Nat) : aw_e s2_G u cA m02 43 = .inl (cA 1, 480, .inl (fun _ => 0)) := rfl
theorem cte_44 (cA : Nat → ClassId) (u : Nat → Nat) : aw_e s2_G u cA m02 44 = .inl (cA 0, 20, .inl (fun _ => 0)) := rfl
theorem cte_45 (cA : Nat → ClassId) (u : Nat → Nat) : aw_e s2_G u cA m02 45 = .inl (cA 0, 20, .inl (fun _ => 0)) := rfl
theorem cte_46 (cA : Nat → ClassId) (u : Nat → Nat) : aw_e s2_G u cA m02 46 = .inl (cA 0, 100, .inl (fun _ => 0)) := rfl
theorem cte_47 (cA : Nat → ClassId) (u : Nat → Nat) : aw_e s2_G u cA m02 47 = .inl (cA 0, 24, .inl (fun _ => 0)) := rfl
theorem cte_48 (cA : Nat → ClassId) (u : Nat → Nat) : aw_e s2_G u cA m02 48 = .inl (cA 0, 192, .inl (fun _ => 0)) := rfl
theorem cte_49 (cA : Nat → ClassId) (u : Nat → Nat) : aw_e s2_G u cA m02 49 = .inl (cA 0, 192, .inl (fun _ => 0)) := rfl
theorem cte_50 (cA : Nat → ClassId) (u : Nat → Nat) : aw_e s2_G u cA m02 50 = .inl (cA 0, 192, .inl (fun _ => 0)) := rfl
theorem cte_51 (cA : Nat → ClassId) (u : Nat → Nat) : aw_e s2_G u cA m02 51 = .inl (cA 0, 2304, .inl (fun _ => 0)) := rfl
theorem cte_52 (cA : Nat → ClassId) (u : Nat → Nat) : aw_e s2_G u cA m02 52 = .inl (cA 0, 16, .inl (fun _ => 0)) := rfl
theorem cte_53 (cA : Nat → ClassId) (u : Nat → Nat) : aw_e s2_G u cA m02 53 = .inl (cA 0, 16, .inl (fun _ => 0)) := rfl
theorem cte_54 (cA : Nat → ClassId) (u : Nat → Nat) : aw_e s2_G u cA m02 54 = .inl (cA 0, 16, .inl (fun _ => 0)) := rfl
theorem cte_55 (cA : Nat → ClassId) (u : Nat → Nat) : aw_e s2_G u cA m02 55 = .inl (cA 0, 16, .inl (fun _ => 0)) := rfl
theorem cte_56 (cA : Nat → ClassId) (u : Nat → Nat) : aw_e s2_G u cA m02 56 = .inl (cA 0, 16, .inl (fun _ => 0)) := rfl
theorem cte_57 (cA : Nat → ClassId) (u : Nat → Nat) : aw_e s2_G u cA m02 57 = .inl (cA 0, 16, .inl (fun _ => 0)) := rfl
theorem cte_58 (cA : Nat → ClassId) (u : Nat → Nat) : aw_e s2_G u cA m02 58 = .inl (cA 0, 16, .inl (fun _ => 0)) := rfl
theorem cte_59 (cA : Nat → ClassId) (u : Nat → Nat) : aw_e s2_G u cA m02 59 = .inl (cA 1, 16, .inl (fun _ => 0)) := rfl
theorem cte_60 (cA : Nat → ClassId) (u : Nat → Nat) : aw_e s2_G u cA m02 60 = .inl (cA 0, 16, .inl (fun _ => 0)) := rfl
theorem cte_61 (cA : Nat → ClassId) (u : Nat → Nat) : aw_e s2_G u cA m02 61 = .inl (cA 0, 16, .inl (fun _ => 0)) := rfl
theorem cte_62 (cA : Nat → ClassId) (u : Nat → Nat) : aw_e s2_G u cA m02 62 = .inl (cA 0, 16, .inl (fun _ => 0)) := rfl
theorem cte_63 (cA : Nat → ClassId) (u : Nat → Nat) : aw_e s2_G u cA m02 63 = .inl (cA 0, 8, .inl (fun _ => 0)) := rfl
theorem cte_64 (cA : Nat → ClassId) (u : Nat → Nat) : aw_e s2_G u cA m02 64 = .inl (cA 0, 2048, .inl (fun _ => 0)) := rfl
theorem cte_65 (cA : Nat → ClassId) (u : Nat → Nat) : aw_e s2_G u cA m02 65 = .inl (cA 0, 256, .inl (fun _ => 0)) := rfl
theorem cte_66 (cA : Nat → ClassId) (u : Nat → Nat) : aw_e s2_G u cA m02 66 = .inl (cA 0, 256, .inl (fun _ => 0)) := rfl
theorem cte_67 (cA : Nat → ClassId) (u : Nat → Nat) : aw_e s2_G u cA m02 67 = .inl (cA 0, 256, .inl (fun _ => 0)) := rfl
set_option maxHeartbeats 8000000 in
set_option maxRecDepth 100000 in
theorem ct_Model (l : Launch) (D : va_G) (cA : Nat → ClassId) (h0 sz : Nat) : Met l ctY_Model (Cond.code ctY_Model ctB_Model 1 none :: aAW) ctR_Model (va_Pc [.ref h0] (fun U => U.heap.size = sz ∧ va_P D wCl (ctE_Model h0) U.heap ∧ va_K D wCl (aTys cA) U ∧ va_D (fun _ => True) (ctE_Model h0) ∧ ct_N U)) (va_Qv (fun u : Nat → Nat => u 0 = h0) (fun u t => va_P D wCl (ctW_Model cA  u) t.heap ∧ va_D (va_A (ctE_Model h0) sz) (ctW_Model cA  u)) (va_A (ctE_Model h0) sz)) 67 12702 (va_A (ctE_Model h0) sz) := by
  refine Met.ofW (cc := ctB_Model) (maxL := 1) (ret := none) (by decide) rfl ?_
  intro p e s m args below meth c s₁ B hml hv
  obtain ⟨rfl, hsz, hP, hK, hD0, hN⟩ := hv
  have hx := B.exec
  have hb := B.bytes
  have hr := B.returns
  have hts0 := atoms_spec (ws := Cond.code ctY_Model ctB_Model 1 none :: aAW) B.pre
  have hts : ∀ w ∈ aAW, w.before _ s = true := fun w hw => hts0 w (List.mem_cons_of_mem _ hw)
  have hown : s.vm.findClass "DioceseBookModel" = some m.cls := findClass_of_methodNamed B.named
  have hlocks := B.notSynchronized
  have hin : meth.name = "<init>" := (name_of_methodNamed B.named B.method).1
  subst hsz
  have hD := hD0.self (sz := s.heap.size)
  generalize hAe : va_A (ctE_Model h0) s.heap.size = A at hD ⊢
  have hA : ∀ q : Nat, s.heap.size ≤ q → A q := fun q h => by rw [← hAe]; exact Or.inr h
  have hS : va_S A s.heap s.heap [] := va_S.rf
  have hl := lv_entry ([.ref h0]) (n := 1) (Nat.le_of_ble_eq_true rfl)
  rw [lg_entry_eq]
  generalize (lg_sl ([.ref h0]) ++ List.replicate (1 - (lg_sl ([.ref h0])).length) Slot.unset).toArray = ls at hl ⊢
  have hl : lv_has ls 1 [(0, .ref h0)] := hl
  obtain ⟨Z0, hZ0⟩ : ∃ z : va_W, z = [] := ⟨_, rfl⟩
  obtain ⟨fs0, hfs0⟩ : ∃ z : List Value, z = [.int 0, .int 0, .null, .int 0, .null, .null, .null, .int 0, .null, .null, .null, .null, .null, .null, .null, .null, .null, .int 0, .int 0, .null, .null, .null, .null, .null, .null, .null, .null, .null, .null, .int 0, .int 0, .int 0, .int 0, .int 0, .int 0, .int 0, .null, .int 0, .int 0, .null, .null, .int 0, .int 0, .null, .null, .null, .null, .null, .null, .null, .null, .int 0, .int 0, .null, .null, .null, .null, .int 0, .int 0, .null, .null, .null, .int 0, .int 0, .int 0, .int 0, .int 0, .null, .null, .int 0, .null, .null, .null, .null, .null, .null, .null, .null, .int 0, .null, .null, .null, .null, .null, .null, .null, .null, .null, .null, .int 0, .null, .null, .int 0, .null, .null, .null, .null] := ⟨_, rfl⟩
  have hlen0 : fs0.length = 97 := by rw [hfs0]; rfl
  have hP : va_P D wCl [(h0, .inr (12, fs0))] s.heap := by rw [hfs0]; exact hP
  have hD : va_D A [(h0, .inr (12, fs0))] := by rw [hfs0]; exact hD
  have hP : va_P D wCl ((h0, .inr (12, fs0)) :: Z0) s.heap := by rw [hZ0]; exact hP
  have hD : va_D A ((h0, .inr (12, fs0)) :: Z0) := by rw [hZ0]; exact hD
  refine lv_aload_n hx hb ctD_Model_0 rfl (lv_at hl 0 rfl) ?_
  refine W.objInit hx hb hown (hts _ (ck_w_ok (i := 1367) (by decide +kernel) : Cond.methodLink "DioceseBookModel" 1 Lib.objectInit ∈ aAW)) (hts _ ct_oI) (hts _ ct_oC) rfl (by rw [hml]; exact hl.1) rfl ctD_Model_1 (Nat.le_of_ble_eq_true rfl) (Nat.le_of_ble_eq_true rfl) ?_
  refine W.eq (g2 := F0 m 4 ls []) rfl ?_
  refine lv_aload_n hx hb ctD_Model_4 rfl (lv_at hl 0 rfl) ?_
  refine lv_bipush (v := 40) hx hb ctD_Model_5 (by decide) ?_
  refine a_newa (atype := .int) (ty := .int) (c0 := cA 0) 0 hx hb (hts _ ct_a0) rfl (fun n h => by cases h) hK rfl hP hD hS hA (N' := 40) (a0 := (40, .inl (fun _ => 0))) (fun _ => rfl) (by decide) (by decide) (by decide) (Nat.le_of_ble_eq_true rfl) (Nat.le_of_ble_eq_true rfl) ctD_Model_7 (fun q7 H hP hD hS => ?_)
  obtain ⟨Z1, hZ1⟩ : ∃ z : va_W, z = Z0 ++ [(q7, .inl (cA 0, 40, .inl (fun _ => 0)))] := ⟨_, rfl⟩
  have hP : va_P D wCl ((h0, .inr (12, fs0)) :: Z1) H := by rw [hZ1]; exact hP
  have hD : va_D A ((h0, .inr (12, fs0)) :: Z1) := by rw [hZ1]; exact hD
  refine W.widen (k := 1) (n := 40) (by omega) (by omega) ?_
  refine va_putF (D := D) (ci := 12) (v := .ref q7) (ty := .array .int) (C := "DioceseBookModel") (T := TX12) (N := 97) hx hb hts gk_cl12.2.1 tyX12 tyX12_ok nmX12 hown hK hP hD hS 0 rfl rfl 2 (by decide) (hts _ (ck_w_ok (i := 1370) (by decide +kernel) : Cond.fieldLink "DioceseBookModel" 7 "DioceseBookModel" "estate" "[I" ∈ aAW)) (fun _ h9 => h9) rfl hin rfl (by decide +kernel) rfl rfl (by rw [hlen0]; decide) ctD_Model_9 (fun H locs hP hD hS => ?_)
  obtain ⟨fs1, hfs1⟩ : ∃ z : List Value, z = fs0.set 2 (.ref q7) := ⟨_, rfl⟩
  have hlen1 : fs1.length = 97 := by rw [hfs1, List.length_set, hlen0]
  have hP : va_P D wCl ((h0, .inr (12, fs1)) :: Z1) H := by rw [hfs1]; exact hP
  have hD : va_D A ((h0, .inr (12, fs1)) :: Z1) := by rw [hfs1]; exact hD
  refine lv_aload_n hx hb ctD_Model_12 rfl (lv_at hl 0 rfl) ?_
  refine lv_bipush (v := 12) hx hb ctD_Model_13 (by decide) ?_
  refine a_newa (atype := .int) (ty := .int) (c0 := cA 0) 0 hx hb (hts _ ct_a0) rfl (fun n h => by cases h) hK rfl hP hD hS hA (N' := 12) (a0 := (12, .inl (fun _ => 0))) (fun _ => rfl) (by decide) (by decide) (by decide) (Nat.le_of_ble_eq_true rfl) (Nat.le_of_ble_eq_true rfl) ctD_Model_15 (fun q15 H hP hD hS => ?_)
  obtain ⟨Z2, hZ2⟩ : ∃ z : va_W, z = Z1 ++ [(q15, .inl (cA 0, 12, .inl (fun _ => 0)))] := ⟨_, rfl⟩
  have hP : va_P D wCl ((h0, .inr (12, fs1)) :: Z2) H := by rw [hZ2]; exact hP
  have hD : va_D A ((h0, .inr (12, fs1)) :: Z2) := by rw [hZ2]; exact hD
  refine W.widen (k := 2) (n := 52) (by omega) (by omega) ?_
  refine va_putF (D := D) (ci := 12) (v := .ref q15) (ty := .array .int) (C := "DioceseBookModel") (T := TX12) (N := 97) hx hb hts gk_cl12.2.1 tyX12 tyX12_ok nmX12 hown hK hP hD hS 0 rfl rfl 4 (by decide) (hts _ (ck_w_ok (i := 1372) (by decide +kernel) : Cond.fieldLink "DioceseBookModel" 13 "DioceseBookModel" "atX" "[I" ∈ aAW)) (fun _ h9 => h9) rfl hin rfl (by decide +kernel) rfl rfl (by rw [hlen1]; decide) ctD_Model_17 (fun H locs hP hD hS => ?_)
  obtain ⟨fs2, hfs2⟩ : ∃ z : List Value, z = fs1.set 4 (.ref q15) := ⟨_, rfl⟩
  have hlen2 : fs2.length = 97 := by rw [hfs2, List.length_set, hlen1]
  have hP : va_P D wCl ((h0, .inr (12, fs2)) :: Z2) H := by rw [hfs2]; exact hP
  have hD : va_D A ((h0, .inr (12, fs2)) :: Z2) := by rw [hfs2]; exact hD
  refine lv_aload_n hx hb ctD_Model_20 rfl (lv_at hl 0 rfl) ?_
  refine lv_bipush (v := 12) hx hb ctD_Model_21 (by decide) ?_
  refine a_newa (atype := .int) (ty := .int) (c0 := cA 0) 0 hx hb (hts _ ct_a0) rfl (fun n h => by cases h) hK rfl hP hD hS hA (N' := 12) (a0 := (12, .inl (fun _ => 0))) (fun _ => rfl) (by decide) (by decide) (by decide) (Nat.le_of_ble_eq_true rfl) (Nat.le_of_ble_eq_true rfl) ctD_Model_23 (fun q23 H hP hD hS => ?_)
  obtain ⟨Z3, hZ3⟩ : ∃ z : va_W, z = Z2 ++ [(q23, .inl (cA 0, 12, .inl (fun _ => 0)))] := ⟨_, rfl⟩
  have hP : va_P D wCl ((h0, .inr (12, fs2)) :: Z3) H := by rw [hZ3]; exact hP
  have hD : va_D A ((h0, .inr (12, fs2)) :: Z3) := by rw [hZ3]; exact hD
  refine W.widen (k := 3) (n := 64) (by omega) (by omega) ?_
  refine va_putF (D := D) (ci := 12) (v := .ref q23) (ty := .array .int) (C := "DioceseBookModel") (T := TX12) (N := 97) hx hb hts gk_cl12.2.1 tyX12 tyX12_ok nmX12 hown hK hP hD hS 0 rfl rfl 5 (by decide) (hts _ (ck_w_ok (i := 1373) (by decide +kernel) : Cond.fieldLink "DioceseBookModel" 16 "DioceseBookModel" "atY" "[I" ∈ aAW)) (fun _ h9 => h9) rfl hin rfl (by decide +kernel) rfl rfl (by rw [hlen2]; decide) ctD_Model_25 (fun H locs hP hD hS => ?_)
  obtain ⟨fs3, hfs3⟩ : ∃ z : List Value, z = fs2.set 5 (.ref q23) := ⟨_, rfl⟩
  have hlen3 : fs3.length = 97 := by rw [hfs3, List.length_set, hlen2]
  have hP : va_P D wCl ((h0, .inr (12, fs3)) :: Z3) H := by rw [hfs3]; exact hP
  have hD : va_D A ((h0, .inr (12, fs3)) :: Z3) := by rw [hfs3]; exact hD
  refine lv_aload_n hx hb ctD_Model_28 rfl (lv_at hl 0 rfl) ?_
  refine lv_bipush (v := 12) hx hb ctD_Model_29 (by decide) ?_
  refine a_newa (atype := .int) (ty := .int) (c0 := cA 0) 0 hx hb (hts _ ct_a0) rfl (fun n h => by cases h) hK rfl hP hD hS hA (N' := 12) (a0 := (12, .inl (fun _ => 0))) (fun _ => rfl) (by decide) (by decide) (by decide) (Nat.le_of_ble_eq_true rfl) (Nat.le_of_ble_eq_true rfl) ctD_Model_31 (fun q31 H hP hD hS => ?_)
  obtain ⟨Z4, hZ4⟩ : ∃ z : va_W, z = Z3 ++ [(q31, .inl (cA 0, 12, .inl (fun _ => 0)))] := ⟨_, rfl⟩
  have hP : va_P D wCl ((h0, .inr (12, fs3)) :: Z4) H := by rw [hZ4]; exact hP
  have hD : va_D A ((h0, .inr (12, fs3)) :: Z4) := by rw [hZ4]; exact hD
  refine W.widen (k := 4) (n := 76) (by omega) (by omega) ?_
  refine va_putF (D := D) (ci := 12) (v := .ref q31) (ty := .array .int) (C := "DioceseBookModel") (T := TX12) (N := 97) hx hb hts gk_cl12.2.1 tyX12 tyX12_ok nmX12 hown hK hP hD hS 0 rfl rfl 6 (by decide) (hts _ (ck_w_ok (i := 1374) (by decide +kernel) : Cond.fieldLink "DioceseBookModel" 19 "DioceseBookModel" "worth" "[I" ∈ aAW)) (fun _ h9 => h9) rfl hin rfl (by decide +kernel) rfl rfl (by rw [hlen3]; decide) ctD_Model_33 (fun H locs hP hD hS => ?_)
  obtain ⟨fs4, hfs4⟩ : ∃ z : List Value, z = fs3.set 6 (.ref q31) := ⟨_, rfl⟩
  have hlen4 : fs4.length = 97 := by rw [hfs4, List.length_set, hlen3]
  have hP : va_P D wCl ((h0, .inr (12, fs4)) :: Z4) H := by rw [hfs4]; exact hP
  have hD : va_D A ((h0, .inr (12, fs4)) :: Z4) := by rw [hfs4]; exact hD
  refine lv_aload_n hx hb ctD_Model_36 rfl (lv_at hl 0 rfl) ?_
  refine lv_sipush (v := 150) hx hb ctD_Model_37 (by decide) ?_
  refine a_newa (atype := .int) (ty := .int) (c0 := cA 0) 0 hx hb (hts _ ct_a0) rfl (fun n h => by cases h) hK rfl hP hD hS hA (N' := 150) (a0 := (150, .inl (fun _ => 0))) (fun _ => rfl) (by decide) (by decide) (by decide) (Nat.le_of_ble_eq_true rfl) (Nat.le_of_ble_eq_true rfl) ctD_Model_40 (fun q40 H hP hD hS => ?_)
  obtain ⟨Z5, hZ5⟩ : ∃ z : va_W, z = Z4 ++ [(q40, .inl (cA 0, 150, .inl (fun _ => 0)))] := ⟨_, rfl⟩
  have hP : va_P D wCl ((h0, .inr (12, fs4)) :: Z5) H := by rw [hZ5]; exact hP
  have hD : va_D A ((h0, .inr (12, fs4)) :: Z5) := by rw [hZ5]; exact hD
  refine W.widen (k := 5) (n := 226) (by omega) (by omega) ?_
  refine va_putF (D := D) (ci := 12) (v := .ref q40) (ty := .array .int) (C := "DioceseBookModel") (T := TX12) (N := 97) hx hb hts gk_cl12.2.1 tyX12 tyX12_ok nmX12 hown hK hP hD hS 0 rfl rfl 8 (by decide) (hts _ (ck_w_ok (i := 1376) (by decide +kernel) : Cond.fieldLink "DioceseBookModel" 22 "DioceseBookModel" "kindOf" "[I" ∈ aAW)) (fun _ h9 => h9) rfl hin rfl (by decide +kernel) rfl rfl (by rw [hlen4]; decide) ctD_Model_42 (fun H locs hP hD hS => ?_)
  obtain ⟨fs5, hfs5⟩ : ∃ z : List Value, z = fs4.set 8 (.ref q40) := ⟨_, rfl⟩
  have hlen5 : fs5.length = 97 := by rw [hfs5, List.length_set, hlen4]
  have hP : va_P D wCl ((h0, .inr (12, fs5)) :: Z5) H := by rw [hfs5]; exact hP
  have hD : va_D A ((h0, .inr (12, fs5)) :: Z5) := by rw [hfs5]; exact hD
  refine lv_aload_n hx hb ctD_Model_45 rfl (lv_at hl 0 rfl) ?_
  refine lv_sipush (v := 150) hx hb ctD_Model_46 (by decide) ?_
  refine a_newa (atype := .int) (ty := .int) (c0 := cA 0) 0 hx hb (hts _ ct_a0) rfl (fun n h => by cases h) hK rfl hP hD hS hA (N' := 150) (a0 := (150, .inl (fun _ => 0))) (fun _ => rfl) (by decide) (by decide) (by decide) (Nat.le_of_ble_eq_true rfl) (Nat.le_of_ble_eq_true rfl) ctD_Model_49 (fun q49 H hP hD hS => ?_)
  obtain ⟨Z6, hZ6⟩ : ∃ z : va_W, z = Z5 ++ [(q49, .inl (cA 0, 150, .inl (fun _ => 0)))] := ⟨_, rfl⟩
  have hP : va_P D wCl ((h0, .inr (12, fs5)) :: Z6) H := by rw [hZ6]; exact hP
  have hD : va_D A ((h0, .inr (12, fs5)) :: Z6) := by rw [hZ6]; exact hD
  refine W.widen (k := 6) (n := 376) (by omega) (by omega) ?_
  refine va_putF (D := D) (ci := 12) (v := .ref q49) (ty := .array .int) (C := "DioceseBookModel") (T := TX12) (N := 97) hx hb hts gk_cl12.2.1 tyX12 tyX12_ok nmX12 hown hK hP hD hS 0 rfl rfl 9 (by decide) (hts _ (ck_w_ok (i := 1377) (by decide +kernel) : Cond.fieldLink "DioceseBookModel" 25 "DioceseBookModel" "dayOf" "[I" ∈ aAW)) (fun _ h9 => h9) rfl hin rfl (by decide +kernel) rfl rfl (by rw [hlen5]; decide) ctD_Model_51 (fun H locs hP hD hS => ?_)
  obtain ⟨fs6, hfs6⟩ : ∃ z : List Value, z = fs5.set 9 (.ref q49) := ⟨_, rfl⟩
  have hlen6 : fs6.length = 97 := by rw [hfs6, List.length_set, hlen5]
  have hP : va_P D wCl ((h0, .inr (12, fs6)) :: Z6) H := by rw [hfs6]; exact hP
  have hD : va_D A ((h0, .inr (12, fs6)) :: Z6) := by rw [hfs6]; exact hD
  refine lv_aload_n hx hb ctD_Model_54 rfl (lv_at hl 0 rfl) ?_
  refine lv_sipush (v := 150) hx hb ctD_Model_55 (by decide) ?_
  refine a_newa (atype := .int) (ty := .int) (c0 := cA 0) 0 hx hb (hts _ ct_a0) rfl (fun n h => by cases h) hK rfl hP hD hS hA (N' := 150) (a0 := (150, .inl (fun _ => 0))) (fun _ => rfl) (by decide) (by decide) (by decide) (Nat.le_of_ble_eq_true rfl) (Nat.le_of_ble_eq_true rfl) ctD_Model_58 (fun q58 H hP hD hS => ?_)
  obtain ⟨Z7, hZ7⟩ : ∃ z : va_W, z = Z6 ++ [(q58, .inl (cA 0, 150, .inl (fun _ => 0)))] := ⟨_, rfl⟩
  have hP : va_P D wCl ((h0, .inr (12, fs6)) :: Z7) H := by rw [hZ7]; exact hP
  have hD : va_D A ((h0, .inr (12, fs6)) :: Z7) := by rw [hZ7]; exact hD
  refine W.widen (k := 7) (n := 526) (by omega) (by omega) ?_
  refine va_putF (D := D) (ci := 12) (v := .ref q58) (ty := .array .int) (C := "DioceseBookModel") (T := TX12) (N := 97) hx hb hts gk_cl12.2.1 tyX12 tyX12_ok nmX12 hown hK hP hD hS 0 rfl rfl 10 (by decide) (hts _ (ck_w_ok (i := 1378) (by decide +kernel) : Cond.fieldLink "DioceseBookModel" 28 "DioceseBookModel" "toldOn" "[I" ∈ aAW)) (fun _ h9 => h9) rfl hin rfl (by decide +kernel) rfl rfl (by rw [hlen6]; decide) ctD_Model_60 (fun H locs hP hD hS => ?_)
  obtain ⟨fs7, hfs7⟩ : ∃ z : List Value, z = fs6.set 10 (.ref q58) := ⟨_, rfl⟩
  have hlen7 : fs7.length = 97 := by rw [hfs7, List.length_set, hlen6]
  have hP : va_P D wCl ((h0, .inr (12, fs7)) :: Z7) H := by rw [hfs7]; exact hP
  have hD : va_D A ((h0, .inr (12, fs7)) :: Z7) := by rw [hfs7]; exact hD
  refine lv_aload_n hx hb ctD_Model_63 rfl (lv_at hl 0 rfl) ?_
  refine lv_sipush (v := 150) hx hb ctD_Model_64 (by decide) ?_
  refine a_newa (atype := .int) (ty := .int) (c0 := cA 0) 0 hx hb (hts _ ct_a0) rfl (fun n h => by cases h) hK rfl hP hD hS hA (N' := 150) (a0 := (150, .inl (fun _ => 0))) (fun _ => rfl) (by decide) (by decide) (by decide) (Nat.le_of_ble_eq_true rfl) (Nat.le_of_ble_eq_true rfl) ctD_Model_67 (fun q67 H hP hD hS => ?_)
  obtain ⟨Z8, hZ8⟩ : ∃ z : va_W, z = Z7 ++ [(q67, .inl (cA 0, 150, .inl (fun _ => 0)))] := ⟨_, rfl⟩
  have hP : va_P D wCl ((h0, .inr (12, fs7)) :: Z8) H := by rw [hZ8]; exact hP
  have hD : va_D A ((h0, .inr (12, fs7)) :: Z8) := by rw [hZ8]; exact hD
  refine W.widen (k := 8) (n := 676) (by omega) (by omega) ?_
  refine va_putF (D := D) (ci := 12) (v := .ref q67) (ty := .array .int) (C := "DioceseBookModel") (T := TX12) (N := 97) hx hb hts gk_cl12.2.1 tyX12 tyX12_ok nmX12 hown hK hP hD hS 0 rfl rfl 11 (by decide) (hts _ (ck_w_ok (i := 1379) (by decide +kernel) : Cond.fieldLink "DioceseBookModel" 31 "DioceseBookModel" "ofL" "[I" ∈ aAW)) (fun _ h9 => h9) rfl hin rfl (by decide +kernel) rfl rfl (by rw [hlen7]; decide) ctD_Model_69 (fun H locs hP hD hS => ?_)
  obtain ⟨fs8, hfs8⟩ : ∃ z : List Value, z = fs7.set 11 (.ref q67) := ⟨_, rfl⟩
  have hlen8 : fs8.length = 97 := by rw [hfs8, List.length_set, hlen7]
  have hP : va_P D wCl ((h0, .inr (12, fs8)) :: Z8) H := by rw [hfs8]; exact hP
  have hD : va_D A ((h0, .inr (12, fs8)) :: Z8) := by rw [hfs8]; exact hD
  refine lv_aload_n hx hb ctD_Model_72 rfl (lv_at hl 0 rfl) ?_
  refine lv_sipush (v := 150) hx hb ctD_Model_73 (by decide) ?_
  refine a_newa (atype := .int) (ty := .int) (c0 := cA 0) 0 hx hb (hts _ ct_a0) rfl (fun n h => by cases h) hK rfl hP hD hS hA (N' := 150) (a0 := (150, .inl (fun _ => 0))) (fun _ => rfl) (by decide) (by decide) (by decide) (Nat.le_of_ble_eq_true rfl) (Nat.le_of_ble_eq_true rfl) ctD_Model_76 (fun q76 H hP hD hS => ?_)
  obtain ⟨Z9, hZ9⟩ : ∃ z : va_W, z = Z8 ++ [(q76, .inl (cA 0, 150, .inl (fun _ => 0)))] := ⟨_, rfl⟩
  have hP : va_P D wCl ((h0, .inr (12, fs8)) :: Z9) H := by rw [hZ9]; exact hP
  have hD : va_D A ((h0, .inr (12, fs8)) :: Z9) := by rw [hZ9]; exact hD
  refine W.widen (k := 9) (n := 826) (by omega) (by omega) ?_
  refine va_putF (D := D) (ci := 12) (v := .ref q76) (ty := .array .int) (C := "DioceseBookModel") (T := TX12) (N := 97) hx hb hts gk_cl12.2.1 tyX12 tyX12_ok nmX12 hown hK hP hD hS 0 rfl rfl 12 (by decide) (hts _ (ck_w_ok (i := 1380) (by decide +kernel) : Cond.fieldLink "DioceseBookModel" 34 "DioceseBookModel" "ofP" "[I" ∈ aAW)) (fun _ h9 => h9) rfl hin rfl (by decide +kernel) rfl rfl (by rw [hlen8]; decide) ctD_Model_78 (fun H locs hP hD hS => ?_)
  obtain ⟨fs9, hfs9⟩ : ∃ z : List Value, z = fs8.set 12 (.ref q76) := ⟨_, rfl⟩
  have hlen9 : fs9.length = 97 := by rw [hfs9, List.length_set, hlen8]
  have hP : va_P D wCl ((h0, .inr (12, fs9)) :: Z9) H := by rw [hfs9]; exact hP
  have hD : va_D A ((h0, .inr (12, fs9)) :: Z9) := by rw [hfs9]; exact hD
  refine lv_aload_n hx hb ctD_Model_81 rfl (lv_at hl 0 rfl) ?_
  refine lv_sipush (v := 150) hx hb ctD_Model_82 (by decide) ?_
  refine a_newa (atype := .int) (ty := .int) (c0 := cA 0) 0 hx hb (hts _ ct_a0) rfl (fun n h => by cases h) hK rfl hP hD hS hA (N' := 150) (a0 := (150, .inl (fun _ => 0))) (fun _ => rfl) (by decide) (by decide) (by decide) (Nat.le_of_ble_eq_true rfl) (Nat.le_of_ble_eq_true rfl) ctD_Model_85 (fun q85 H hP hD hS => ?_)
  obtain ⟨Z10, hZ10⟩ : ∃ z : va_W, z = Z9 ++ [(q85, .inl (cA 0, 150, .inl (fun _ => 0)))] := ⟨_, rfl⟩
  have hP : va_P D wCl ((h0, .inr (12, fs9)) :: Z10) H := by rw [hZ10]; exact hP
  have hD : va_D A ((h0, .inr (12, fs9)) :: Z10) := by rw [hZ10]; exact hD
  refine W.widen (k := 10) (n := 976) (by omega) (by omega) ?_
  refine va_putF (D := D) (ci := 12) (v := .ref q85) (ty := .array .int) (C := "DioceseBookModel") (T := TX12) (N := 97) hx hb hts gk_cl12.2.1 tyX12 tyX12_ok nmX12 hown hK hP hD hS 0 rfl rfl 13 (by decide) (hts _ (ck_w_ok (i := 1381) (by decide +kernel) : Cond.fieldLink "DioceseBookModel" 37 "DioceseBookModel" "ofQ" "[I" ∈ aAW)) (fun _ h9 => h9) rfl hin rfl (by decide +kernel) rfl rfl (by rw [hlen9]; decide) ctD_Model_87 (fun H locs hP hD hS => ?_)
  obtain ⟨fs10, hfs10⟩ : ∃ z : List Value, z = fs9.set 13 (.ref q85) := ⟨_, rfl⟩
  have hlen10 : fs10.length = 97 := by rw [hfs10, List.length_set, hlen9]
  have hP : va_P D wCl ((h0, .inr (12, fs10)) :: Z10) H := by rw [hfs10]; exact hP
  have hD : va_D A ((h0, .inr (12, fs10)) :: Z10) := by rw [hfs10]; exact hD
  refine lv_aload_n hx hb ctD_Model_90 rfl (lv_at hl 0 rfl) ?_
  refine lv_sipush (v := 150) hx hb ctD_Model_91 (by decide) ?_
  refine a_newa (atype := .int) (ty := .int) (c0 := cA 0) 0 hx hb (hts _ ct_a0) rfl (fun n h => by cases h) hK rfl hP hD hS hA (N' := 150) (a0 := (150, .inl (fun _ => 0))) (fun _ => rfl) (by decide) (by decide) (by decide) (Nat.le_of_ble_eq_true rfl) (Nat.le_of_ble_eq_true rfl) ctD_Model_94 (fun q94 H hP hD hS => ?_)
  obtain ⟨Z11, hZ11⟩ : ∃ z : va_W, z = Z10 ++ [(q94, .inl (cA 0, 150, .inl (fun _ => 0)))] := ⟨_, rfl⟩
  have hP : va_P D wCl ((h0, .inr (12, fs10)) :: Z11) H := by rw [hZ11]; exact hP
  have hD : va_D A ((h0, .inr (12, fs10)) :: Z11) := by rw [hZ11]; exact hD
  refine W.widen (k := 11) (n := 1126) (by omega) (by omega) ?_
  refine va_putF (D := D) (ci := 12) (v := .ref q94) (ty := .array .int) (C := "DioceseBookModel") (T := TX12) (N := 97) hx hb hts gk_cl12.2.1 tyX12 tyX12_ok nmX12 hown hK hP hD hS 0 rfl rfl 14 (by decide) (hts _ (ck_w_ok (i := 1382) (by decide +kernel) : Cond.fieldLink "DioceseBookModel" 40 "DioceseBookModel" "ofV" "[I" ∈ aAW)) (fun _ h9 => h9) rfl hin rfl (by decide +kernel) rfl rfl (by rw [hlen10]; decide) ctD_Model_96 (fun H locs hP hD hS => ?_)
  obtain ⟨fs11, hfs11⟩ : ∃ z : List Value, z = fs10.set 14 (.ref q94) := ⟨_, rfl⟩
  have hlen11 : fs11.length = 97 := by rw [hfs11, List.length_set, hlen10]
  have hP : va_P D wCl ((h0, .inr (12, fs11)) :: Z11) H := by rw [hfs11]; exact hP
  have hD : va_D A ((h0, .inr (12, fs11)) :: Z11) := by rw [hfs11]; exact hD
  refine lv_aload_n hx hb ctD_Model_99 rfl (lv_at hl 0 rfl) ?_
  refine lv_sipush (v := 150) hx hb ctD_Model_100 (by decide) ?_
  refine a_newa (atype := .boolean) (ty := .boolean) (c0 := cA 1) 1 hx hb (hts _ ct_a1) rfl (fun n h => by cases h) hK rfl hP hD hS hA (N' := 150) (a0 := (150, .inl (fun _ => 0))) (fun _ => rfl) (by decide) (by decide) (by decide) (Nat.le_of_ble_eq_true rfl) (Nat.le_of_ble_eq_true rfl) ctD_Model_103 (fun q103 H hP hD hS => ?_)
  obtain ⟨Z12, hZ12⟩ : ∃ z : va_W, z = Z11 ++ [(q103, .inl (cA 1, 150, .inl (fun _ => 0)))] := ⟨_, rfl⟩
  have hP : va_P D wCl ((h0, .inr (12, fs11)) :: Z12) H := by rw [hZ12]; exact hP
  have hD : va_D A ((h0, .inr (12, fs11)) :: Z12) := by rw [hZ12]; exact hD
  refine W.widen (k := 12) (n := 1276) (by omega) (by omega) ?_
  refine va_putF (D := D) (ci := 12) (v := .ref q103) (ty := .array .boolean) (C := "DioceseBookModel") (T := TX12) (N := 97) hx hb hts gk_cl12.2.1 tyX12 tyX12_ok nmX12 hown hK hP hD hS 0 rfl rfl 15 (by decide) (hts _ (ck_w_ok (i := 1383) (by decide +kernel) : Cond.fieldLink "DioceseBookModel" 43 "DioceseBookModel" "isVoid" "[Z" ∈ aAW)) (fun _ h9 => h9) rfl hin rfl (by decide +kernel) rfl rfl (by rw [hlen11]; decide) ctD_Model_105 (fun H locs hP hD hS => ?_)
  obtain ⟨fs12, hfs12⟩ : ∃ z : List Value, z = fs11.set 15 (.ref q103) := ⟨_, rfl⟩
  have hlen12 : fs12.length = 97 := by rw [hfs12, List.length_set, hlen11]
  have hP : va_P D wCl ((h0, .inr (12, fs12)) :: Z12) H := by rw [hfs12]; exact hP
  have hD : va_D A ((h0, .inr (12, fs12)) :: Z12) := by rw [hfs12]; exact hD
  refine lv_aload_n hx hb ctD_Model_108 rfl (lv_at hl 0 rfl) ?_
  refine lv_sipush (v := 150) hx hb ctD_Model_109 (by decide) ?_
  refine a_newa (atype := .int) (ty := .int) (c0 := cA 0) 0 hx hb (hts _ ct_a0) rfl (fun n h => by cases h) hK rfl hP hD hS hA (N' := 150) (a0 := (150, .inl (fun _ => 0))) (fun _ => rfl) (by decide) (by decide) (by decide) (Nat.le_of_ble_eq_true rfl) (Nat.le_of_ble_eq_true rfl) ctD_Model_112 (fun q112 H hP hD hS => ?_)
  obtain ⟨Z13, hZ13⟩ : ∃ z : va_W, z = Z12 ++ [(q112, .inl (cA 0, 150, .inl (fun _ => 0)))] := ⟨_, rfl⟩
  have hP : va_P D wCl ((h0, .inr (12, fs12)) :: Z13) H := by rw [hZ13]; exact hP
  have hD : va_D A ((h0, .inr (12, fs12)) :: Z13) := by rw [hZ13]; exact hD
  refine W.widen (k := 13) (n := 1426) (by omega) (by omega) ?_
  refine va_putF (D := D) (ci := 12) (v := .ref q112) (ty := .array .int) (C := "DioceseBookModel") (T := TX12) (N := 97) hx hb hts gk_cl12.2.1 tyX12 tyX12_ok nmX12 hown hK hP hD hS 0 rfl rfl 16 (by decide) (hts _ (ck_w_ok (i := 1384) (by decide +kernel) : Cond.fieldLink "DioceseBookModel" 47 "DioceseBookModel" "book" "[I" ∈ aAW)) (fun _ h9 => h9) rfl hin rfl (by decide +kernel) rfl rfl (by rw [hlen12]; decide) ctD_Model_114 (fun H locs hP hD hS => ?_)
  obtain ⟨fs13, hfs13⟩ : ∃ z : List Value, z = fs12.set 16 (.ref q112) := ⟨_, rfl⟩
  have hlen13 : fs13.length = 97 := by rw [hfs13, List.length_set, hlen12]
  have hP : va_P D wCl ((h0, .inr (12, fs13)) :: Z13) H := by rw [hfs13]; exact hP
  have hD : va_D A ((h0, .inr (12, fs13)) :: Z13) := by rw [hfs13]; exact hD
  refine lv_aload_n hx hb ctD_Model_117 rfl (lv_at hl 0 rfl) ?_
  refine lv_bipush (v := 10) hx hb ctD_Model_118 (by decide) ?_
  refine a_newa (atype := .int) (ty := .int) (c0 := cA 0) 0 hx hb (hts _ ct_a0) rfl (fun n h => by cases h) hK rfl hP hD hS hA (N' := 10) (a0 := (10, .inl (fun _ => 0))) (fun _ => rfl) (by decide) (by decide) (by decide) (Nat.le_of_ble_eq_true rfl) (Nat.le_of_ble_eq_true rfl) ctD_Model_120 (fun q120 H hP hD hS => ?_)
  obtain ⟨Z14, hZ14⟩ : ∃ z : va_W, z = Z13 ++ [(q120, .inl (cA 0, 10, .inl (fun _ => 0)))] := ⟨_, rfl⟩
  have hP : va_P D wCl ((h0, .inr (12, fs13)) :: Z14) H := by rw [hZ14]; exact hP
  have hD : va_D A ((h0, .inr (12, fs13)) :: Z14) := by rw [hZ14]; exact hD
  refine W.widen (k := 14) (n := 1436) (by omega) (by omega) ?_
  refine va_putF (D := D) (ci := 12) (v := .ref q120) (ty := .array .int) (C := "DioceseBookModel") (T := TX12) (N := 97) hx hb hts gk_cl12.2.1 tyX12 tyX12_ok nmX12 hown hK hP hD hS 0 rfl rfl 19 (by decide) (hts _ (ck_w_ok (i := 1387) (by decide +kernel) : Cond.fieldLink "DioceseBookModel" 50 "DioceseBookModel" "inForce" "[I" ∈ aAW)) (fun _ h9 => h9) rfl hin rfl (by decide +kernel) rfl rfl (by rw [hlen13]; decide) ctD_Model_122 (fun H locs hP hD hS => ?_)
  obtain ⟨fs14, hfs14⟩ : ∃ z : List Value, z = fs13.set 19 (.ref q120) := ⟨_, rfl⟩
  have hlen14 : fs14.length = 97 := by rw [hfs14, List.length_set, hlen13]
  have hP : va_P D wCl ((h0, .inr (12, fs14)) :: Z14) H := by rw [hfs14]; exact hP
  have hD : va_D A ((h0, .inr (12, fs14)) :: Z14) := by rw [hfs14]; exact hD
  refine lv_aload_n hx hb ctD_Model_125 rfl (lv_at hl 0 rfl) ?_
  refine lv_bipush (v := 10) hx hb ctD_Model_126 (by decide) ?_
  refine a_newa (atype := .int) (ty := .int) (c0 := cA 0) 0 hx hb (hts _ ct_a0) rfl (fun n h => by cases h) hK rfl hP hD hS hA (N' := 10) (a0 := (10, .inl (fun _ => 0))) (fun _ => rfl) (by decide) (by decide) (by decide) (Nat.le_of_ble_eq_true rfl) (Nat.le_of_ble_eq_true rfl) ctD_Model_128 (fun q128 H hP hD hS => ?_)
  obtain ⟨Z15, hZ15⟩ : ∃ z : va_W, z = Z14 ++ [(q128, .inl (cA 0, 10, .inl (fun _ => 0)))] := ⟨_, rfl⟩
  have hP : va_P D wCl ((h0, .inr (12, fs14)) :: Z15) H := by rw [hZ15]; exact hP
  have hD : va_D A ((h0, .inr (12, fs14)) :: Z15) := by rw [hZ15]; exact hD
  refine W.widen (k := 15) (n := 1446) (by omega) (by omega) ?_
  refine va_putF (D := D) (ci := 12) (v := .ref q128) (ty := .array .int) (C := "DioceseBookModel") (T := TX12) (N := 97) hx hb hts gk_cl12.2.1 tyX12 tyX12_ok nmX12 hown hK hP hD hS 0 rfl rfl 20 (by decide) (hts _ (ck_w_ok (i := 1388) (by decide +kernel) : Cond.fieldLink "DioceseBookModel" 53 "DioceseBookModel" "clauses" "[I" ∈ aAW)) (fun _ h9 => h9) rfl hin rfl (by decide +kernel) rfl rfl (by rw [hlen14]; decide) ctD_Model_130 (fun H locs hP hD hS => ?_)
  obtain ⟨fs15, hfs15⟩ : ∃ z : List Value, z = fs14.set 20 (.ref q128) := ⟨_, rfl⟩
  have hlen15 : fs15.length = 97 := by rw [hfs15, List.length_set, hlen14]
  have hP : va_P D wCl ((h0, .inr (12, fs15)) :: Z15) H := by rw [hfs15]; exact hP
  have hD : va_D A ((h0, .inr (12, fs15)) :: Z15) := by rw [hfs15]; exact hD
  refine lv_aload_n hx hb ctD_Model_133 rfl (lv_at hl 0 rfl) ?_
  refine lv_bipush (v := 120) hx hb ctD_Model_134 (by decide) ?_
  refine a_newa (atype := .int) (ty := .int) (c0 := cA 0) 0 hx hb (hts _ ct_a0) rfl (fun n h => by cases h) hK rfl hP hD hS hA (N' := 120) (a0 := (120, .inl (fun _ => 0))) (fun _ => rfl) (by decide) (by decide) (by decide) (Nat.le_of_ble_eq_true rfl) (Nat.le_of_ble_eq_true rfl) ctD_Model_136 (fun q136 H hP hD hS => ?_)
  obtain ⟨Z16, hZ16⟩ : ∃ z : va_W, z = Z15 ++ [(q136, .inl (cA 0, 120, .inl (fun _ => 0)))] := ⟨_, rfl⟩
  have hP : va_P D wCl ((h0, .inr (12, fs15)) :: Z16) H := by rw [hZ16]; exact hP
  have hD : va_D A ((h0, .inr (12, fs15)) :: Z16) := by rw [hZ16]; exact hD
  refine W.widen (k := 16) (n := 1566) (by omega) (by omega) ?_
  refine va_putF (D := D) (ci := 12) (v := .ref q136) (ty := .array .int) (C := "DioceseBookModel") (T := TX12) (N := 97) hx hb hts gk_cl12.2.1 tyX12 tyX12_ok nmX12 hown hK hP hD hS 0 rfl rfl 21 (by decide) (hts _ (ck_w_ok (i := 1389) (by decide +kernel) : Cond.fieldLink "DioceseBookModel" 56 "DioceseBookModel" "clauseKind" "[I" ∈ aAW)) (fun _ h9 => h9) rfl hin rfl (by decide +kernel) rfl rfl (by rw [hlen15]; decide) ctD_Model_138 (fun H locs hP hD hS => ?_)
  obtain ⟨fs16, hfs16⟩ : ∃ z : List Value, z = fs15.set 21 (.ref q136) := ⟨_, rfl⟩
  have hlen16 : fs16.length = 97 := by rw [hfs16, List.length_set, hlen15]
  have hP : va_P D wCl ((h0, .inr (12, fs16)) :: Z16) H := by rw [hfs16]; exact hP
  have hD : va_D A ((h0, .inr (12, fs16)) :: Z16) := by rw [hfs16]; exact hD
  refine lv_aload_n hx hb ctD_Model_141 rfl (lv_at hl 0 rfl) ?_
  refine lv_bipush (v := 120) hx hb ctD_Model_142 (by decide) ?_
  refine a_newa (atype := .int) (ty := .int) (c0 := cA 0) 0 hx hb (hts _ ct_a0) rfl (fun n h => by cases h) hK rfl hP hD hS hA (N' := 120) (a0 := (120, .inl (fun _ => 0))) (fun _ => rfl) (by decide) (by decide) (by decide) (Nat.le_of_ble_eq_true rfl) (Nat.le_of_ble_eq_true rfl) ctD_Model_144 (fun q144 H hP hD hS => ?_)
  obtain ⟨Z17, hZ17⟩ : ∃ z : va_W, z = Z16 ++ [(q144, .inl (cA 0, 120, .inl (fun _ => 0)))] := ⟨_, rfl⟩
  have hP : va_P D wCl ((h0, .inr (12, fs16)) :: Z17) H := by rw [hZ17]; exact hP
  have hD : va_D A ((h0, .inr (12, fs16)) :: Z17) := by rw [hZ17]; exact hD
  refine W.widen (k := 17) (n := 1686) (by omega) (by omega) ?_
  refine va_putF (D := D) (ci := 12) (v := .ref q144) (ty := .array .int) (C := "DioceseBookModel") (T := TX12) (N := 97) hx hb hts gk_cl12.2.1 tyX12 tyX12_ok nmX12 hown hK hP hD hS 0 rfl rfl 22 (by decide) (hts _ (ck_w_ok (i := 1390) (by decide +kernel) : Cond.fieldLink "DioceseBookModel" 59 "DioceseBookModel" "clauseName" "[I" ∈ aAW)) (fun _ h9 => h9) rfl hin rfl (by decide +kernel) rfl rfl (by rw [hlen16]; decide) ctD_Model_146 (fun H locs hP hD hS => ?_)
  obtain ⟨fs17, hfs17⟩ : ∃ z : List Value, z = fs16.set 22 (.ref q144) := ⟨_, rfl⟩
  have hlen17 : fs17.length = 97 := by rw [hfs17, List.length_set, hlen16]
  have hP : va_P D wCl ((h0, .inr (12, fs17)) :: Z17) H := by rw [hfs17]; exact hP
  have hD : va_D A ((h0, .inr (12, fs17)) :: Z17) := by rw [hfs17]; exact hD
  refine lv_aload_n hx hb ctD_Model_149 rfl (lv_at hl 0 rfl) ?_
  refine lv_bipush (v := 120) hx hb ctD_Model_150 (by decide) ?_
  refine a_newa (atype := .int) (ty := .int) (c0 := cA 0) 0 hx hb (hts _ ct_a0) rfl (fun n h => by cases h) hK rfl hP hD hS hA (N' := 120) (a0 := (120, .inl (fun _ => 0))) (fun _ => rfl) (by decide) (by decide) (by decide) (Nat.le_of_ble_eq_true rfl) (Nat.le_of_ble_eq_true rfl) ctD_Model_152 (fun q152 H hP hD hS => ?_)
  obtain ⟨Z18, hZ18⟩ : ∃ z : va_W, z = Z17 ++ [(q152, .inl (cA 0, 120, .inl (fun _ => 0)))] := ⟨_, rfl⟩
  have hP : va_P D wCl ((h0, .inr (12, fs17)) :: Z18) H := by rw [hZ18]; exact hP
  have hD : va_D A ((h0, .inr (12, fs17)) :: Z18) := by rw [hZ18]; exact hD
  refine W.widen (k := 18) (n := 1806) (by omega) (by omega) ?_
  refine va_putF (D := D) (ci := 12) (v := .ref q152) (ty := .array .int) (C := "DioceseBookModel") (T := TX12) (N := 97) hx hb hts gk_cl12.2.1 tyX12 tyX12_ok nmX12 hown hK hP hD hS 0 rfl rfl 23 (by decide) (hts _ (ck_w_ok (i := 1391) (by decide +kernel) : Cond.fieldLink "DioceseBookModel" 62 "DioceseBookModel" "clauseNumber" "[I" ∈ aAW)) (fun _ h9 => h9) rfl hin rfl (by decide +kernel) rfl rfl (by rw [hlen17]; decide) ctD_Model_154 (fun H locs hP hD hS => ?_)
  obtain ⟨fs18, hfs18⟩ : ∃ z : List Value, z = fs17.set 23 (.ref q152) := ⟨_, rfl⟩
  have hlen18 : fs18.length = 97 := by rw [hfs18, List.length_set, hlen17]
  have hP : va_P D wCl ((h0, .inr (12, fs18)) :: Z18) H := by rw [hfs18]; exact hP
  have hD : va_D A ((h0, .inr (12, fs18)) :: Z18) := by rw [hfs18]; exact hD
  refine lv_aload_n hx hb ctD_Model_157 rfl (lv_at hl 0 rfl) ?_
  refine lv_bipush (v := 120) hx hb ctD_Model_158 (by decide) ?_
  refine a_newa (atype := .int) (ty := .int) (c0 := cA 0) 0 hx hb (hts _ ct_a0) rfl (fun n h => by cases h) hK rfl hP hD hS hA (N' := 120) (a0 := (120, .inl (fun _ => 0))) (fun _ => rfl) (by decide) (by decide) (by decide) (Nat.le_of_ble_eq_true rfl) (Nat.le_of_ble_eq_true rfl) ctD_Model_160 (fun q160 H hP hD hS => ?_)
  obtain ⟨Z19, hZ19⟩ : ∃ z : va_W, z = Z18 ++ [(q160, .inl (cA 0, 120, .inl (fun _ => 0)))] := ⟨_, rfl⟩
  have hP : va_P D wCl ((h0, .inr (12, fs18)) :: Z19) H := by rw [hZ19]; exact hP
  have hD : va_D A ((h0, .inr (12, fs18)) :: Z19) := by rw [hZ19]; exact hD
  refine W.widen (k := 19) (n := 1926) (by omega) (by omega) ?_
  refine va_putF (D := D) (ci := 12) (v := .ref q160) (ty := .array .int) (C := "DioceseBookModel") (T := TX12) (N := 97) hx hb hts gk_cl12.2.1 tyX12 tyX12_ok nmX12 hown hK hP hD hS 0 rfl rfl 24 (by decide) (hts _ (ck_w_ok (i := 1392) (by decide +kernel) : Cond.fieldLink "DioceseBookModel" 65 "DioceseBookModel" "testFrom" "[I" ∈ aAW)) (fun _ h9 => h9) rfl hin rfl (by decide +kernel) rfl rfl (by rw [hlen18]; decide) ctD_Model_162 (fun H locs hP hD hS => ?_)
  obtain ⟨fs19, hfs19⟩ : ∃ z : List Value, z = fs18.set 24 (.ref q160) := ⟨_, rfl⟩
  have hlen19 : fs19.length = 97 := by rw [hfs19, List.length_set, hlen18]
  have hP : va_P D wCl ((h0, .inr (12, fs19)) :: Z19) H := by rw [hfs19]; exact hP
  have hD : va_D A ((h0, .inr (12, fs19)) :: Z19) := by rw [hfs19]; exact hD
  refine lv_aload_n hx hb ctD_Model_165 rfl (lv_at hl 0 rfl) ?_
  refine lv_bipush (v := 120) hx hb ctD_Model_166 (by decide) ?_
  refine a_newa (atype := .int) (ty := .int) (c0 := cA 0) 0 hx hb (hts _ ct_a0) rfl (fun n h => by cases h) hK rfl hP hD hS hA (N' := 120) (a0 := (120, .inl (fun _ => 0))) (fun _ => rfl) (by decide) (by decide) (by decide) (Nat.le_of_ble_eq_true rfl) (Nat.le_of_ble_eq_true rfl) ctD_Model_168 (fun q168 H hP hD hS => ?_)
  obtain ⟨Z20, hZ20⟩ : ∃ z : va_W, z = Z19 ++ [(q168, .inl (cA 0, 120, .inl (fun _ => 0)))] := ⟨_, rfl⟩
  have hP : va_P D wCl ((h0, .inr (12, fs19)) :: Z20) H := by rw [hZ20]; exact hP
  have hD : va_D A ((h0, .inr (12, fs19)) :: Z20) := by rw [hZ20]; exact hD
  refine W.widen (k := 20) (n := 2046) (by omega) (by omega) ?_
  refine va_putF (D := D) (ci := 12) (v := .ref q168) (ty := .array .int) (C := "DioceseBookModel") (T := TX12) (N := 97) hx hb hts gk_cl12.2.1 tyX12 tyX12_ok nmX12 hown hK hP hD hS 0 rfl rfl 25 (by decide) (hts _ (ck_w_ok (i := 1393) (by decide +kernel) : Cond.fieldLink "DioceseBookModel" 68 "DioceseBookModel" "testTo" "[I" ∈ aAW)) (fun _ h9 => h9) rfl hin rfl (by decide +kernel) rfl rfl (by rw [hlen19]; decide) ctD_Model_170 (fun H locs hP hD hS => ?_)
  obtain ⟨fs20, hfs20⟩ : ∃ z : List Value, z = fs19.set 25 (.ref q168) := ⟨_, rfl⟩
  have hlen20 : fs20.length = 97 := by rw [hfs20, List.length_set, hlen19]
  have hP : va_P D wCl ((h0, .inr (12, fs20)) :: Z20) H := by rw [hfs20]; exact hP
  have hD : va_D A ((h0, .inr (12, fs20)) :: Z20) := by rw [hfs20]; exact hD
  refine lv_aload_n hx hb ctD_Model_173 rfl (lv_at hl 0 rfl) ?_
  refine lv_bipush (v := 120) hx hb ctD_Model_174 (by decide) ?_
  refine a_newa (atype := .int) (ty := .int) (c0 := cA 0) 0 hx hb (hts _ ct_a0) rfl (fun n h => by cases h) hK rfl hP hD hS hA (N' := 120) (a0 := (120, .inl (fun _ => 0))) (fun _ => rfl) (by decide) (by decide) (by decide) (Nat.le_of_ble_eq_true rfl) (Nat.le_of_ble_eq_true rfl) ctD_Model_176 (fun q176 H hP hD hS => ?_)
  obtain ⟨Z21, hZ21⟩ : ∃ z : va_W, z = Z20 ++ [(q176, .inl (cA 0, 120, .inl (fun _ => 0)))] := ⟨_, rfl⟩
  have hP : va_P D wCl ((h0, .inr (12, fs20)) :: Z21) H := by rw [hZ21]; exact hP
  have hD : va_D A ((h0, .inr (12, fs20)) :: Z21) := by rw [hZ21]; exact hD
  refine W.widen (k := 21) (n := 2166) (by omega) (by omega) ?_
  refine va_putF (D := D) (ci := 12) (v := .ref q176) (ty := .array .int) (C := "DioceseBookModel") (T := TX12) (N := 97) hx hb hts gk_cl12.2.1 tyX12 tyX12_ok nmX12 hown hK hP hD hS 0 rfl rfl 26 (by decide) (hts _ (ck_w_ok (i := 1394) (by decide +kernel) : Cond.fieldLink "DioceseBookModel" 71 "DioceseBookModel" "unlessTo" "[I" ∈ aAW)) (fun _ h9 => h9) rfl hin rfl (by decide +kernel) rfl rfl (by rw [hlen20]; decide) ctD_Model_178 (fun H locs hP hD hS => ?_)
  obtain ⟨fs21, hfs21⟩ : ∃ z : List Value, z = fs20.set 26 (.ref q176) := ⟨_, rfl⟩
  have hlen21 : fs21.length = 97 := by rw [hfs21, List.length_set, hlen20]
  have hP : va_P D wCl ((h0, .inr (12, fs21)) :: Z21) H := by rw [hfs21]; exact hP
  have hD : va_D A ((h0, .inr (12, fs21)) :: Z21) := by rw [hfs21]; exact hD
  refine lv_aload_n hx hb ctD_Model_181 rfl (lv_at hl 0 rfl) ?_
  refine lv_sipush (v := 1400) hx hb ctD_Model_182 (by decide) ?_
  refine a_newa (atype := .int) (ty := .int) (c0 := cA 0) 0 hx hb (hts _ ct_a0) rfl (fun n h => by cases h) hK rfl hP hD hS hA (N' := 1400) (a0 := (1400, .inl (fun _ => 0))) (fun _ => rfl) (by decide) (by decide) (by decide) (Nat.le_of_ble_eq_true rfl) (Nat.le_of_ble_eq_true rfl) ctD_Model_185 (fun q185 H hP hD hS => ?_)
  obtain ⟨Z22, hZ22⟩ : ∃ z : va_W, z = Z21 ++ [(q185, .inl (cA 0, 1400, .inl (fun _ => 0)))] := ⟨_, rfl⟩
  have hP : va_P D wCl ((h0, .inr (12, fs21)) :: Z22) H := by rw [hZ22]; exact hP
  have hD : va_D A ((h0, .inr (12, fs21)) :: Z22) := by rw [hZ22]; exact hD
  refine W.widen (k := 22) (n := 3566) (by omega) (by omega) ?_
  refine va_putF (D := D) (ci := 12) (v := .ref q185) (ty := .array .int) (C := "DioceseBookModel") (T := TX12) (N := 97) hx hb hts gk_cl12.2.1 tyX12 tyX12_ok nmX12 hown hK hP hD hS 0 rfl rfl 27 (by decide) (hts _ (ck_w_ok (i := 1395) (by decide +kernel) : Cond.fieldLink "DioceseBookModel" 74 "DioceseBookModel" "steps" "[I" ∈ aAW)) (fun _ h9 => h9) rfl hin rfl (by decide +kernel) rfl rfl (by rw [hlen21]; decide) ctD_Model_187 (fun H locs hP hD hS => ?_)
  obtain ⟨fs22, hfs22⟩ : ∃ z : List Value, z = fs21.set 27 (.ref q185) := ⟨_, rfl⟩
  have hlen22 : fs22.length = 97 := by rw [hfs22, List.length_set, hlen21]
  have hP : va_P D wCl ((h0, .inr (12, fs22)) :: Z22) H := by rw [hfs22]; exact hP
  have hD : va_D A ((h0, .inr (12, fs22)) :: Z22) := by rw [hfs22]; exact hD
  refine lv_aload_n hx hb ctD_Model_190 rfl (lv_at hl 0 rfl) ?_
  refine lv_sipush (v := 200) hx hb ctD_Model_191 (by decide) ?_
  refine a_newa (atype := .int) (ty := .int) (c0 := cA 0) 0 hx hb (hts _ ct_a0) rfl (fun n h => by cases h) hK rfl hP hD hS hA (N' := 200) (a0 := (200, .inl (fun _ => 0))) (fun _ => rfl) (by decide) (by decide) (by decide) (Nat.le_of_ble_eq_true rfl) (Nat.le_of_ble_eq_true rfl) ctD_Model_194 (fun q194 H hP hD hS => ?_)
  obtain ⟨Z23, hZ23⟩ : ∃ z : va_W, z = Z22 ++ [(q194, .inl (cA 0, 200, .inl (fun _ => 0)))] := ⟨_, rfl⟩
  have hP : va_P D wCl ((h0, .inr (12, fs22)) :: Z23) H := by rw [hZ23]; exact hP
  have hD : va_D A ((h0, .inr (12, fs22)) :: Z23) := by rw [hZ23]; exact hD
  refine W.widen (k := 23) (n := 3766) (by omega) (by omega) ?_
  refine va_putF (D := D) (ci := 12) (v := .ref q194) (ty := .array .int) (C := "DioceseBookModel") (T := TX12) (N := 97) hx hb hts gk_cl12.2.1 tyX12 tyX12_ok nmX12 hown hK hP hD hS 0 rfl rfl 28 (by decide) (hts _ (ck_w_ok (i := 1396) (by decide +kernel) : Cond.fieldLink "DioceseBookModel" 77 "DioceseBookModel" "text" "[I" ∈ aAW)) (fun _ h9 => h9) rfl hin rfl (by decide +kernel) rfl rfl (by rw [hlen22]; decide) ctD_Model_196 (fun H locs hP hD hS => ?_)
  obtain ⟨fs23, hfs23⟩ : ∃ z : List Value, z = fs22.set 28 (.ref q194) := ⟨_, rfl⟩
  have hlen23 : fs23.length = 97 := by rw [hfs23, List.length_set, hlen22]
  have hP : va_P D wCl ((h0, .inr (12, fs23)) :: Z23) H := by rw [hfs23]; exact hP
  have hD : va_D A ((h0, .inr (12, fs23)) :: Z23) := by rw [hfs23]; exact hD
  refine lv_aload_n hx hb ctD_Model_199 rfl (lv_at hl 0 rfl) ?_
  refine lv_iconst (v := (-1)) hx hb ctD_Model_200 (by decide) ?_
  refine va_put (D := D) (ci := 12) (v := .int (-1)) (ty := .int) (C := "DioceseBookModel") (T := TX12) (N := 97) hx hb hts gk_cl12.2.1 tyX12 tyX12_ok nmX12 hown hK hP hD hS 0 rfl rfl 32 (by decide) (hts _ (ck_w_ok (i := 1400) (by decide +kernel) : Cond.fieldLink "DioceseBookModel" 80 "DioceseBookModel" "place" "I" ∈ aAW)) (fun _ h9 => h9) rfl (by decide +kernel) rfl rfl (by rw [hlen23]; decide) ctD_Model_201 (fun H locs hP hD hS => ?_)
  obtain ⟨fs24, hfs24⟩ : ∃ z : List Value, z = fs23.set 32 (.int (-1)) := ⟨_, rfl⟩
  have hlen24 : fs24.length = 97 := by rw [hfs24, List.length_set, hlen23]
  have hP : va_P D wCl ((h0, .inr (12, fs24)) :: Z23) H := by rw [hfs24]; exact hP
  have hD : va_D A ((h0, .inr (12, fs24)) :: Z23) := by rw [hfs24]; exact hD
  refine lv_aload_n hx hb ctD_Model_204 rfl (lv_at hl 0 rfl) ?_
  refine lv_sipush (v := 140) hx hb ctD_Model_205 (by decide) ?_
  refine a_newa (atype := .int) (ty := .int) (c0 := cA 0) 0 hx hb (hts _ ct_a0) rfl (fun n h => by cases h) hK rfl hP hD hS hA (N' := 140) (a0 := (140, .inl (fun _ => 0))) (fun _ => rfl) (by decide) (by decide) (by decide) (Nat.le_of_ble_eq_true rfl) (Nat.le_of_ble_eq_true rfl) ctD_Model_208 (fun q208 H hP hD hS => ?_)
  obtain ⟨Z24, hZ24⟩ : ∃ z : va_W, z = Z23 ++ [(q208, .inl (cA 0, 140, .inl (fun _ => 0)))] := ⟨_, rfl⟩
  have hP : va_P D wCl ((h0, .inr (12, fs24)) :: Z24) H := by rw [hZ24]; exact hP
  have hD : va_D A ((h0, .inr (12, fs24)) :: Z24) := by rw [hZ24]; exact hD
  refine W.widen (k := 24) (n := 3906) (by omega) (by omega) ?_
  refine va_putF (D := D) (ci := 12) (v := .ref q208) (ty := .array .int) (C := "DioceseBookModel") (T := TX12) (N := 97) hx hb hts gk_cl12.2.1 tyX12 tyX12_ok nmX12 hown hK hP hD hS 0 rfl rfl 36 (by decide) (hts _ (ck_w_ok (i := 1404) (by decide +kernel) : Cond.fieldLink "DioceseBookModel" 84 "DioceseBookModel" "open" "[I" ∈ aAW)) (fun _ h9 => h9) rfl hin rfl (by decide +kernel) rfl rfl (by rw [hlen24]; decide) ctD_Model_210 (fun H locs hP hD hS => ?_)
  obtain ⟨fs25, hfs25⟩ : ∃ z : List Value, z = fs24.set 36 (.ref q208) := ⟨_, rfl⟩
  have hlen25 : fs25.length = 97 := by rw [hfs25, List.length_set, hlen24]
  have hP : va_P D wCl ((h0, .inr (12, fs25)) :: Z24) H := by rw [hfs25]; exact hP
  have hD : va_D A ((h0, .inr (12, fs25)) :: Z24) := by rw [hfs25]; exact hD
  refine lv_aload_n hx hb ctD_Model_213 rfl (lv_at hl 0 rfl) ?_
  refine lv_bipush (v := 10) hx hb ctD_Model_214 (by decide) ?_
  refine a_newa (atype := .boolean) (ty := .boolean) (c0 := cA 1) 1 hx hb (hts _ ct_a1) rfl (fun n h => by cases h) hK rfl hP hD hS hA (N' := 10) (a0 := (10, .inl (fun _ => 0))) (fun _ => rfl) (by decide) (by decide) (by decide) (Nat.le_of_ble_eq_true rfl) (Nat.le_of_ble_eq_true rfl) ctD_Model_216 (fun q216 H hP hD hS => ?_)
  obtain ⟨Z25, hZ25⟩ : ∃ z : va_W, z = Z24 ++ [(q216, .inl (cA 1, 10, .inl (fun _ => 0)))] := ⟨_, rfl⟩
  have hP : va_P D wCl ((h0, .inr (12, fs25)) :: Z25) H := by rw [hZ25]; exact hP
  have hD : va_D A ((h0, .inr (12, fs25)) :: Z25) := by rw [hZ25]; exact hD
  refine W.widen (k := 25) (n := 3916) (by omega) (by omega) ?_
  refine va_putF (D := D) (ci := 12) (v := .ref q216) (ty := .array .boolean) (C := "DioceseBookModel") (T := TX12) (N := 97) hx hb hts gk_cl12.2.1 tyX12 tyX12_ok nmX12 hown hK hP hD hS 0 rfl rfl 39 (by decide) (hts _ (ck_w_ok (i := 1407) (by decide +kernel) : Cond.fieldLink "DioceseBookModel" 87 "DioceseBookModel" "isOn" "[Z" ∈ aAW)) (fun _ h9 => h9) rfl hin rfl (by decide +kernel) rfl rfl (by rw [hlen25]; decide) ctD_Model_218 (fun H locs hP hD hS => ?_)
  obtain ⟨fs26, hfs26⟩ : ∃ z : List Value, z = fs25.set 39 (.ref q216) := ⟨_, rfl⟩
  have hlen26 : fs26.length = 97 := by rw [hfs26, List.length_set, hlen25]
  have hP : va_P D wCl ((h0, .inr (12, fs26)) :: Z25) H := by rw [hfs26]; exact hP
  have hD : va_D A ((h0, .inr (12, fs26)) :: Z25) := by rw [hfs26]; exact hD
  refine lv_aload_n hx hb ctD_Model_221 rfl (lv_at hl 0 rfl) ?_
  refine lv_bipush (v := 10) hx hb ctD_Model_222 (by decide) ?_
  refine a_newa (atype := .int) (ty := .int) (c0 := cA 0) 0 hx hb (hts _ ct_a0) rfl (fun n h => by cases h) hK rfl hP hD hS hA (N' := 10) (a0 := (10, .inl (fun _ => 0))) (fun _ => rfl) (by decide) (by decide) (by decide) (Nat.le_of_ble_eq_true rfl) (Nat.le_of_ble_eq_true rfl) ctD_Model_224 (fun q224 H hP hD hS => ?_)
  obtain ⟨Z26, hZ26⟩ : ∃ z : va_W, z = Z25 ++ [(q224, .inl (cA 0, 10, .inl (fun _ => 0)))] := ⟨_, rfl⟩
  have hP : va_P D wCl ((h0, .inr (12, fs26)) :: Z26) H := by rw [hZ26]; exact hP
  have hD : va_D A ((h0, .inr (12, fs26)) :: Z26) := by rw [hZ26]; exact hD
  refine W.widen (k := 26) (n := 3926) (by omega) (by omega) ?_
  refine va_putF (D := D) (ci := 12) (v := .ref q224) (ty := .array .int) (C := "DioceseBookModel") (T := TX12) (N := 97) hx hb hts gk_cl12.2.1 tyX12 tyX12_ok nmX12 hown hK hP hD hS 0 rfl rfl 40 (by decide) (hts _ (ck_w_ok (i := 1408) (by decide +kernel) : Cond.fieldLink "DioceseBookModel" 90 "DioceseBookModel" "order" "[I" ∈ aAW)) (fun _ h9 => h9) rfl hin rfl (by decide +kernel) rfl rfl (by rw [hlen26]; decide) ctD_Model_226 (fun H locs hP hD hS => ?_)
  obtain ⟨fs27, hfs27⟩ : ∃ z : List Value, z = fs26.set 40 (.ref q224) := ⟨_, rfl⟩
  have hlen27 : fs27.length = 97 := by rw [hfs27, List.length_set, hlen26]
  have hP : va_P D wCl ((h0, .inr (12, fs27)) :: Z26) H := by rw [hfs27]; exact hP
  have hD : va_D A ((h0, .inr (12, fs27)) :: Z26) := by rw [hfs27]; exact hD
  refine lv_aload_n hx hb ctD_Model_229 rfl (lv_at hl 0 rfl) ?_
  refine lv_bipush (v := 12) hx hb ctD_Model_230 (by decide) ?_
  refine a_newa (atype := .int) (ty := .int) (c0 := cA 0) 0 hx hb (hts _ ct_a0) rfl (fun n h => by cases h) hK rfl hP hD hS hA (N' := 12) (a0 := (12, .inl (fun _ => 0))) (fun _ => rfl) (by decide) (by decide) (by decide) (Nat.le_of_ble_eq_true rfl) (Nat.le_of_ble_eq_true rfl) ctD_Model_232 (fun q232 H hP hD hS => ?_)
  obtain ⟨Z27, hZ27⟩ : ∃ z : va_W, z = Z26 ++ [(q232, .inl (cA 0, 12, .inl (fun _ => 0)))] := ⟨_, rfl⟩
  have hP : va_P D wCl ((h0, .inr (12, fs27)) :: Z27) H := by rw [hZ27]; exact hP
  have hD : va_D A ((h0, .inr (12, fs27)) :: Z27) := by rw [hZ27]; exact hD
  refine W.widen (k := 27) (n := 3938) (by omega) (by omega) ?_
  refine va_putF (D := D) (ci := 12) (v := .ref q232) (ty := .array .int) (C := "DioceseBookModel") (T := TX12) (N := 97) hx hb hts gk_cl12.2.1 tyX12 tyX12_ok nmX12 hown hK hP hD hS 0 rfl rfl 43 (by decide) (hts _ (ck_w_ok (i := 1411) (by decide +kernel) : Cond.fieldLink "DioceseBookModel" 93 "DioceseBookModel" "holders" "[I" ∈ aAW)) (fun _ h9 => h9) rfl hin rfl (by decide +kernel) rfl rfl (by rw [hlen27]; decide) ctD_Model_234 (fun H locs hP hD hS => ?_)
  obtain ⟨fs28, hfs28⟩ : ∃ z : List Value, z = fs27.set 43 (.ref q232) := ⟨_, rfl⟩
  have hlen28 : fs28.length = 97 := by rw [hfs28, List.length_set, hlen27]
  have hP : va_P D wCl ((h0, .inr (12, fs28)) :: Z27) H := by rw [hfs28]; exact hP
  have hD : va_D A ((h0, .inr (12, fs28)) :: Z27) := by rw [hfs28]; exact hD
  refine lv_aload_n hx hb ctD_Model_237 rfl (lv_at hl 0 rfl) ?_
  refine lv_sipush (v := 480) hx hb ctD_Model_238 (by decide) ?_
  refine a_newa (atype := .int) (ty := .int) (c0 := cA 0) 0 hx hb (hts _ ct_a0) rfl (fun n h => by cases h) hK rfl hP hD hS hA (N' := 480) (a0 := (480, .inl (fun _ => 0))) (fun _ => rfl) (by decide) (by decide) (by decide) (Nat.le_of_ble_eq_true rfl) (Nat.le_of_ble_eq_true rfl) ctD_Model_241 (fun q241 H hP hD hS => ?_)
  obtain ⟨Z28, hZ28⟩ : ∃ z : va_W, z = Z27 ++ [(q241, .inl (cA 0, 480, .inl (fun _ => 0)))] := ⟨_, rfl⟩
  have hP : va_P D wCl ((h0, .inr (12, fs28)) :: Z28) H := by rw [hZ28]; exact hP
  have hD : va_D A ((h0, .inr (12, fs28)) :: Z28) := by rw [hZ28]; exact hD
  refine W.widen (k := 28) (n := 4418) (by omega) (by omega) ?_
  refine va_putF (D := D) (ci := 12) (v := .ref q241) (ty := .array .int) (C := "DioceseBookModel") (T := TX12) (N := 97) hx hb hts gk_cl12.2.1 tyX12 tyX12_ok nmX12 hown hK hP hD hS 0 rfl rfl 44 (by decide) (hts _ (ck_w_ok (i := 1412) (by decide +kernel) : Cond.fieldLink "DioceseBookModel" 96 "DioceseBookModel" "holder" "[I" ∈ aAW)) (fun _ h9 => h9) rfl hin rfl (by decide +kernel) rfl rfl (by rw [hlen28]; decide) ctD_Model_243 (fun H locs hP hD hS => ?_)
  obtain ⟨fs29, hfs29⟩ : ∃ z : List Value, z = fs28.set 44 (.ref q241) := ⟨_, rfl⟩
  have hlen29 : fs29.length = 97 := by rw [hfs29, List.length_set, hlen28]
  have hP : va_P D wCl ((h0, .inr (12, fs29)) :: Z28) H := by rw [hfs29]; exact hP
  have hD : va_D A ((h0, .inr (12, fs29)) :: Z28) := by rw [hfs29]; exact hD
  refine lv_aload_n hx hb ctD_Model_246 rfl (lv_at hl 0 rfl) ?_
  refine lv_bipush (v := 12) hx hb ctD_Model_247 (by decide) ?_
  refine a_newa (atype := .int) (ty := .int) (c0 := cA 0) 0 hx hb (hts _ ct_a0) rfl (fun n h => by cases h) hK rfl hP hD hS hA (N' := 12) (a0 := (12, .inl (fun _ => 0))) (fun _ => rfl) (by decide) (by decide) (by decide) (Nat.le_of_ble_eq_true rfl) (Nat.le_of_ble_eq_true rfl) ctD_Model_249 (fun q249 H hP hD hS => ?_)
  obtain ⟨Z29, hZ29⟩ : ∃ z : va_W, z = Z28 ++ [(q249, .inl (cA 0, 12, .inl (fun _ => 0)))] := ⟨_, rfl⟩
  have hP : va_P D wCl ((h0, .inr (12, fs29)) :: Z29) H := by rw [hZ29]; exact hP
  have hD : va_D A ((h0, .inr (12, fs29)) :: Z29) := by rw [hZ29]; exact hD
  refine W.widen (k := 29) (n := 4430) (by omega) (by omega) ?_
  refine va_putF (D := D) (ci := 12) (v := .ref q249) (ty := .array .int) (C := "DioceseBookModel") (T := TX12) (N := 97) hx hb hts gk_cl12.2.1 tyX12 tyX12_ok nmX12 hown hK hP hD hS 0 rfl rfl 45 (by decide) (hts _ (ck_w_ok (i := 1413) (by decide +kernel) : Cond.fieldLink "DioceseBookModel" 99 "DioceseBookModel" "since" "[I" ∈ aAW)) (fun _ h9 => h9) rfl hin rfl (by decide +kernel) rfl rfl (by rw [hlen29]; decide) ctD_Model_251 (fun H locs hP hD hS => ?_)
  obtain ⟨fs30, hfs30⟩ : ∃ z : List Value, z = fs29.set 45 (.ref q249) := ⟨_, rfl⟩
  have hlen30 : fs30.length = 97 := by rw [hfs30, List.length_set, hlen29]
  have hP : va_P D wCl ((h0, .inr (12, fs30)) :: Z29) H := by rw [hfs30]; exact hP
  have hD : va_D A ((h0, .inr (12, fs30)) :: Z29) := by rw [hfs30]; exact hD
  refine lv_aload_n hx hb ctD_Model_254 rfl (lv_at hl 0 rfl) ?_
  refine lv_bipush (v := 12) hx hb ctD_Model_255 (by decide) ?_
  refine a_newa (atype := .int) (ty := .int) (c0 := cA 0) 0 hx hb (hts _ ct_a0) rfl (fun n h => by cases h) hK rfl hP hD hS hA (N' := 12) (a0 := (12, .inl (fun _ => 0))) (fun _ => rfl) (by decide) (by decide) (by decide) (Nat.le_of_ble_eq_true rfl) (Nat.le_of_ble_eq_true rfl) ctD_Model_257 (fun q257 H hP hD hS => ?_)
  obtain ⟨Z30, hZ30⟩ : ∃ z : va_W, z = Z29 ++ [(q257, .inl (cA 0, 12, .inl (fun _ => 0)))] := ⟨_, rfl⟩
  have hP : va_P D wCl ((h0, .inr (12, fs30)) :: Z30) H := by rw [hZ30]; exact hP
  have hD : va_D A ((h0, .inr (12, fs30)) :: Z30) := by rw [hZ30]; exact hD
  refine W.widen (k := 30) (n := 4442) (by omega) (by omega) ?_
  refine va_putF (D := D) (ci := 12) (v := .ref q257) (ty := .array .int) (C := "DioceseBookModel") (T := TX12) (N := 97) hx hb hts gk_cl12.2.1 tyX12 tyX12_ok nmX12 hown hK hP hD hS 0 rfl rfl 46 (by decide) (hts _ (ck_w_ok (i := 1414) (by decide +kernel) : Cond.fieldLink "DioceseBookModel" 102 "DioceseBookModel" "cause" "[I" ∈ aAW)) (fun _ h9 => h9) rfl hin rfl (by decide +kernel) rfl rfl (by rw [hlen30]; decide) ctD_Model_259 (fun H locs hP hD hS => ?_)
  obtain ⟨fs31, hfs31⟩ : ∃ z : List Value, z = fs30.set 46 (.ref q257) := ⟨_, rfl⟩
  have hlen31 : fs31.length = 97 := by rw [hfs31, List.length_set, hlen30]
  have hP : va_P D wCl ((h0, .inr (12, fs31)) :: Z30) H := by rw [hfs31]; exact hP
  have hD : va_D A ((h0, .inr (12, fs31)) :: Z30) := by rw [hfs31]; exact hD
  refine lv_aload_n hx hb ctD_Model_262 rfl (lv_at hl 0 rfl) ?_
  refine lv_bipush (v := 12) hx hb ctD_Model_263 (by decide) ?_
  refine a_newa (atype := .int) (ty := .int) (c0 := cA 0) 0 hx hb (hts _ ct_a0) rfl (fun n h => by cases h) hK rfl hP hD hS hA (N' := 12) (a0 := (12, .inl (fun _ => 0))) (fun _ => rfl) (by decide) (by decide) (by decide) (Nat.le_of_ble_eq_true rfl) (Nat.le_of_ble_eq_true rfl) ctD_Model_265 (fun q265 H hP hD hS => ?_)
  obtain ⟨Z31, hZ31⟩ : ∃ z : va_W, z = Z30 ++ [(q265, .inl (cA 0, 12, .inl (fun _ => 0)))] := ⟨_, rfl⟩
  have hP : va_P D wCl ((h0, .inr (12, fs31)) :: Z31) H := by rw [hZ31]; exact hP
  have hD : va_D A ((h0, .inr (12, fs31)) :: Z31) := by rw [hZ31]; exact hD
  refine W.widen (k := 31) (n := 4454) (by omega) (by omega) ?_
  refine va_putF (D := D) (ci := 12) (v := .ref q265) (ty := .array .int) (C := "DioceseBookModel") (T := TX12) (N := 97) hx hb hts gk_cl12.2.1 tyX12 tyX12_ok nmX12 hown hK hP hD hS 0 rfl rfl 47 (by decide) (hts _ (ck_w_ok (i := 1415) (by decide +kernel) : Cond.fieldLink "DioceseBookModel" 105 "DioceseBookModel" "rightA" "[I" ∈ aAW)) (fun _ h9 => h9) rfl hin rfl (by decide +kernel) rfl rfl (by rw [hlen31]; decide) ctD_Model_267 (fun H locs hP hD hS => ?_)
  obtain ⟨fs32, hfs32⟩ : ∃ z : List Value, z = fs31.set 47 (.ref q265) := ⟨_, rfl⟩
  have hlen32 : fs32.length = 97 := by rw [hfs32, List.length_set, hlen31]
  have hP : va_P D wCl ((h0, .inr (12, fs32)) :: Z31) H := by rw [hfs32]; exact hP
  have hD : va_D A ((h0, .inr (12, fs32)) :: Z31) := by rw [hfs32]; exact hD
  refine lv_aload_n hx hb ctD_Model_270 rfl (lv_at hl 0 rfl) ?_
  refine lv_bipush (v := 12) hx hb ctD_Model_271 (by decide) ?_
  refine a_newa (atype := .int) (ty := .int) (c0 := cA 0) 0 hx hb (hts _ ct_a0) rfl (fun n h => by cases h) hK rfl hP hD hS hA (N' := 12) (a0 := (12, .inl (fun _ => 0))) (fun _ => rfl) (by decide) (by decide) (by decide) (Nat.le_of_ble_eq_true rfl) (Nat.le_of_ble_eq_true rfl) ctD_Model_273 (fun q273 H hP hD hS => ?_)
  obtain ⟨Z32, hZ32⟩ : ∃ z : va_W, z = Z31 ++ [(q273, .inl (cA 0, 12, .inl (fun _ => 0)))] := ⟨_, rfl⟩
  have hP : va_P D wCl ((h0, .inr (12, fs32)) :: Z32) H := by rw [hZ32]; exact hP
  have hD : va_D A ((h0, .inr (12, fs32)) :: Z32) := by rw [hZ32]; exact hD
  refine W.widen (k := 32) (n := 4466) (by omega) (by omega) ?_
  refine va_putF (D := D) (ci := 12) (v := .ref q273) (ty := .array .int) (C := "DioceseBookModel") (T := TX12) (N := 97) hx hb hts gk_cl12.2.1 tyX12 tyX12_ok nmX12 hown hK hP hD hS 0 rfl rfl 48 (by decide) (hts _ (ck_w_ok (i := 1416) (by decide +kernel) : Cond.fieldLink "DioceseBookModel" 108 "DioceseBookModel" "rightB" "[I" ∈ aAW)) (fun _ h9 => h9) rfl hin rfl (by decide +kernel) rfl rfl (by rw [hlen32]; decide) ctD_Model_275 (fun H locs hP hD hS => ?_)
  obtain ⟨fs33, hfs33⟩ : ∃ z : List Value, z = fs32.set 48 (.ref q273) := ⟨_, rfl⟩
  have hlen33 : fs33.length = 97 := by rw [hfs33, List.length_set, hlen32]
  have hP : va_P D wCl ((h0, .inr (12, fs33)) :: Z32) H := by rw [hfs33]; exact hP
  have hD : va_D A ((h0, .inr (12, fs33)) :: Z32) := by rw [hfs33]; exact hD
  refine lv_aload_n hx hb ctD_Model_278 rfl (lv_at hl 0 rfl) ?_
  refine lv_bipush (v := 12) hx hb ctD_Model_279 (by decide) ?_
  refine a_newa (atype := .int) (ty := .int) (c0 := cA 0) 0 hx hb (hts _ ct_a0) rfl (fun n h => by cases h) hK rfl hP hD hS hA (N' := 12) (a0 := (12, .inl (fun _ => 0))) (fun _ => rfl) (by decide) (by decide) (by decide) (Nat.le_of_ble_eq_true rfl) (Nat.le_of_ble_eq_true rfl) ctD_Model_281 (fun q281 H hP hD hS => ?_)
  obtain ⟨Z33, hZ33⟩ : ∃ z : va_W, z = Z32 ++ [(q281, .inl (cA 0, 12, .inl (fun _ => 0)))] := ⟨_, rfl⟩
  have hP : va_P D wCl ((h0, .inr (12, fs33)) :: Z33) H := by rw [hZ33]; exact hP
  have hD : va_D A ((h0, .inr (12, fs33)) :: Z33) := by rw [hZ33]; exact hD
  refine W.widen (k := 33) (n := 4478) (by omega) (by omega) ?_
  refine va_putF (D := D) (ci := 12) (v := .ref q281) (ty := .array .int) (C := "DioceseBookModel") (T := TX12) (N := 97) hx hb hts gk_cl12.2.1 tyX12 tyX12_ok nmX12 hown hK hP hD hS 0 rfl rfl 49 (by decide) (hts _ (ck_w_ok (i := 1417) (by decide +kernel) : Cond.fieldLink "DioceseBookModel" 111 "DioceseBookModel" "turn" "[I" ∈ aAW)) (fun _ h9 => h9) rfl hin rfl (by decide +kernel) rfl rfl (by rw [hlen33]; decide) ctD_Model_283 (fun H locs hP hD hS => ?_)
  obtain ⟨fs34, hfs34⟩ : ∃ z : List Value, z = fs33.set 49 (.ref q281) := ⟨_, rfl⟩
  have hlen34 : fs34.length = 97 := by rw [hfs34, List.length_set, hlen33]
  have hP : va_P D wCl ((h0, .inr (12, fs34)) :: Z33) H := by rw [hfs34]; exact hP
  have hD : va_D A ((h0, .inr (12, fs34)) :: Z33) := by rw [hfs34]; exact hD
  refine lv_aload_n hx hb ctD_Model_286 rfl (lv_at hl 0 rfl) ?_
  refine lv_sipush (v := 480) hx hb ctD_Model_287 (by decide) ?_
  refine a_newa (atype := .int) (ty := .int) (c0 := cA 0) 0 hx hb (hts _ ct_a0) rfl (fun n h => by cases h) hK rfl hP hD hS hA (N' := 480) (a0 := (480, .inl (fun _ => 0))) (fun _ => rfl) (by decide) (by decide) (by decide) (Nat.le_of_ble_eq_true rfl) (Nat.le_of_ble_eq_true rfl) ctD_Model_290 (fun q290 H hP hD hS => ?_)
  obtain ⟨Z34, hZ34⟩ : ∃ z : va_W, z = Z33 ++ [(q290, .inl (cA 0, 480, .inl (fun _ => 0)))] := ⟨_, rfl⟩
  have hP : va_P D wCl ((h0, .inr (12, fs34)) :: Z34) H := by rw [hZ34]; exact hP
  have hD : va_D A ((h0, .inr (12, fs34)) :: Z34) := by rw [hZ34]; exact hD
  refine W.widen (k := 34) (n := 4958) (by omega) (by omega) ?_
  refine va_putF (D := D) (ci := 12) (v := .ref q290) (ty := .array .int) (C := "DioceseBookModel") (T := TX12) (N := 97) hx hb hts gk_cl12.2.1 tyX12 tyX12_ok nmX12 hown hK hP hD hS 0 rfl rfl 50 (by decide) (hts _ (ck_w_ok (i := 1418) (by decide +kernel) : Cond.fieldLink "DioceseBookModel" 114 "DioceseBookModel" "came" "[I" ∈ aAW)) (fun _ h9 => h9) rfl hin rfl (by decide +kernel) rfl rfl (by rw [hlen34]; decide) ctD_Model_292 (fun H locs hP hD hS => ?_)
  obtain ⟨fs35, hfs35⟩ : ∃ z : List Value, z = fs34.set 50 (.ref q290) := ⟨_, rfl⟩
  have hlen35 : fs35.length = 97 := by rw [hfs35, List.length_set, hlen34]
  have hP : va_P D wCl ((h0, .inr (12, fs35)) :: Z34) H := by rw [hfs35]; exact hP
  have hD : va_D A ((h0, .inr (12, fs35)) :: Z34) := by rw [hfs35]; exact hD
  refine lv_aload_n hx hb ctD_Model_295 rfl (lv_at hl 0 rfl) ?_
  refine lv_sipush (v := 150) hx hb ctD_Model_296 (by decide) ?_
  refine a_newa (atype := .int) (ty := .int) (c0 := cA 0) 0 hx hb (hts _ ct_a0) rfl (fun n h => by cases h) hK rfl hP hD hS hA (N' := 150) (a0 := (150, .inl (fun _ => 0))) (fun _ => rfl) (by decide) (by decide) (by decide) (Nat.le_of_ble_eq_true rfl) (Nat.le_of_ble_eq_true rfl) ctD_Model_299 (fun q299 H hP hD hS => ?_)
  obtain ⟨Z35, hZ35⟩ : ∃ z : va_W, z = Z34 ++ [(q299, .inl (cA 0, 150, .inl (fun _ => 0)))] := ⟨_, rfl⟩
  have hP : va_P D wCl ((h0, .inr (12, fs35)) :: Z35) H := by rw [hZ35]; exact hP
  have hD : va_D A ((h0, .inr (12, fs35)) :: Z35) := by rw [hZ35]; exact hD
  refine W.widen (k := 35) (n := 5108) (by omega) (by omega) ?_
  refine va_putF (D := D) (ci := 12) (v := .ref q299) (ty := .array .int) (C := "DioceseBookModel") (T := TX12) (N := 97) hx hb hts gk_cl12.2.1 tyX12 tyX12_ok nmX12 hown hK hP hD hS 0 rfl rfl 53 (by decide) (hts _ (ck_w_ok (i := 1421) (by decide +kernel) : Cond.fieldLink "DioceseBookModel" 117 "DioceseBookModel" "soldOf" "[I" ∈ aAW)) (fun _ h9 => h9) rfl hin rfl (by decide +kernel) rfl rfl (by rw [hlen35]; decide) ctD_Model_301 (fun H locs hP hD hS => ?_)
  obtain ⟨fs36, hfs36⟩ : ∃ z : List Value, z = fs35.set 53 (.ref q299) := ⟨_, rfl⟩
  have hlen36 : fs36.length = 97 := by rw [hfs36, List.length_set, hlen35]
  have hP : va_P D wCl ((h0, .inr (12, fs36)) :: Z35) H := by rw [hfs36]; exact hP
  have hD : va_D A ((h0, .inr (12, fs36)) :: Z35) := by rw [hfs36]; exact hD
  refine lv_aload_n hx hb ctD_Model_304 rfl (lv_at hl 0 rfl) ?_
  refine lv_sipush (v := 150) hx hb ctD_Model_305 (by decide) ?_
  refine a_newa (atype := .int) (ty := .int) (c0 := cA 0) 0 hx hb (hts _ ct_a0) rfl (fun n h => by cases h) hK rfl hP hD hS hA (N' := 150) (a0 := (150, .inl (fun _ => 0))) (fun _ => rfl) (by decide) (by decide) (by decide) (Nat.le_of_ble_eq_true rfl) (Nat.le_of_ble_eq_true rfl) ctD_Model_308 (fun q308 H hP hD hS => ?_)
  obtain ⟨Z36, hZ36⟩ : ∃ z : va_W, z = Z35 ++ [(q308, .inl (cA 0, 150, .inl (fun _ => 0)))] := ⟨_, rfl⟩
  have hP : va_P D wCl ((h0, .inr (12, fs36)) :: Z36) H := by rw [hZ36]; exact hP
  have hD : va_D A ((h0, .inr (12, fs36)) :: Z36) := by rw [hZ36]; exact hD
  refine W.widen (k := 36) (n := 5258) (by omega) (by omega) ?_
  refine va_putF (D := D) (ci := 12) (v := .ref q308) (ty := .array .int) (C := "DioceseBookModel") (T := TX12) (N := 97) hx hb hts gk_cl12.2.1 tyX12 tyX12_ok nmX12 hown hK hP hD hS 0 rfl rfl 54 (by decide) (hts _ (ck_w_ok (i := 1422) (by decide +kernel) : Cond.fieldLink "DioceseBookModel" 120 "DioceseBookModel" "soldFrom" "[I" ∈ aAW)) (fun _ h9 => h9) rfl hin rfl (by decide +kernel) rfl rfl (by rw [hlen36]; decide) ctD_Model_310 (fun H locs hP hD hS => ?_)
  obtain ⟨fs37, hfs37⟩ : ∃ z : List Value, z = fs36.set 54 (.ref q308) := ⟨_, rfl⟩
  have hlen37 : fs37.length = 97 := by rw [hfs37, List.length_set, hlen36]
  have hP : va_P D wCl ((h0, .inr (12, fs37)) :: Z36) H := by rw [hfs37]; exact hP
  have hD : va_D A ((h0, .inr (12, fs37)) :: Z36) := by rw [hfs37]; exact hD
  refine lv_aload_n hx hb ctD_Model_313 rfl (lv_at hl 0 rfl) ?_
  refine lv_sipush (v := 150) hx hb ctD_Model_314 (by decide) ?_
  refine a_newa (atype := .int) (ty := .int) (c0 := cA 0) 0 hx hb (hts _ ct_a0) rfl (fun n h => by cases h) hK rfl hP hD hS hA (N' := 150) (a0 := (150, .inl (fun _ => 0))) (fun _ => rfl) (by decide) (by decide) (by decide) (Nat.le_of_ble_eq_true rfl) (Nat.le_of_ble_eq_true rfl) ctD_Model_317 (fun q317 H hP hD hS => ?_)
  obtain ⟨Z37, hZ37⟩ : ∃ z : va_W, z = Z36 ++ [(q317, .inl (cA 0, 150, .inl (fun _ => 0)))] := ⟨_, rfl⟩
  have hP : va_P D wCl ((h0, .inr (12, fs37)) :: Z37) H := by rw [hZ37]; exact hP
  have hD : va_D A ((h0, .inr (12, fs37)) :: Z37) := by rw [hZ37]; exact hD
  refine W.widen (k := 37) (n := 5408) (by omega) (by omega) ?_
  refine va_putF (D := D) (ci := 12) (v := .ref q317) (ty := .array .int) (C := "DioceseBookModel") (T := TX12) (N := 97) hx hb hts gk_cl12.2.1 tyX12 tyX12_ok nmX12 hown hK hP hD hS 0 rfl rfl 55 (by decide) (hts _ (ck_w_ok (i := 1423) (by decide +kernel) : Cond.fieldLink "DioceseBookModel" 123 "DioceseBookModel" "soldTo" "[I" ∈ aAW)) (fun _ h9 => h9) rfl hin rfl (by decide +kernel) rfl rfl (by rw [hlen37]; decide) ctD_Model_319 (fun H locs hP hD hS => ?_)
  obtain ⟨fs38, hfs38⟩ : ∃ z : List Value, z = fs37.set 55 (.ref q317) := ⟨_, rfl⟩
  have hlen38 : fs38.length = 97 := by rw [hfs38, List.length_set, hlen37]
  have hP : va_P D wCl ((h0, .inr (12, fs38)) :: Z37) H := by rw [hfs38]; exact hP
  have hD : va_D A ((h0, .inr (12, fs38)) :: Z37) := by rw [hfs38]; exact hD
  refine lv_aload_n hx hb ctD_Model_322 rfl (lv_at hl 0 rfl) ?_
  refine lv_sipush (v := 150) hx hb ctD_Model_323 (by decide) ?_
  refine a_newa (atype := .boolean) (ty := .boolean) (c0 := cA 1) 1 hx hb (hts _ ct_a1) rfl (fun n h => by cases h) hK rfl hP hD hS hA (N' := 150) (a0 := (150, .inl (fun _ => 0))) (fun _ => rfl) (by decide) (by decide) (by decide) (Nat.le_of_ble_eq_true rfl) (Nat.le_of_ble_eq_true rfl) ctD_Model_326 (fun q326 H hP hD hS => ?_)
  obtain ⟨Z38, hZ38⟩ : ∃ z : va_W, z = Z37 ++ [(q326, .inl (cA 1, 150, .inl (fun _ => 0)))] := ⟨_, rfl⟩
  have hP : va_P D wCl ((h0, .inr (12, fs38)) :: Z38) H := by rw [hZ38]; exact hP
  have hD : va_D A ((h0, .inr (12, fs38)) :: Z38) := by rw [hZ38]; exact hD
  refine W.widen (k := 38) (n := 5558) (by omega) (by omega) ?_
  refine va_putF (D := D) (ci := 12) (v := .ref q326) (ty := .array .boolean) (C := "DioceseBookModel") (T := TX12) (N := 97) hx hb hts gk_cl12.2.1 tyX12 tyX12_ok nmX12 hown hK hP hD hS 0 rfl rfl 56 (by decide) (hts _ (ck_w_ok (i := 1424) (by decide +kernel) : Cond.fieldLink "DioceseBookModel" 126 "DioceseBookModel" "isUsed" "[Z" ∈ aAW)) (fun _ h9 => h9) rfl hin rfl (by decide +kernel) rfl rfl (by rw [hlen38]; decide) ctD_Model_328 (fun H locs hP hD hS => ?_)
  obtain ⟨fs39, hfs39⟩ : ∃ z : List Value, z = fs38.set 56 (.ref q326) := ⟨_, rfl⟩
  have hlen39 : fs39.length = 97 := by rw [hfs39, List.length_set, hlen38]
  have hP : va_P D wCl ((h0, .inr (12, fs39)) :: Z38) H := by rw [hfs39]; exact hP
  have hD : va_D A ((h0, .inr (12, fs39)) :: Z38) := by rw [hfs39]; exact hD
  refine lv_aload_n hx hb ctD_Model_331 rfl (lv_at hl 0 rfl) ?_
  refine lv_sipush (v := 160) hx hb ctD_Model_332 (by decide) ?_
  refine a_newa (atype := .int) (ty := .int) (c0 := cA 0) 0 hx hb (hts _ ct_a0) rfl (fun n h => by cases h) hK rfl hP hD hS hA (N' := 160) (a0 := (160, .inl (fun _ => 0))) (fun _ => rfl) (by decide) (by decide) (by decide) (Nat.le_of_ble_eq_true rfl) (Nat.le_of_ble_eq_true rfl) ctD_Model_335 (fun q335 H hP hD hS => ?_)
  obtain ⟨Z39, hZ39⟩ : ∃ z : va_W, z = Z38 ++ [(q335, .inl (cA 0, 160, .inl (fun _ => 0)))] := ⟨_, rfl⟩
  have hP : va_P D wCl ((h0, .inr (12, fs39)) :: Z39) H := by rw [hZ39]; exact hP
  have hD : va_D A ((h0, .inr (12, fs39)) :: Z39) := by rw [hZ39]; exact hD
  refine W.widen (k := 39) (n := 5718) (by omega) (by omega) ?_
  refine va_putF (D := D) (ci := 12) (v := .ref q335) (ty := .array .int) (C := "DioceseBookModel") (T := TX12) (N := 97) hx hb hts gk_cl12.2.1 tyX12 tyX12_ok nmX12 hown hK hP hD hS 0 rfl rfl 59 (by decide) (hts _ (ck_w_ok (i := 1427) (by decide +kernel) : Cond.fieldLink "DioceseBookModel" 129 "DioceseBookModel" "changeDay" "[I" ∈ aAW)) (fun _ h9 => h9) rfl hin rfl (by decide +kernel) rfl rfl (by rw [hlen39]; decide) ctD_Model_337 (fun H locs hP hD hS => ?_)
  obtain ⟨fs40, hfs40⟩ : ∃ z : List Value, z = fs39.set 59 (.ref q335) := ⟨_, rfl⟩
  have hlen40 : fs40.length = 97 := by rw [hfs40, List.length_set, hlen39]
  have hP : va_P D wCl ((h0, .inr (12, fs40)) :: Z39) H := by rw [hfs40]; exact hP
  have hD : va_D A ((h0, .inr (12, fs40)) :: Z39) := by rw [hfs40]; exact hD
  refine lv_aload_n hx hb ctD_Model_340 rfl (lv_at hl 0 rfl) ?_
  refine lv_sipush (v := 160) hx hb ctD_Model_341 (by decide) ?_
  refine a_newa (atype := .int) (ty := .int) (c0 := cA 0) 0 hx hb (hts _ ct_a0) rfl (fun n h => by cases h) hK rfl hP hD hS hA (N' := 160) (a0 := (160, .inl (fun _ => 0))) (fun _ => rfl) (by decide) (by decide) (by decide) (Nat.le_of_ble_eq_true rfl) (Nat.le_of_ble_eq_true rfl) ctD_Model_344 (fun q344 H hP hD hS => ?_)
  obtain ⟨Z40, hZ40⟩ : ∃ z : va_W, z = Z39 ++ [(q344, .inl (cA 0, 160, .inl (fun _ => 0)))] := ⟨_, rfl⟩
  have hP : va_P D wCl ((h0, .inr (12, fs40)) :: Z40) H := by rw [hZ40]; exact hP
  have hD : va_D A ((h0, .inr (12, fs40)) :: Z40) := by rw [hZ40]; exact hD
  refine W.widen (k := 40) (n := 5878) (by omega) (by omega) ?_
  refine va_putF (D := D) (ci := 12) (v := .ref q344) (ty := .array .int) (C := "DioceseBookModel") (T := TX12) (N := 97) hx hb hts gk_cl12.2.1 tyX12 tyX12_ok nmX12 hown hK hP hD hS 0 rfl rfl 60 (by decide) (hts _ (ck_w_ok (i := 1428) (by decide +kernel) : Cond.fieldLink "DioceseBookModel" 132 "DioceseBookModel" "changeMany" "[I" ∈ aAW)) (fun _ h9 => h9) rfl hin rfl (by decide +kernel) rfl rfl (by rw [hlen40]; decide) ctD_Model_346 (fun H locs hP hD hS => ?_)
  obtain ⟨fs41, hfs41⟩ : ∃ z : List Value, z = fs40.set 60 (.ref q344) := ⟨_, rfl⟩
  have hlen41 : fs41.length = 97 := by rw [hfs41, List.length_set, hlen40]
  have hP : va_P D wCl ((h0, .inr (12, fs41)) :: Z40) H := by rw [hfs41]; exact hP
  have hD : va_D A ((h0, .inr (12, fs41)) :: Z40) := by rw [hfs41]; exact hD
  refine lv_aload_n hx hb ctD_Model_349 rfl (lv_at hl 0 rfl) ?_
  refine lv_sipush (v := 160) hx hb ctD_Model_350 (by decide) ?_
  refine a_newa (atype := .int) (ty := .int) (c0 := cA 0) 0 hx hb (hts _ ct_a0) rfl (fun n h => by cases h) hK rfl hP hD hS hA (N' := 160) (a0 := (160, .inl (fun _ => 0))) (fun _ => rfl) (by decide) (by decide) (by decide) (Nat.le_of_ble_eq_true rfl) (Nat.le_of_ble_eq_true rfl) ctD_Model_353 (fun q353 H hP hD hS => ?_)
  obtain ⟨Z41, hZ41⟩ : ∃ z : va_W, z = Z40 ++ [(q353, .inl (cA 0, 160, .inl (fun _ => 0)))] := ⟨_, rfl⟩
  have hP : va_P D wCl ((h0, .inr (12, fs41)) :: Z41) H := by rw [hZ41]; exact hP
  have hD : va_D A ((h0, .inr (12, fs41)) :: Z41) := by rw [hZ41]; exact hD
  refine W.widen (k := 41) (n := 6038) (by omega) (by omega) ?_
  refine va_putF (D := D) (ci := 12) (v := .ref q353) (ty := .array .int) (C := "DioceseBookModel") (T := TX12) (N := 97) hx hb hts gk_cl12.2.1 tyX12 tyX12_ok nmX12 hown hK hP hD hS 0 rfl rfl 61 (by decide) (hts _ (ck_w_ok (i := 1429) (by decide +kernel) : Cond.fieldLink "DioceseBookModel" 135 "DioceseBookModel" "changePaper" "[I" ∈ aAW)) (fun _ h9 => h9) rfl hin rfl (by decide +kernel) rfl rfl (by rw [hlen41]; decide) ctD_Model_355 (fun H locs hP hD hS => ?_)
  obtain ⟨fs42, hfs42⟩ : ∃ z : List Value, z = fs41.set 61 (.ref q353) := ⟨_, rfl⟩
  have hlen42 : fs42.length = 97 := by rw [hfs42, List.length_set, hlen41]
  have hP : va_P D wCl ((h0, .inr (12, fs42)) :: Z41) H := by rw [hfs42]; exact hP
  have hD : va_D A ((h0, .inr (12, fs42)) :: Z41) := by rw [hfs42]; exact hD
  refine lv_aload_n hx hb ctD_Model_358 rfl (lv_at hl 0 rfl) ?_
  refine lv_sipush (v := 140) hx hb ctD_Model_359 (by decide) ?_
  refine a_newa (atype := .boolean) (ty := .boolean) (c0 := cA 1) 1 hx hb (hts _ ct_a1) rfl (fun n h => by cases h) hK rfl hP hD hS hA (N' := 140) (a0 := (140, .inl (fun _ => 0))) (fun _ => rfl) (by decide) (by decide) (by decide) (Nat.le_of_ble_eq_true rfl) (Nat.le_of_ble_eq_true rfl) ctD_Model_362 (fun q362 H hP hD hS => ?_)
  obtain ⟨Z42, hZ42⟩ : ∃ z : va_W, z = Z41 ++ [(q362, .inl (cA 1, 140, .inl (fun _ => 0)))] := ⟨_, rfl⟩
  have hP : va_P D wCl ((h0, .inr (12, fs42)) :: Z42) H := by rw [hZ42]; exact hP
  have hD : va_D A ((h0, .inr (12, fs42)) :: Z42) := by rw [hZ42]; exact hD
  refine W.widen (k := 42) (n := 6178) (by omega) (by omega) ?_
  refine va_putF (D := D) (ci := 12) (v := .ref q362) (ty := .array .boolean) (C := "DioceseBookModel") (T := TX12) (N := 97) hx hb hts gk_cl12.2.1 tyX12 tyX12_ok nmX12 hown hK hP hD hS 0 rfl rfl 67 (by decide) (hts _ (ck_w_ok (i := 1435) (by decide +kernel) : Cond.fieldLink "DioceseBookModel" 138 "DioceseBookModel" "bits" "[Z" ∈ aAW)) (fun _ h9 => h9) rfl hin rfl (by decide +kernel) rfl rfl (by rw [hlen42]; decide) ctD_Model_364 (fun H locs hP hD hS => ?_)
  obtain ⟨fs43, hfs43⟩ : ∃ z : List Value, z = fs42.set 67 (.ref q362) := ⟨_, rfl⟩
  have hlen43 : fs43.length = 97 := by rw [hfs43, List.length_set, hlen42]
  have hP : va_P D wCl ((h0, .inr (12, fs43)) :: Z42) H := by rw [hfs43]; exact hP
  have hD : va_D A ((h0, .inr (12, fs43)) :: Z42) := by rw [hfs43]; exact hD
  refine lv_aload_n hx hb ctD_Model_367 rfl (lv_at hl 0 rfl) ?_
  refine lv_sipush (v := 480) hx hb ctD_Model_368 (by decide) ?_
  refine a_newa (atype := .boolean) (ty := .boolean) (c0 := cA 1) 1 hx hb (hts _ ct_a1) rfl (fun n h => by cases h) hK rfl hP hD hS hA (N' := 480) (a0 := (480, .inl (fun _ => 0))) (fun _ => rfl) (by decide) (by decide) (by decide) (Nat.le_of_ble_eq_true rfl) (Nat.le_of_ble_eq_true rfl) ctD_Model_371 (fun q371 H hP hD hS => ?_)
  obtain ⟨Z43, hZ43⟩ : ∃ z : va_W, z = Z42 ++ [(q371, .inl (cA 1, 480, .inl (fun _ => 0)))] := ⟨_, rfl⟩
  have hP : va_P D wCl ((h0, .inr (12, fs43)) :: Z43) H := by rw [hZ43]; exact hP
  have hD : va_D A ((h0, .inr (12, fs43)) :: Z43) := by rw [hZ43]; exact hD
  refine W.widen (k := 43) (n := 6658) (by omega) (by omega) ?_
  refine va_putF (D := D) (ci := 12) (v := .ref q371) (ty := .array .boolean) (C := "DioceseBookModel") (T := TX12) (N := 97) hx hb hts gk_cl12.2.1 tyX12 tyX12_ok nmX12 hown hK hP hD hS 0 rfl rfl 68 (by decide) (hts _ (ck_w_ok (i := 1436) (by decide +kernel) : Cond.fieldLink "DioceseBookModel" 141 "DioceseBookModel" "wasHolder" "[Z" ∈ aAW)) (fun _ h9 => h9) rfl hin rfl (by decide +kernel) rfl rfl (by rw [hlen43]; decide) ctD_Model_373 (fun H locs hP hD hS => ?_)
  obtain ⟨fs44, hfs44⟩ : ∃ z : List Value, z = fs43.set 68 (.ref q371) := ⟨_, rfl⟩
  have hlen44 : fs44.length = 97 := by rw [hfs44, List.length_set, hlen43]
  have hP : va_P D wCl ((h0, .inr (12, fs44)) :: Z43) H := by rw [hfs44]; exact hP
  have hD : va_D A ((h0, .inr (12, fs44)) :: Z43) := by rw [hfs44]; exact hD
  refine lv_aload_n hx hb ctD_Model_376 rfl (lv_at hl 0 rfl) ?_
  refine lv_bipush (v := 20) hx hb ctD_Model_377 (by decide) ?_
  refine a_newa (atype := .int) (ty := .int) (c0 := cA 0) 0 hx hb (hts _ ct_a0) rfl (fun n h => by cases h) hK rfl hP hD hS hA (N' := 20) (a0 := (20, .inl (fun _ => 0))) (fun _ => rfl) (by decide) (by decide) (by decide) (Nat.le_of_ble_eq_true rfl) (Nat.le_of_ble_eq_true rfl) ctD_Model_379 (fun q379 H hP hD hS => ?_)
  obtain ⟨Z44, hZ44⟩ : ∃ z : va_W, z = Z43 ++ [(q379, .inl (cA 0, 20, .inl (fun _ => 0)))] := ⟨_, rfl⟩
  have hP : va_P D wCl ((h0, .inr (12, fs44)) :: Z44) H := by rw [hZ44]; exact hP
  have hD : va_D A ((h0, .inr (12, fs44)) :: Z44) := by rw [hZ44]; exact hD
  refine W.widen (k := 44) (n := 6678) (by omega) (by omega) ?_
  refine va_putF (D := D) (ci := 12) (v := .ref q379) (ty := .array .int) (C := "DioceseBookModel") (T := TX12) (N := 97) hx hb hts gk_cl12.2.1 tyX12 tyX12_ok nmX12 hown hK hP hD hS 0 rfl rfl 70 (by decide) (hts _ (ck_w_ok (i := 1438) (by decide +kernel) : Cond.fieldLink "DioceseBookModel" 144 "DioceseBookModel" "suitDay" "[I" ∈ aAW)) (fun _ h9 => h9) rfl hin rfl (by decide +kernel) rfl rfl (by rw [hlen44]; decide) ctD_Model_381 (fun H locs hP hD hS => ?_)
  obtain ⟨fs45, hfs45⟩ : ∃ z : List Value, z = fs44.set 70 (.ref q379) := ⟨_, rfl⟩
  have hlen45 : fs45.length = 97 := by rw [hfs45, List.length_set, hlen44]
  have hP : va_P D wCl ((h0, .inr (12, fs45)) :: Z44) H := by rw [hfs45]; exact hP
  have hD : va_D A ((h0, .inr (12, fs45)) :: Z44) := by rw [hfs45]; exact hD
  refine lv_aload_n hx hb ctD_Model_384 rfl (lv_at hl 0 rfl) ?_
  refine lv_bipush (v := 20) hx hb ctD_Model_385 (by decide) ?_
  refine a_newa (atype := .int) (ty := .int) (c0 := cA 0) 0 hx hb (hts _ ct_a0) rfl (fun n h => by cases h) hK rfl hP hD hS hA (N' := 20) (a0 := (20, .inl (fun _ => 0))) (fun _ => rfl) (by decide) (by decide) (by decide) (Nat.le_of_ble_eq_true rfl) (Nat.le_of_ble_eq_true rfl) ctD_Model_387 (fun q387 H hP hD hS => ?_)
  obtain ⟨Z45, hZ45⟩ : ∃ z : va_W, z = Z44 ++ [(q387, .inl (cA 0, 20, .inl (fun _ => 0)))] := ⟨_, rfl⟩
  have hP : va_P D wCl ((h0, .inr (12, fs45)) :: Z45) H := by rw [hZ45]; exact hP
  have hD : va_D A ((h0, .inr (12, fs45)) :: Z45) := by rw [hZ45]; exact hD
  refine W.widen (k := 45) (n := 6698) (by omega) (by omega) ?_
  refine va_putF (D := D) (ci := 12) (v := .ref q387) (ty := .array .int) (C := "DioceseBookModel") (T := TX12) (N := 97) hx hb hts gk_cl12.2.1 tyX12 tyX12_ok nmX12 hown hK hP hD hS 0 rfl rfl 71 (by decide) (hts _ (ck_w_ok (i := 1439) (by decide +kernel) : Cond.fieldLink "DioceseBookModel" 147 "DioceseBookModel" "suitSteps" "[I" ∈ aAW)) (fun _ h9 => h9) rfl hin rfl (by decide +kernel) rfl rfl (by rw [hlen45]; decide) ctD_Model_389 (fun H locs hP hD hS => ?_)
  obtain ⟨fs46, hfs46⟩ : ∃ z : List Value, z = fs45.set 71 (.ref q387) := ⟨_, rfl⟩
  have hlen46 : fs46.length = 97 := by rw [hfs46, List.length_set, hlen45]
  have hP : va_P D wCl ((h0, .inr (12, fs46)) :: Z45) H := by rw [hfs46]; exact hP
  have hD : va_D A ((h0, .inr (12, fs46)) :: Z45) := by rw [hfs46]; exact hD
  refine lv_aload_n hx hb ctD_Model_392 rfl (lv_at hl 0 rfl) ?_
  refine lv_bipush (v := 100) hx hb ctD_Model_393 (by decide) ?_
  refine a_newa (atype := .int) (ty := .int) (c0 := cA 0) 0 hx hb (hts _ ct_a0) rfl (fun n h => by cases h) hK rfl hP hD hS hA (N' := 100) (a0 := (100, .inl (fun _ => 0))) (fun _ => rfl) (by decide) (by decide) (by decide) (Nat.le_of_ble_eq_true rfl) (Nat.le_of_ble_eq_true rfl) ctD_Model_395 (fun q395 H hP hD hS => ?_)
  obtain ⟨Z46, hZ46⟩ : ∃ z : va_W, z = Z45 ++ [(q395, .inl (cA 0, 100, .inl (fun _ => 0)))] := ⟨_, rfl⟩
  have hP : va_P D wCl ((h0, .inr (12, fs46)) :: Z46) H := by rw [hZ46]; exact hP
  have hD : va_D A ((h0, .inr (12, fs46)) :: Z46) := by rw [hZ46]; exact hD
  refine W.widen (k := 46) (n := 6798) (by omega) (by omega) ?_
  refine va_putF (D := D) (ci := 12) (v := .ref q395) (ty := .array .int) (C := "DioceseBookModel") (T := TX12) (N := 97) hx hb hts gk_cl12.2.1 tyX12 tyX12_ok nmX12 hown hK hP hD hS 0 rfl rfl 72 (by decide) (hts _ (ck_w_ok (i := 1440) (by decide +kernel) : Cond.fieldLink "DioceseBookModel" 150 "DioceseBookModel" "stepDay" "[I" ∈ aAW)) (fun _ h9 => h9) rfl hin rfl (by decide +kernel) rfl rfl (by rw [hlen46]; decide) ctD_Model_397 (fun H locs hP hD hS => ?_)
  obtain ⟨fs47, hfs47⟩ : ∃ z : List Value, z = fs46.set 72 (.ref q395) := ⟨_, rfl⟩
  have hlen47 : fs47.length = 97 := by rw [hfs47, List.length_set, hlen46]
  have hP : va_P D wCl ((h0, .inr (12, fs47)) :: Z46) H := by rw [hfs47]; exact hP
  have hD : va_D A ((h0, .inr (12, fs47)) :: Z46) := by rw [hfs47]; exact hD
  refine lv_aload_n hx hb ctD_Model_400 rfl (lv_at hl 0 rfl) ?_
  refine lv_bipush (v := 24) hx hb ctD_Model_401 (by decide) ?_
  refine a_newa (atype := .int) (ty := .int) (c0 := cA 0) 0 hx hb (hts _ ct_a0) rfl (fun n h => by cases h) hK rfl hP hD hS hA (N' := 24) (a0 := (24, .inl (fun _ => 0))) (fun _ => rfl) (by decide) (by decide) (by decide) (Nat.le_of_ble_eq_true rfl) (Nat.le_of_ble_eq_true rfl) ctD_Model_403 (fun q403 H hP hD hS => ?_)
  obtain ⟨Z47, hZ47⟩ : ∃ z : va_W, z = Z46 ++ [(q403, .inl (cA 0, 24, .inl (fun _ => 0)))] := ⟨_, rfl⟩
  have hP : va_P D wCl ((h0, .inr (12, fs47)) :: Z47) H := by rw [hZ47]; exact hP
  have hD : va_D A ((h0, .inr (12, fs47)) :: Z47) := by rw [hZ47]; exact hD
  refine W.widen (k := 47) (n := 6822) (by omega) (by omega) ?_
  refine va_putF (D := D) (ci := 12) (v := .ref q403) (ty := .array .int) (C := "DioceseBookModel") (T := TX12) (N := 97) hx hb hts gk_cl12.2.1 tyX12 tyX12_ok nmX12 hown hK hP hD hS 0 rfl rfl 73 (by decide) (hts _ (ck_w_ok (i := 1441) (by decide +kernel) : Cond.fieldLink "DioceseBookModel" 153 "DioceseBookModel" "fields" "[I" ∈ aAW)) (fun _ h9 => h9) rfl hin rfl (by decide +kernel) rfl rfl (by rw [hlen47]; decide) ctD_Model_405 (fun H locs hP hD hS => ?_)
  obtain ⟨fs48, hfs48⟩ : ∃ z : List Value, z = fs47.set 73 (.ref q403) := ⟨_, rfl⟩
  have hlen48 : fs48.length = 97 := by rw [hfs48, List.length_set, hlen47]
  have hP : va_P D wCl ((h0, .inr (12, fs48)) :: Z47) H := by rw [hfs48]; exact hP
  have hD : va_D A ((h0, .inr (12, fs48)) :: Z47) := by rw [hfs48]; exact hD
  refine lv_aload_n hx hb ctD_Model_408 rfl (lv_at hl 0 rfl) ?_
  refine lv_sipush (v := 192) hx hb ctD_Model_409 (by decide) ?_
  refine a_newa (atype := .int) (ty := .int) (c0 := cA 0) 0 hx hb (hts _ ct_a0) rfl (fun n h => by cases h) hK rfl hP hD hS hA (N' := 192) (a0 := (192, .inl (fun _ => 0))) (fun _ => rfl) (by decide) (by decide) (by decide) (Nat.le_of_ble_eq_true rfl) (Nat.le_of_ble_eq_true rfl) ctD_Model_412 (fun q412 H hP hD hS => ?_)
  obtain ⟨Z48, hZ48⟩ : ∃ z : va_W, z = Z47 ++ [(q412, .inl (cA 0, 192, .inl (fun _ => 0)))] := ⟨_, rfl⟩
  have hP : va_P D wCl ((h0, .inr (12, fs48)) :: Z48) H := by rw [hZ48]; exact hP
  have hD : va_D A ((h0, .inr (12, fs48)) :: Z48) := by rw [hZ48]; exact hD
  refine W.widen (k := 48) (n := 7014) (by omega) (by omega) ?_
  refine va_putF (D := D) (ci := 12) (v := .ref q412) (ty := .array .int) (C := "DioceseBookModel") (T := TX12) (N := 97) hx hb hts gk_cl12.2.1 tyX12 tyX12_ok nmX12 hown hK hP hD hS 0 rfl rfl 74 (by decide) (hts _ (ck_w_ok (i := 1442) (by decide +kernel) : Cond.fieldLink "DioceseBookModel" 156 "DioceseBookModel" "fieldName" "[I" ∈ aAW)) (fun _ h9 => h9) rfl hin rfl (by decide +kernel) rfl rfl (by rw [hlen48]; decide) ctD_Model_414 (fun H locs hP hD hS => ?_)
  obtain ⟨fs49, hfs49⟩ : ∃ z : List Value, z = fs48.set 74 (.ref q412) := ⟨_, rfl⟩
  have hlen49 : fs49.length = 97 := by rw [hfs49, List.length_set, hlen48]
  have hP : va_P D wCl ((h0, .inr (12, fs49)) :: Z48) H := by rw [hfs49]; exact hP
  have hD : va_D A ((h0, .inr (12, fs49)) :: Z48) := by rw [hfs49]; exact hD
  refine lv_aload_n hx hb ctD_Model_417 rfl (lv_at hl 0 rfl) ?_
  refine lv_sipush (v := 192) hx hb ctD_Model_418 (by decide) ?_
  refine a_newa (atype := .int) (ty := .int) (c0 := cA 0) 0 hx hb (hts _ ct_a0) rfl (fun n h => by cases h) hK rfl hP hD hS hA (N' := 192) (a0 := (192, .inl (fun _ => 0))) (fun _ => rfl) (by decide) (by decide) (by decide) (Nat.le_of_ble_eq_true rfl) (Nat.le_of_ble_eq_true rfl) ctD_Model_421 (fun q421 H hP hD hS => ?_)
  obtain ⟨Z49, hZ49⟩ : ∃ z : va_W, z = Z48 ++ [(q421, .inl (cA 0, 192, .inl (fun _ => 0)))] := ⟨_, rfl⟩
  have hP : va_P D wCl ((h0, .inr (12, fs49)) :: Z49) H := by rw [hZ49]; exact hP
  have hD : va_D A ((h0, .inr (12, fs49)) :: Z49) := by rw [hZ49]; exact hD
  refine W.widen (k := 49) (n := 7206) (by omega) (by omega) ?_
  refine va_putF (D := D) (ci := 12) (v := .ref q421) (ty := .array .int) (C := "DioceseBookModel") (T := TX12) (N := 97) hx hb hts gk_cl12.2.1 tyX12 tyX12_ok nmX12 hown hK hP hD hS 0 rfl rfl 75 (by decide) (hts _ (ck_w_ok (i := 1443) (by decide +kernel) : Cond.fieldLink "DioceseBookModel" 159 "DioceseBookModel" "fieldAcres" "[I" ∈ aAW)) (fun _ h9 => h9) rfl hin rfl (by decide +kernel) rfl rfl (by rw [hlen49]; decide) ctD_Model_423 (fun H locs hP hD hS => ?_)
  obtain ⟨fs50, hfs50⟩ : ∃ z : List Value, z = fs49.set 75 (.ref q421) := ⟨_, rfl⟩
  have hlen50 : fs50.length = 97 := by rw [hfs50, List.length_set, hlen49]
  have hP : va_P D wCl ((h0, .inr (12, fs50)) :: Z49) H := by rw [hfs50]; exact hP
  have hD : va_D A ((h0, .inr (12, fs50)) :: Z49) := by rw [hfs50]; exact hD
  refine lv_aload_n hx hb ctD_Model_426 rfl (lv_at hl 0 rfl) ?_
  refine lv_sipush (v := 192) hx hb ctD_Model_427 (by decide) ?_
  refine a_newa (atype := .int) (ty := .int) (c0 := cA 0) 0 hx hb (hts _ ct_a0) rfl (fun n h => by cases h) hK rfl hP hD hS hA (N' := 192) (a0 := (192, .inl (fun _ => 0))) (fun _ => rfl) (by decide) (by decide) (by decide) (Nat.le_of_ble_eq_true rfl) (Nat.le_of_ble_eq_true rfl) ctD_Model_430 (fun q430 H hP hD hS => ?_)
  obtain ⟨Z50, hZ50⟩ : ∃ z : va_W, z = Z49 ++ [(q430, .inl (cA 0, 192, .inl (fun _ => 0)))] := ⟨_, rfl⟩
  have hP : va_P D wCl ((h0, .inr (12, fs50)) :: Z50) H := by rw [hZ50]; exact hP
  have hD : va_D A ((h0, .inr (12, fs50)) :: Z50) := by rw [hZ50]; exact hD
  refine W.widen (k := 50) (n := 7398) (by omega) (by omega) ?_
  refine va_putF (D := D) (ci := 12) (v := .ref q430) (ty := .array .int) (C := "DioceseBookModel") (T := TX12) (N := 97) hx hb hts gk_cl12.2.1 tyX12 tyX12_ok nmX12 hown hK hP hD hS 0 rfl rfl 76 (by decide) (hts _ (ck_w_ok (i := 1444) (by decide +kernel) : Cond.fieldLink "DioceseBookModel" 162 "DioceseBookModel" "fieldNext" "[I" ∈ aAW)) (fun _ h9 => h9) rfl hin rfl (by decide +kernel) rfl rfl (by rw [hlen50]; decide) ctD_Model_432 (fun H locs hP hD hS => ?_)
  obtain ⟨fs51, hfs51⟩ : ∃ z : List Value, z = fs50.set 76 (.ref q430) := ⟨_, rfl⟩
  have hlen51 : fs51.length = 97 := by rw [hfs51, List.length_set, hlen50]
  have hP : va_P D wCl ((h0, .inr (12, fs51)) :: Z50) H := by rw [hfs51]; exact hP
  have hD : va_D A ((h0, .inr (12, fs51)) :: Z50) := by rw [hfs51]; exact hD
  refine lv_aload_n hx hb ctD_Model_435 rfl (lv_at hl 0 rfl) ?_
  refine lv_sipush (v := 2304) hx hb ctD_Model_436 (by decide) ?_
  refine a_newa (atype := .int) (ty := .int) (c0 := cA 0) 0 hx hb (hts _ ct_a0) rfl (fun n h => by cases h) hK rfl hP hD hS hA (N' := 2304) (a0 := (2304, .inl (fun _ => 0))) (fun _ => rfl) (by decide) (by decide) (by decide) (Nat.le_of_ble_eq_true rfl) (Nat.le_of_ble_eq_true rfl) ctD_Model_439 (fun q439 H hP hD hS => ?_)
  obtain ⟨Z51, hZ51⟩ : ∃ z : va_W, z = Z50 ++ [(q439, .inl (cA 0, 2304, .inl (fun _ => 0)))] := ⟨_, rfl⟩
  have hP : va_P D wCl ((h0, .inr (12, fs51)) :: Z51) H := by rw [hZ51]; exact hP
  have hD : va_D A ((h0, .inr (12, fs51)) :: Z51) := by rw [hZ51]; exact hD
  refine W.widen (k := 51) (n := 9702) (by omega) (by omega) ?_
  refine va_putF (D := D) (ci := 12) (v := .ref q439) (ty := .array .int) (C := "DioceseBookModel") (T := TX12) (N := 97) hx hb hts gk_cl12.2.1 tyX12 tyX12_ok nmX12 hown hK hP hD hS 0 rfl rfl 77 (by decide) (hts _ (ck_w_ok (i := 1445) (by decide +kernel) : Cond.fieldLink "DioceseBookModel" 165 "DioceseBookModel" "matchCost" "[I" ∈ aAW)) (fun _ h9 => h9) rfl hin rfl (by decide +kernel) rfl rfl (by rw [hlen51]; decide) ctD_Model_441 (fun H locs hP hD hS => ?_)
  obtain ⟨fs52, hfs52⟩ : ∃ z : List Value, z = fs51.set 77 (.ref q439) := ⟨_, rfl⟩
  have hlen52 : fs52.length = 97 := by rw [hfs52, List.length_set, hlen51]
  have hP : va_P D wCl ((h0, .inr (12, fs52)) :: Z51) H := by rw [hfs52]; exact hP
  have hD : va_D A ((h0, .inr (12, fs52)) :: Z51) := by rw [hfs52]; exact hD
  refine lv_aload_n hx hb ctD_Model_444 rfl (lv_at hl 0 rfl) ?_
  refine lv_bipush (v := 16) hx hb ctD_Model_445 (by decide) ?_
  refine a_newa (atype := .int) (ty := .int) (c0 := cA 0) 0 hx hb (hts _ ct_a0) rfl (fun n h => by cases h) hK rfl hP hD hS hA (N' := 16) (a0 := (16, .inl (fun _ => 0))) (fun _ => rfl) (by decide) (by decide) (by decide) (Nat.le_of_ble_eq_true rfl) (Nat.le_of_ble_eq_true rfl) ctD_Model_447 (fun q447 H hP hD hS => ?_)
  obtain ⟨Z52, hZ52⟩ : ∃ z : va_W, z = Z51 ++ [(q447, .inl (cA 0, 16, .inl (fun _ => 0)))] := ⟨_, rfl⟩
  have hP : va_P D wCl ((h0, .inr (12, fs52)) :: Z52) H := by rw [hZ52]; exact hP
  have hD : va_D A ((h0, .inr (12, fs52)) :: Z52) := by rw [hZ52]; exact hD
  refine W.widen (k := 52) (n := 9718) (by omega) (by omega) ?_
  refine va_putF (D := D) (ci := 12) (v := .ref q447) (ty := .array .int) (C := "DioceseBookModel") (T := TX12) (N := 97) hx hb hts gk_cl12.2.1 tyX12 tyX12_ok nmX12 hown hK hP hD hS 0 rfl rfl 79 (by decide) (hts _ (ck_w_ok (i := 1447) (by decide +kernel) : Cond.fieldLink "DioceseBookModel" 168 "DioceseBookModel" "pieceName" "[I" ∈ aAW)) (fun _ h9 => h9) rfl hin rfl (by decide +kernel) rfl rfl (by rw [hlen52]; decide) ctD_Model_449 (fun H locs hP hD hS => ?_)
  obtain ⟨fs53, hfs53⟩ : ∃ z : List Value, z = fs52.set 79 (.ref q447) := ⟨_, rfl⟩
  have hlen53 : fs53.length = 97 := by rw [hfs53, List.length_set, hlen52]
  have hP : va_P D wCl ((h0, .inr (12, fs53)) :: Z52) H := by rw [hfs53]; exact hP
  have hD : va_D A ((h0, .inr (12, fs53)) :: Z52) := by rw [hfs53]; exact hD
  refine lv_aload_n hx hb ctD_Model_452 rfl (lv_at hl 0 rfl) ?_
  refine lv_bipush (v := 16) hx hb ctD_Model_453 (by decide) ?_
  refine a_newa (atype := .int) (ty := .int) (c0 := cA 0) 0 hx hb (hts _ ct_a0) rfl (fun n h => by cases h) hK rfl hP hD hS hA (N' := 16) (a0 := (16, .inl (fun _ => 0))) (fun _ => rfl) (by decide) (by decide) (by decide) (Nat.le_of_ble_eq_true rfl) (Nat.le_of_ble_eq_true rfl) ctD_Model_455 (fun q455 H hP hD hS => ?_)
  obtain ⟨Z53, hZ53⟩ : ∃ z : va_W, z = Z52 ++ [(q455, .inl (cA 0, 16, .inl (fun _ => 0)))] := ⟨_, rfl⟩
  have hP : va_P D wCl ((h0, .inr (12, fs53)) :: Z53) H := by rw [hZ53]; exact hP
  have hD : va_D A ((h0, .inr (12, fs53)) :: Z53) := by rw [hZ53]; exact hD
  refine W.widen (k := 53) (n := 9734) (by omega) (by omega) ?_
  refine va_putF (D := D) (ci := 12) (v := .ref q455) (ty := .array .int) (C := "DioceseBookModel") (T := TX12) (N := 97) hx hb hts gk_cl12.2.1 tyX12 tyX12_ok nmX12 hown hK hP hD hS 0 rfl rfl 80 (by decide) (hts _ (ck_w_ok (i := 1448) (by decide +kernel) : Cond.fieldLink "DioceseBookModel" 171 "DioceseBookModel" "pieceX" "[I" ∈ aAW)) (fun _ h9 => h9) rfl hin rfl (by decide +kernel) rfl rfl (by rw [hlen53]; decide) ctD_Model_457 (fun H locs hP hD hS => ?_)
  obtain ⟨fs54, hfs54⟩ : ∃ z : List Value, z = fs53.set 80 (.ref q455) := ⟨_, rfl⟩
  have hlen54 : fs54.length = 97 := by rw [hfs54, List.length_set, hlen53]
  have hP : va_P D wCl ((h0, .inr (12, fs54)) :: Z53) H := by rw [hfs54]; exact hP
  have hD : va_D A ((h0, .inr (12, fs54)) :: Z53) := by rw [hfs54]; exact hD
  refine lv_aload_n hx hb ctD_Model_460 rfl (lv_at hl 0 rfl) ?_
  refine lv_bipush (v := 16) hx hb ctD_Model_461 (by decide) ?_
  refine a_newa (atype := .int) (ty := .int) (c0 := cA 0) 0 hx hb (hts _ ct_a0) rfl (fun n h => by cases h) hK rfl hP hD hS hA (N' := 16) (a0 := (16, .inl (fun _ => 0))) (fun _ => rfl) (by decide) (by decide) (by decide) (Nat.le_of_ble_eq_true rfl) (Nat.le_of_ble_eq_true rfl) ctD_Model_463 (fun q463 H hP hD hS => ?_)
  obtain ⟨Z54, hZ54⟩ : ∃ z : va_W, z = Z53 ++ [(q463, .inl (cA 0, 16, .inl (fun _ => 0)))] := ⟨_, rfl⟩
  have hP : va_P D wCl ((h0, .inr (12, fs54)) :: Z54) H := by rw [hZ54]; exact hP
  have hD : va_D A ((h0, .inr (12, fs54)) :: Z54) := by rw [hZ54]; exact hD
  refine W.widen (k := 54) (n := 9750) (by omega) (by omega) ?_
  refine va_putF (D := D) (ci := 12) (v := .ref q463) (ty := .array .int) (C := "DioceseBookModel") (T := TX12) (N := 97) hx hb hts gk_cl12.2.1 tyX12 tyX12_ok nmX12 hown hK hP hD hS 0 rfl rfl 81 (by decide) (hts _ (ck_w_ok (i := 1449) (by decide +kernel) : Cond.fieldLink "DioceseBookModel" 174 "DioceseBookModel" "pieceY" "[I" ∈ aAW)) (fun _ h9 => h9) rfl hin rfl (by decide +kernel) rfl rfl (by rw [hlen54]; decide) ctD_Model_465 (fun H locs hP hD hS => ?_)
  obtain ⟨fs55, hfs55⟩ : ∃ z : List Value, z = fs54.set 81 (.ref q463) := ⟨_, rfl⟩
  have hlen55 : fs55.length = 97 := by rw [hfs55, List.length_set, hlen54]
  have hP : va_P D wCl ((h0, .inr (12, fs55)) :: Z54) H := by rw [hfs55]; exact hP
  have hD : va_D A ((h0, .inr (12, fs55)) :: Z54) := by rw [hfs55]; exact hD
  refine lv_aload_n hx hb ctD_Model_468 rfl (lv_at hl 0 rfl) ?_
  refine lv_bipush (v := 16) hx hb ctD_Model_469 (by decide) ?_
  refine a_newa (atype := .int) (ty := .int) (c0 := cA 0) 0 hx hb (hts _ ct_a0) rfl (fun n h => by cases h) hK rfl hP hD hS hA (N' := 16) (a0 := (16, .inl (fun _ => 0))) (fun _ => rfl) (by decide) (by decide) (by decide) (Nat.le_of_ble_eq_true rfl) (Nat.le_of_ble_eq_true rfl) ctD_Model_471 (fun q471 H hP hD hS => ?_)
  obtain ⟨Z55, hZ55⟩ : ∃ z : va_W, z = Z54 ++ [(q471, .inl (cA 0, 16, .inl (fun _ => 0)))] := ⟨_, rfl⟩
  have hP : va_P D wCl ((h0, .inr (12, fs55)) :: Z55) H := by rw [hZ55]; exact hP
  have hD : va_D A ((h0, .inr (12, fs55)) :: Z55) := by rw [hZ55]; exact hD
  refine W.widen (k := 55) (n := 9766) (by omega) (by omega) ?_
  refine va_putF (D := D) (ci := 12) (v := .ref q471) (ty := .array .int) (C := "DioceseBookModel") (T := TX12) (N := 97) hx hb hts gk_cl12.2.1 tyX12 tyX12_ok nmX12 hown hK hP hD hS 0 rfl rfl 82 (by decide) (hts _ (ck_w_ok (i := 1450) (by decide +kernel) : Cond.fieldLink "DioceseBookModel" 177 "DioceseBookModel" "pieceFrom" "[I" ∈ aAW)) (fun _ h9 => h9) rfl hin rfl (by decide +kernel) rfl rfl (by rw [hlen55]; decide) ctD_Model_473 (fun H locs hP hD hS => ?_)
  obtain ⟨fs56, hfs56⟩ : ∃ z : List Value, z = fs55.set 82 (.ref q471) := ⟨_, rfl⟩
  have hlen56 : fs56.length = 97 := by rw [hfs56, List.length_set, hlen55]
  have hP : va_P D wCl ((h0, .inr (12, fs56)) :: Z55) H := by rw [hfs56]; exact hP
  have hD : va_D A ((h0, .inr (12, fs56)) :: Z55) := by rw [hfs56]; exact hD
  refine lv_aload_n hx hb ctD_Model_476 rfl (lv_at hl 0 rfl) ?_
  refine lv_bipush (v := 16) hx hb ctD_Model_477 (by decide) ?_
  refine a_newa (atype := .int) (ty := .int) (c0 := cA 0) 0 hx hb (hts _ ct_a0) rfl (fun n h => by cases h) hK rfl hP hD hS hA (N' := 16) (a0 := (16, .inl (fun _ => 0))) (fun _ => rfl) (by decide) (by decide) (by decide) (Nat.le_of_ble_eq_true rfl) (Nat.le_of_ble_eq_true rfl) ctD_Model_479 (fun q479 H hP hD hS => ?_)
  obtain ⟨Z56, hZ56⟩ : ∃ z : va_W, z = Z55 ++ [(q479, .inl (cA 0, 16, .inl (fun _ => 0)))] := ⟨_, rfl⟩
  have hP : va_P D wCl ((h0, .inr (12, fs56)) :: Z56) H := by rw [hZ56]; exact hP
  have hD : va_D A ((h0, .inr (12, fs56)) :: Z56) := by rw [hZ56]; exact hD
  refine W.widen (k := 56) (n := 9782) (by omega) (by omega) ?_
  refine va_putF (D := D) (ci := 12) (v := .ref q479) (ty := .array .int) (C := "DioceseBookModel") (T := TX12) (N := 97) hx hb hts gk_cl12.2.1 tyX12 tyX12_ok nmX12 hown hK hP hD hS 0 rfl rfl 83 (by decide) (hts _ (ck_w_ok (i := 1451) (by decide +kernel) : Cond.fieldLink "DioceseBookModel" 180 "DioceseBookModel" "pieceTo" "[I" ∈ aAW)) (fun _ h9 => h9) rfl hin rfl (by decide +kernel) rfl rfl (by rw [hlen56]; decide) ctD_Model_481 (fun H locs hP hD hS => ?_)
  obtain ⟨fs57, hfs57⟩ : ∃ z : List Value, z = fs56.set 83 (.ref q479) := ⟨_, rfl⟩
  have hlen57 : fs57.length = 97 := by rw [hfs57, List.length_set, hlen56]
  have hP : va_P D wCl ((h0, .inr (12, fs57)) :: Z56) H := by rw [hfs57]; exact hP
  have hD : va_D A ((h0, .inr (12, fs57)) :: Z56) := by rw [hfs57]; exact hD
  refine lv_aload_n hx hb ctD_Model_484 rfl (lv_at hl 0 rfl) ?_
  refine lv_bipush (v := 16) hx hb ctD_Model_485 (by decide) ?_
  refine a_newa (atype := .int) (ty := .int) (c0 := cA 0) 0 hx hb (hts _ ct_a0) rfl (fun n h => by cases h) hK rfl hP hD hS hA (N' := 16) (a0 := (16, .inl (fun _ => 0))) (fun _ => rfl) (by decide) (by decide) (by decide) (Nat.le_of_ble_eq_true rfl) (Nat.le_of_ble_eq_true rfl) ctD_Model_487 (fun q487 H hP hD hS => ?_)
  obtain ⟨Z57, hZ57⟩ : ∃ z : va_W, z = Z56 ++ [(q487, .inl (cA 0, 16, .inl (fun _ => 0)))] := ⟨_, rfl⟩
  have hP : va_P D wCl ((h0, .inr (12, fs57)) :: Z57) H := by rw [hZ57]; exact hP
  have hD : va_D A ((h0, .inr (12, fs57)) :: Z57) := by rw [hZ57]; exact hD
  refine W.widen (k := 57) (n := 9798) (by omega) (by omega) ?_
  refine va_putF (D := D) (ci := 12) (v := .ref q487) (ty := .array .int) (C := "DioceseBookModel") (T := TX12) (N := 97) hx hb hts gk_cl12.2.1 tyX12 tyX12_ok nmX12 hown hK hP hD hS 0 rfl rfl 84 (by decide) (hts _ (ck_w_ok (i := 1452) (by decide +kernel) : Cond.fieldLink "DioceseBookModel" 183 "DioceseBookModel" "behind" "[I" ∈ aAW)) (fun _ h9 => h9) rfl hin rfl (by decide +kernel) rfl rfl (by rw [hlen57]; decide) ctD_Model_489 (fun H locs hP hD hS => ?_)
  obtain ⟨fs58, hfs58⟩ : ∃ z : List Value, z = fs57.set 84 (.ref q487) := ⟨_, rfl⟩
  have hlen58 : fs58.length = 97 := by rw [hfs58, List.length_set, hlen57]
  have hP : va_P D wCl ((h0, .inr (12, fs58)) :: Z57) H := by rw [hfs58]; exact hP
  have hD : va_D A ((h0, .inr (12, fs58)) :: Z57) := by rw [hfs58]; exact hD
  refine lv_aload_n hx hb ctD_Model_492 rfl (lv_at hl 0 rfl) ?_
  refine lv_bipush (v := 16) hx hb ctD_Model_493 (by decide) ?_
  refine a_newa (atype := .int) (ty := .int) (c0 := cA 0) 0 hx hb (hts _ ct_a0) rfl (fun n h => by cases h) hK rfl hP hD hS hA (N' := 16) (a0 := (16, .inl (fun _ => 0))) (fun _ => rfl) (by decide) (by decide) (by decide) (Nat.le_of_ble_eq_true rfl) (Nat.le_of_ble_eq_true rfl) ctD_Model_495 (fun q495 H hP hD hS => ?_)
  obtain ⟨Z58, hZ58⟩ : ∃ z : va_W, z = Z57 ++ [(q495, .inl (cA 0, 16, .inl (fun _ => 0)))] := ⟨_, rfl⟩
  have hP : va_P D wCl ((h0, .inr (12, fs58)) :: Z58) H := by rw [hZ58]; exact hP
  have hD : va_D A ((h0, .inr (12, fs58)) :: Z58) := by rw [hZ58]; exact hD
  refine W.widen (k := 58) (n := 9814) (by omega) (by omega) ?_
  refine va_putF (D := D) (ci := 12) (v := .ref q495) (ty := .array .int) (C := "DioceseBookModel") (T := TX12) (N := 97) hx hb hts gk_cl12.2.1 tyX12 tyX12_ok nmX12 hown hK hP hD hS 0 rfl rfl 85 (by decide) (hts _ (ck_w_ok (i := 1453) (by decide +kernel) : Cond.fieldLink "DioceseBookModel" 186 "DioceseBookModel" "ahead" "[I" ∈ aAW)) (fun _ h9 => h9) rfl hin rfl (by decide +kernel) rfl rfl (by rw [hlen58]; decide) ctD_Model_497 (fun H locs hP hD hS => ?_)
  obtain ⟨fs59, hfs59⟩ : ∃ z : List Value, z = fs58.set 85 (.ref q495) := ⟨_, rfl⟩
  have hlen59 : fs59.length = 97 := by rw [hfs59, List.length_set, hlen58]
  have hP : va_P D wCl ((h0, .inr (12, fs59)) :: Z58) H := by rw [hfs59]; exact hP
  have hD : va_D A ((h0, .inr (12, fs59)) :: Z58) := by rw [hfs59]; exact hD
  refine lv_aload_n hx hb ctD_Model_500 rfl (lv_at hl 0 rfl) ?_
  refine lv_bipush (v := 16) hx hb ctD_Model_501 (by decide) ?_
  refine a_newa (atype := .boolean) (ty := .boolean) (c0 := cA 1) 1 hx hb (hts _ ct_a1) rfl (fun n h => by cases h) hK rfl hP hD hS hA (N' := 16) (a0 := (16, .inl (fun _ => 0))) (fun _ => rfl) (by decide) (by decide) (by decide) (Nat.le_of_ble_eq_true rfl) (Nat.le_of_ble_eq_true rfl) ctD_Model_503 (fun q503 H hP hD hS => ?_)
  obtain ⟨Z59, hZ59⟩ : ∃ z : va_W, z = Z58 ++ [(q503, .inl (cA 1, 16, .inl (fun _ => 0)))] := ⟨_, rfl⟩
  have hP : va_P D wCl ((h0, .inr (12, fs59)) :: Z59) H := by rw [hZ59]; exact hP
  have hD : va_D A ((h0, .inr (12, fs59)) :: Z59) := by rw [hZ59]; exact hD
  refine W.widen (k := 59) (n := 9830) (by omega) (by omega) ?_
  refine va_putF (D := D) (ci := 12) (v := .ref q503) (ty := .array .boolean) (C := "DioceseBookModel") (T := TX12) (N := 97) hx hb hts gk_cl12.2.1 tyX12 tyX12_ok nmX12 hown hK hP hD hS 0 rfl rfl 86 (by decide) (hts _ (ck_w_ok (i := 1454) (by decide +kernel) : Cond.fieldLink "DioceseBookModel" 189 "DioceseBookModel" "isSeen" "[Z" ∈ aAW)) (fun _ h9 => h9) rfl hin rfl (by decide +kernel) rfl rfl (by rw [hlen59]; decide) ctD_Model_505 (fun H locs hP hD hS => ?_)
  obtain ⟨fs60, hfs60⟩ : ∃ z : List Value, z = fs59.set 86 (.ref q503) := ⟨_, rfl⟩
  have hlen60 : fs60.length = 97 := by rw [hfs60, List.length_set, hlen59]
  have hP : va_P D wCl ((h0, .inr (12, fs60)) :: Z59) H := by rw [hfs60]; exact hP
  have hD : va_D A ((h0, .inr (12, fs60)) :: Z59) := by rw [hfs60]; exact hD
  refine lv_aload_n hx hb ctD_Model_508 rfl (lv_at hl 0 rfl) ?_
  refine lv_bipush (v := 16) hx hb ctD_Model_509 (by decide) ?_
  refine a_newa (atype := .int) (ty := .int) (c0 := cA 0) 0 hx hb (hts _ ct_a0) rfl (fun n h => by cases h) hK rfl hP hD hS hA (N' := 16) (a0 := (16, .inl (fun _ => 0))) (fun _ => rfl) (by decide) (by decide) (by decide) (Nat.le_of_ble_eq_true rfl) (Nat.le_of_ble_eq_true rfl) ctD_Model_511 (fun q511 H hP hD hS => ?_)
  obtain ⟨Z60, hZ60⟩ : ∃ z : va_W, z = Z59 ++ [(q511, .inl (cA 0, 16, .inl (fun _ => 0)))] := ⟨_, rfl⟩
  have hP : va_P D wCl ((h0, .inr (12, fs60)) :: Z60) H := by rw [hZ60]; exact hP
  have hD : va_D A ((h0, .inr (12, fs60)) :: Z60) := by rw [hZ60]; exact hD
  refine W.widen (k := 60) (n := 9846) (by omega) (by omega) ?_
  refine va_putF (D := D) (ci := 12) (v := .ref q511) (ty := .array .int) (C := "DioceseBookModel") (T := TX12) (N := 97) hx hb hts gk_cl12.2.1 tyX12 tyX12_ok nmX12 hown hK hP hD hS 0 rfl rfl 87 (by decide) (hts _ (ck_w_ok (i := 1455) (by decide +kernel) : Cond.fieldLink "DioceseBookModel" 192 "DioceseBookModel" "by" "[I" ∈ aAW)) (fun _ h9 => h9) rfl hin rfl (by decide +kernel) rfl rfl (by rw [hlen60]; decide) ctD_Model_513 (fun H locs hP hD hS => ?_)
  obtain ⟨fs61, hfs61⟩ : ∃ z : List Value, z = fs60.set 87 (.ref q511) := ⟨_, rfl⟩
  have hlen61 : fs61.length = 97 := by rw [hfs61, List.length_set, hlen60]
  have hP : va_P D wCl ((h0, .inr (12, fs61)) :: Z60) H := by rw [hfs61]; exact hP
  have hD : va_D A ((h0, .inr (12, fs61)) :: Z60) := by rw [hfs61]; exact hD
  refine lv_aload_n hx hb ctD_Model_516 rfl (lv_at hl 0 rfl) ?_
  refine lv_bipush (v := 16) hx hb ctD_Model_517 (by decide) ?_
  refine a_newa (atype := .int) (ty := .int) (c0 := cA 0) 0 hx hb (hts _ ct_a0) rfl (fun n h => by cases h) hK rfl hP hD hS hA (N' := 16) (a0 := (16, .inl (fun _ => 0))) (fun _ => rfl) (by decide) (by decide) (by decide) (Nat.le_of_ble_eq_true rfl) (Nat.le_of_ble_eq_true rfl) ctD_Model_519 (fun q519 H hP hD hS => ?_)
  obtain ⟨Z61, hZ61⟩ : ∃ z : va_W, z = Z60 ++ [(q519, .inl (cA 0, 16, .inl (fun _ => 0)))] := ⟨_, rfl⟩
  have hP : va_P D wCl ((h0, .inr (12, fs61)) :: Z61) H := by rw [hZ61]; exact hP
  have hD : va_D A ((h0, .inr (12, fs61)) :: Z61) := by rw [hZ61]; exact hD
  refine W.widen (k := 61) (n := 9862) (by omega) (by omega) ?_
  refine va_putF (D := D) (ci := 12) (v := .ref q519) (ty := .array .int) (C := "DioceseBookModel") (T := TX12) (N := 97) hx hb hts gk_cl12.2.1 tyX12 tyX12_ok nmX12 hown hK hP hD hS 0 rfl rfl 88 (by decide) (hts _ (ck_w_ok (i := 1456) (by decide +kernel) : Cond.fieldLink "DioceseBookModel" 195 "DioceseBookModel" "row" "[I" ∈ aAW)) (fun _ h9 => h9) rfl hin rfl (by decide +kernel) rfl rfl (by rw [hlen61]; decide) ctD_Model_521 (fun H locs hP hD hS => ?_)
  obtain ⟨fs62, hfs62⟩ : ∃ z : List Value, z = fs61.set 88 (.ref q519) := ⟨_, rfl⟩
  have hlen62 : fs62.length = 97 := by rw [hfs62, List.length_set, hlen61]
  have hP : va_P D wCl ((h0, .inr (12, fs62)) :: Z61) H := by rw [hfs62]; exact hP
  have hD : va_D A ((h0, .inr (12, fs62)) :: Z61) := by rw [hfs62]; exact hD
  refine lv_aload_n hx hb ctD_Model_524 rfl (lv_at hl 0 rfl) ?_
  refine lv_bipush (v := 16) hx hb ctD_Model_525 (by decide) ?_
  refine a_newa (atype := .int) (ty := .int) (c0 := cA 0) 0 hx hb (hts _ ct_a0) rfl (fun n h => by cases h) hK rfl hP hD hS hA (N' := 16) (a0 := (16, .inl (fun _ => 0))) (fun _ => rfl) (by decide) (by decide) (by decide) (Nat.le_of_ble_eq_true rfl) (Nat.le_of_ble_eq_true rfl) ctD_Model_527 (fun q527 H hP hD hS => ?_)
  obtain ⟨Z62, hZ62⟩ : ∃ z : va_W, z = Z61 ++ [(q527, .inl (cA 0, 16, .inl (fun _ => 0)))] := ⟨_, rfl⟩
  have hP : va_P D wCl ((h0, .inr (12, fs62)) :: Z62) H := by rw [hZ62]; exact hP
  have hD : va_D A ((h0, .inr (12, fs62)) :: Z62) := by rw [hZ62]; exact hD
  refine W.widen (k := 62) (n := 9878) (by omega) (by omega) ?_
  refine va_putF (D := D) (ci := 12) (v := .ref q527) (ty := .array .int) (C := "DioceseBookModel") (T := TX12) (N := 97) hx hb hts gk_cl12.2.1 tyX12 tyX12_ok nmX12 hown hK hP hD hS 0 rfl rfl 90 (by decide) (hts _ (ck_w_ok (i := 1458) (by decide +kernel) : Cond.fieldLink "DioceseBookModel" 198 "DioceseBookModel" "chosen" "[I" ∈ aAW)) (fun _ h9 => h9) rfl hin rfl (by decide +kernel) rfl rfl (by rw [hlen62]; decide) ctD_Model_529 (fun H locs hP hD hS => ?_)
  obtain ⟨fs63, hfs63⟩ : ∃ z : List Value, z = fs62.set 90 (.ref q527) := ⟨_, rfl⟩
  have hlen63 : fs63.length = 97 := by rw [hfs63, List.length_set, hlen62]
  have hP : va_P D wCl ((h0, .inr (12, fs63)) :: Z62) H := by rw [hfs63]; exact hP
  have hD : va_D A ((h0, .inr (12, fs63)) :: Z62) := by rw [hfs63]; exact hD
  refine lv_aload_n hx hb ctD_Model_532 rfl (lv_at hl 0 rfl) ?_
  refine lv_bipush (v := 8) hx hb ctD_Model_533 (by decide) ?_
  refine a_newa (atype := .int) (ty := .int) (c0 := cA 0) 0 hx hb (hts _ ct_a0) rfl (fun n h => by cases h) hK rfl hP hD hS hA (N' := 8) (a0 := (8, .inl (fun _ => 0))) (fun _ => rfl) (by decide) (by decide) (by decide) (Nat.le_of_ble_eq_true rfl) (Nat.le_of_ble_eq_true rfl) ctD_Model_535 (fun q535 H hP hD hS => ?_)
  obtain ⟨Z63, hZ63⟩ : ∃ z : va_W, z = Z62 ++ [(q535, .inl (cA 0, 8, .inl (fun _ => 0)))] := ⟨_, rfl⟩
  have hP : va_P D wCl ((h0, .inr (12, fs63)) :: Z63) H := by rw [hZ63]; exact hP
  have hD : va_D A ((h0, .inr (12, fs63)) :: Z63) := by rw [hZ63]; exact hD
  refine W.widen (k := 63) (n := 9886) (by omega) (by omega) ?_
  refine va_putF (D := D) (ci := 12) (v := .ref q535) (ty := .array .int) (C := "DioceseBookModel") (T := TX12) (N := 97) hx hb hts gk_cl12.2.1 tyX12 tyX12_ok nmX12 hown hK hP hD hS 0 rfl rfl 91 (by decide) (hts _ (ck_w_ok (i := 1459) (by decide +kernel) : Cond.fieldLink "DioceseBookModel" 201 "DioceseBookModel" "seen" "[I" ∈ aAW)) (fun _ h9 => h9) rfl hin rfl (by decide +kernel) rfl rfl (by rw [hlen63]; decide) ctD_Model_537 (fun H locs hP hD hS => ?_)
  obtain ⟨fs64, hfs64⟩ : ∃ z : List Value, z = fs63.set 91 (.ref q535) := ⟨_, rfl⟩
  have hlen64 : fs64.length = 97 := by rw [hfs64, List.length_set, hlen63]
  have hP : va_P D wCl ((h0, .inr (12, fs64)) :: Z63) H := by rw [hfs64]; exact hP
  have hD : va_D A ((h0, .inr (12, fs64)) :: Z63) := by rw [hfs64]; exact hD
  refine lv_aload_n hx hb ctD_Model_540 rfl (lv_at hl 0 rfl) ?_
  refine lv_sipush (v := 2048) hx hb ctD_Model_541 (by decide) ?_
  refine a_newa (atype := .int) (ty := .int) (c0 := cA 0) 0 hx hb (hts _ ct_a0) rfl (fun n h => by cases h) hK rfl hP hD hS hA (N' := 2048) (a0 := (2048, .inl (fun _ => 0))) (fun _ => rfl) (by decide) (by decide) (by decide) (Nat.le_of_ble_eq_true rfl) (Nat.le_of_ble_eq_true rfl) ctD_Model_544 (fun q544 H hP hD hS => ?_)
  obtain ⟨Z64, hZ64⟩ : ∃ z : va_W, z = Z63 ++ [(q544, .inl (cA 0, 2048, .inl (fun _ => 0)))] := ⟨_, rfl⟩
  have hP : va_P D wCl ((h0, .inr (12, fs64)) :: Z64) H := by rw [hZ64]; exact hP
  have hD : va_D A ((h0, .inr (12, fs64)) :: Z64) := by rw [hZ64]; exact hD
  refine W.widen (k := 64) (n := 11934) (by omega) (by omega) ?_
  refine va_putF (D := D) (ci := 12) (v := .ref q544) (ty := .array .int) (C := "DioceseBookModel") (T := TX12) (N := 97) hx hb hts gk_cl12.2.1 tyX12 tyX12_ok nmX12 hown hK hP hD hS 0 rfl rfl 93 (by decide) (hts _ (ck_w_ok (i := 1461) (by decide +kernel) : Cond.fieldLink "DioceseBookModel" 204 "DioceseBookModel" "wayTo" "[I" ∈ aAW)) (fun _ h9 => h9) rfl hin rfl (by decide +kernel) rfl rfl (by rw [hlen64]; decide) ctD_Model_546 (fun H locs hP hD hS => ?_)
  obtain ⟨fs65, hfs65⟩ : ∃ z : List Value, z = fs64.set 93 (.ref q544) := ⟨_, rfl⟩
  have hlen65 : fs65.length = 97 := by rw [hfs65, List.length_set, hlen64]
  have hP : va_P D wCl ((h0, .inr (12, fs65)) :: Z64) H := by rw [hfs65]; exact hP
  have hD : va_D A ((h0, .inr (12, fs65)) :: Z64) := by rw [hfs65]; exact hD
  refine lv_aload_n hx hb ctD_Model_549 rfl (lv_at hl 0 rfl) ?_
  refine lv_sipush (v := 256) hx hb ctD_Model_550 (by decide) ?_
  refine a_newa (atype := .int) (ty := .int) (c0 := cA 0) 0 hx hb (hts _ ct_a0) rfl (fun n h => by cases h) hK rfl hP hD hS hA (N' := 256) (a0 := (256, .inl (fun _ => 0))) (fun _ => rfl) (by decide) (by decide) (by decide) (Nat.le_of_ble_eq_true rfl) (Nat.le_of_ble_eq_true rfl) ctD_Model_553 (fun q553 H hP hD hS => ?_)
  obtain ⟨Z65, hZ65⟩ : ∃ z : va_W, z = Z64 ++ [(q553, .inl (cA 0, 256, .inl (fun _ => 0)))] := ⟨_, rfl⟩
  have hP : va_P D wCl ((h0, .inr (12, fs65)) :: Z65) H := by rw [hZ65]; exact hP
  have hD : va_D A ((h0, .inr (12, fs65)) :: Z65) := by rw [hZ65]; exact hD
  refine W.widen (k := 65) (n := 12190) (by omega) (by omega) ?_
  refine va_putF (D := D) (ci := 12) (v := .ref q553) (ty := .array .int) (C := "DioceseBookModel") (T := TX12) (N := 97) hx hb hts gk_cl12.2.1 tyX12 tyX12_ok nmX12 hown hK hP hD hS 0 rfl rfl 94 (by decide) (hts _ (ck_w_ok (i := 1462) (by decide +kernel) : Cond.fieldLink "DioceseBookModel" 207 "DioceseBookModel" "round" "[I" ∈ aAW)) (fun _ h9 => h9) rfl hin rfl (by decide +kernel) rfl rfl (by rw [hlen65]; decide) ctD_Model_555 (fun H locs hP hD hS => ?_)
  obtain ⟨fs66, hfs66⟩ : ∃ z : List Value, z = fs65.set 94 (.ref q553) := ⟨_, rfl⟩
  have hlen66 : fs66.length = 97 := by rw [hfs66, List.length_set, hlen65]
  have hP : va_P D wCl ((h0, .inr (12, fs66)) :: Z65) H := by rw [hfs66]; exact hP
  have hD : va_D A ((h0, .inr (12, fs66)) :: Z65) := by rw [hfs66]; exact hD
  refine lv_aload_n hx hb ctD_Model_558 rfl (lv_at hl 0 rfl) ?_
  refine lv_sipush (v := 256) hx hb ctD_Model_559 (by decide) ?_
  refine a_newa (atype := .int) (ty := .int) (c0 := cA 0) 0 hx hb (hts _ ct_a0) rfl (fun n h => by cases h) hK rfl hP hD hS hA (N' := 256) (a0 := (256, .inl (fun _ => 0))) (fun _ => rfl) (by decide) (by decide) (by decide) (Nat.le_of_ble_eq_true rfl) (Nat.le_of_ble_eq_true rfl) ctD_Model_562 (fun q562 H hP hD hS => ?_)
  obtain ⟨Z66, hZ66⟩ : ∃ z : va_W, z = Z65 ++ [(q562, .inl (cA 0, 256, .inl (fun _ => 0)))] := ⟨_, rfl⟩
  have hP : va_P D wCl ((h0, .inr (12, fs66)) :: Z66) H := by rw [hZ66]; exact hP
  have hD : va_D A ((h0, .inr (12, fs66)) :: Z66) := by rw [hZ66]; exact hD
  refine W.widen (k := 66) (n := 12446) (by omega) (by omega) ?_
  refine va_putF (D := D) (ci := 12) (v := .ref q562) (ty := .array .int) (C := "DioceseBookModel") (T := TX12) (N := 97) hx hb hts gk_cl12.2.1 tyX12 tyX12_ok nmX12 hown hK hP hD hS 0 rfl rfl 95 (by decide) (hts _ (ck_w_ok (i := 1463) (by decide +kernel) : Cond.fieldLink "DioceseBookModel" 210 "DioceseBookModel" "daysFor" "[I" ∈ aAW)) (fun _ h9 => h9) rfl hin rfl (by decide +kernel) rfl rfl (by rw [hlen66]; decide) ctD_Model_564 (fun H locs hP hD hS => ?_)
  obtain ⟨fs67, hfs67⟩ : ∃ z : List Value, z = fs66.set 95 (.ref q562) := ⟨_, rfl⟩
  have hlen67 : fs67.length = 97 := by rw [hfs67, List.length_set, hlen66]
  have hP : va_P D wCl ((h0, .inr (12, fs67)) :: Z66) H := by rw [hfs67]; exact hP
  have hD : va_D A ((h0, .inr (12, fs67)) :: Z66) := by rw [hfs67]; exact hD
  refine lv_aload_n hx hb ctD_Model_567 rfl (lv_at hl 0 rfl) ?_
  refine lv_sipush (v := 256) hx hb ctD_Model_568 (by decide) ?_
  refine a_newa (atype := .int) (ty := .int) (c0 := cA 0) 0 hx hb (hts _ ct_a0) rfl (fun n h => by cases h) hK rfl hP hD hS hA (N' := 256) (a0 := (256, .inl (fun _ => 0))) (fun _ => rfl) (by decide) (by decide) (by decide) (Nat.le_of_ble_eq_true rfl) (Nat.le_of_ble_eq_true rfl) ctD_Model_571 (fun q571 H hP hD hS => ?_)
  obtain ⟨Z67, hZ67⟩ : ∃ z : va_W, z = Z66 ++ [(q571, .inl (cA 0, 256, .inl (fun _ => 0)))] := ⟨_, rfl⟩
  have hP : va_P D wCl ((h0, .inr (12, fs67)) :: Z67) H := by rw [hZ67]; exact hP
  have hD : va_D A ((h0, .inr (12, fs67)) :: Z67) := by rw [hZ67]; exact hD
  refine W.widen (k := 67) (n := 12702) (by omega) (by omega) ?_
  refine va_putF (D := D) (ci := 12) (v := .ref q571) (ty := .array .int) (C := "DioceseBookModel") (T := TX12) (N := 97) hx hb hts gk_cl12.2.1 tyX12 tyX12_ok nmX12 hown hK hP hD hS 0 rfl rfl 96 (by decide) (hts _ (ck_w_ok (i := 1464) (by decide +kernel) : Cond.fieldLink "DioceseBookModel" 213 "DioceseBookModel" "milesFor" "[I" ∈ aAW)) (fun _ h9 => h9) rfl hin rfl (by decide +kernel) rfl rfl (by rw [hlen67]; decide) ctD_Model_573 (fun H locs hP hD hS => ?_)
  obtain ⟨fs68, hfs68⟩ : ∃ z : List Value, z = fs67.set 96 (.ref q571) := ⟨_, rfl⟩
  have hlen68 : fs68.length = 97 := by rw [hfs68, List.length_set, hlen67]
  have hP : va_P D wCl ((h0, .inr (12, fs68)) :: Z67) H := by rw [hfs68]; exact hP
  have hD : va_D A ((h0, .inr (12, fs68)) :: Z67) := by rw [hfs68]; exact hD
  subst hAe
  obtain ⟨u, e0, e1, e2, e3, e4, e5, e6, e7, e8, e9, e10, e11, e12, e13, e14, e15, e16, e17, e18, e19, e20, e21, e22, e23, e24, e25, e26, e27, e28, e29, e30, e31, e32, e33, e34, e35, e36, e37, e38, e39, e40, e41, e42, e43, e44, e45, e46, e47, e48, e49, e50, e51, e52, e53, e54, e55, e56, e57, e58, e59, e60, e61, e62, e63, e64, e65, e66, e67⟩ : ∃ u : Nat → Nat, u 0 = h0 ∧ u 1 = q7 ∧ u 2 = q15 ∧ u 3 = q23 ∧ u 4 = q31 ∧ u 5 = q40 ∧ u 6 = q49 ∧ u 7 = q58 ∧ u 8 = q67 ∧ u 9 = q76 ∧ u 10 = q85 ∧ u 11 = q94 ∧ u 12 = q103 ∧ u 13 = q112 ∧ u 14 = q120 ∧ u 15 = q128 ∧ u 16 = q136 ∧ u 17 = q144 ∧ u 18 = q152 ∧ u 19 = q160 ∧ u 20 = q168 ∧ u 21 = q176 ∧ u 22 = q185 ∧ u 23 = q194 ∧ u 24 = q208 ∧ u 25 = q216 ∧ u 26 = q224 ∧ u 27 = q232 ∧ u 28 = q241 ∧ u 29 = q249 ∧ u 30 = q257 ∧ u 31 = q265 ∧ u 32 = q273 ∧ u 33 = q281 ∧ u 34 = q290 ∧ u 35 = q299 ∧ u 36 = q308 ∧ u 37 = q317 ∧ u 38 = q326 ∧ u 39 = q335 ∧ u 40 = q344 ∧ u 41 = q353 ∧ u 42 = q362 ∧ u 43 = q371 ∧ u 44 = q379 ∧ u 45 = q387 ∧ u 46 = q395 ∧ u 47 = q403 ∧ u 48 = q412 ∧ u 49 = q421 ∧ u 50 = q430 ∧ u 51 = q439 ∧ u 52 = q447 ∧ u 53 = q455 ∧ u 54 = q463 ∧ u 55 = q471 ∧ u 56 = q479 ∧ u 57 = q487 ∧ u 58 = q495 ∧ u 59 = q503 ∧ u 60 = q511 ∧ u 61 = q519 ∧ u 62 = q527 ∧ u 63 = q535 ∧ u 64 = q544 ∧ u 65 = q553 ∧ u 66 = q562 ∧ u 67 = q571 := ⟨fun k => [h0, q7, q15, q23, q31, q40, q49, q58, q67, q76, q85, q94, q103, q112, q120, q128, q136, q144, q152, q160, q168, q176, q185, q194, q208, q216, q224, q232, q241, q249, q257, q265, q273, q281, q290, q299, q308, q317, q326, q335, q344, q353, q362, q371, q379, q387, q395, q403, q412, q421, q430, q439, q447, q455, q463, q471, q479, q487, q495, q503, q511, q519, q527, q535, q544, q553, q562, q571].getD k 0, rfl, rfl, rfl, rfl, rfl, rfl, rfl, rfl, rfl, rfl, rfl, rfl, rfl, rfl, rfl, rfl, rfl, rfl, rfl, rfl, rfl, rfl, rfl, rfl, rfl, rfl, rfl, rfl, rfl, rfl, rfl, rfl, rfl, rfl, rfl, rfl, rfl, rfl, rfl, rfl, rfl, rfl, rfl, rfl, rfl, rfl, rfl, rfl, rfl, rfl, rfl, rfl, rfl, rfl, rfl, rfl, rfl, rfl, rfl, rfl, rfl, rfl, rfl, rfl, rfl, rfl, rfl, rfl⟩
  have g0 : fs0 = ctF_0 u := hfs0
  have g1 : fs1 = ctF_1 u := by rw [hfs1, g0, ← e1]; exact ctFs_0 u
  have g2 : fs2 = ctF_2 u := by rw [hfs2, g1, ← e2]; exact ctFs_1 u
  have g3 : fs3 = ctF_3 u := by rw [hfs3, g2, ← e3]; exact ctFs_2 u
  have g4 : fs4 = ctF_4 u := by rw [hfs4, g3, ← e4]; exact ctFs_3 u
  have g5 : fs5 = ctF_5 u := by rw [hfs5, g4, ← e5]; exact ctFs_4 u
  have g6 : fs6 = ctF_6 u := by rw [hfs6, g5, ← e6]; exact ctFs_5 u
  have g7 : fs7 = ctF_7 u := by rw [hfs7, g6, ← e7]; exact ctFs_6 u
  have g8 : fs8 = ctF_8 u := by rw [hfs8, g7, ← e8]; exact ctFs_7 u
  have g9 : fs9 = ctF_9 u := by rw [hfs9, g8, ← e9]; exact ctFs_8 u
  have g10 : fs10 = ctF_10 u := by rw [hfs10, g9, ← e10]; exact ctFs_9 u
  have g11 : fs11 = ctF_11 u := by rw [hfs11, g10, ← e11]; exact ctFs_10 u
  have g12 : fs12 = ctF_12 u := by rw [hfs12, g11, ← e12]; exact ctFs_11 u
  have g13 : fs13 = ctF_13 u := by rw [hfs13, g12, ← e13]; exact ctFs_12 u
  have g14 : fs14 = ctF_14 u := by rw [hfs14, g13, ← e14]; exact ctFs_13 u
  have g15 : fs15 = ctF_15 u := by rw [hfs15, g14, ← e15]; exact ctFs_14 u
  have g16 : fs16 = ctF_16 u := by rw [hfs16, g15, ← e16]; exact ctFs_15 u
  have g17 : fs17 = ctF_17 u := by rw [hfs17, g16, ← e17]; exact ctFs_16 u
  have g18 : fs18 = ctF_18 u := by rw [hfs18, g17, ← e18]; exact ctFs_17 u
  have g19 : fs19 = ctF_19 u := by rw [hfs19, g18, ← e19]; exact ctFs_18 u
  have g20 : fs20 = ctF_20 u := by rw [hfs20, g19, ← e20]; exact ctFs_19 u
  have g21 : fs21 = ctF_21 u := by rw [hfs21, g20, ← e21]; exact ctFs_20 u
  have g22 : fs22 = ctF_22 u := by rw [hfs22, g21, ← e22]; exact ctFs_21 u
  have g23 : fs23 = ctF_23 u := by rw [hfs23, g22, ← e23]; exact ctFs_22 u
  have g24 : fs24 = ctF_24 u := by rw [hfs24, g23]; exact ctFs_23 u
  have g25 : fs25 = ctF_25 u := by rw [hfs25, g24, ← e24]; exact ctFs_24 u
  have g26 : fs26 = ctF_26 u := by rw [hfs26, g25, ← e25]; exact ctFs_25 u
  have g27 : fs27 = ctF_27 u := by rw [hfs27, g26, ← e26]; exact ctFs_26 u
  have g28 : fs28 = ctF_28 u := by rw [hfs28, g27, ← e27]; exact ctFs_27 u
  have g29 : fs29 = ctF_29 u := by rw [hfs29, g28, ← e28]; exact ctFs_28 u
  have g30 : fs30 = ctF_30 u := by rw [hfs30, g29, ← e29]; exact ctFs_29 u
  have g31 : fs31 = ctF_31 u := by rw [hfs31, g30, ← e30]; exact ctFs_30 u
  have g32 : fs32 = ctF_32 u := by rw [hfs32, g31, ← e31]; exact ctFs_31 u
  have g33 : fs33 = ctF_33 u := by rw [hfs33, g32, ← e32]; exact ctFs_32 u
  have g34 : fs34 = ctF_34 u := by rw [hfs34, g33, ← e33]; exact ctFs_33 u
  have g35 : fs35 = ctF_35 u := by rw [hfs35, g34, ← e34]; exact ctFs_34 u
  have g36 : fs36 = ctF_36 u := by rw [hfs36, g35, ← e35]; exact ctFs_35 u
  have g37 : fs37 = ctF_37 u := by rw [hfs37, g36, ← e36]; exact ctFs_36 u
  have g38 : fs38 = ctF_38 u := by rw [hfs38, g37, ← e37]; exact ctFs_37 u
  have g39 : fs39 = ctF_39 u := by rw [hfs39, g38, ← e38]; exact ctFs_38 u
  have g40 : fs40 = ctF_40 u := by rw [hfs40, g39, ← e39]; exact ctFs_39 u
  have g41 : fs41 = ctF_41 u := by rw [hfs41, g40, ← e40]; exact ctFs_40 u
  have g42 : fs42 = ctF_42 u := by rw [hfs42, g41, ← e41]; exact ctFs_41 u
  have g43 : fs43 = ctF_43 u := by rw [hfs43, g42, ← e42]; exact ctFs_42 u
  have g44 : fs44 = ctF_44 u := by rw [hfs44, g43, ← e43]; exact ctFs_43 u
  have g45 : fs45 = ctF_45 u := by rw [hfs45, g44, ← e44]; exact ctFs_44 u
  have g46 : fs46 = ctF_46 u := by rw [hfs46, g45, ← e45]; exact ctFs_45 u
  have g47 : fs47 = ctF_47 u := by rw [hfs47, g46, ← e46]; exact ctFs_46 u
  have g48 : fs48 = ctF_48 u := by rw [hfs48, g47, ← e47]; exact ctFs_47 u
  have g49 : fs49 = ctF_49 u := by rw [hfs49, g48, ← e48]; exact ctFs_48 u
  have g50 : fs50 = ctF_50 u := by rw [hfs50, g49, ← e49]; exact ctFs_49 u
  have g51 : fs51 = ctF_51 u := by rw [hfs51, g50, ← e50]; exact ctFs_50 u
  have g52 : fs52 = ctF_52 u := by rw [hfs52, g51, ← e51]; exact ctFs_51 u
  have g53 : fs53 = ctF_53 u := by rw [hfs53, g52, ← e52]; exact ctFs_52 u
  have g54 : fs54 = ctF_54 u := by rw [hfs54, g53, ← e53]; exact ctFs_53 u
  have g55 : fs55 = ctF_55 u := by rw [hfs55, g54, ← e54]; exact ctFs_54 u
  have g56 : fs56 = ctF_56 u := by rw [hfs56, g55, ← e55]; exact ctFs_55 u
  have g57 : fs57 = ctF_57 u := by rw [hfs57, g56, ← e56]; exact ctFs_56 u
  have g58 : fs58 = ctF_58 u := by rw [hfs58, g57, ← e57]; exact ctFs_57 u
  have g59 : fs59 = ctF_59 u := by rw [hfs59, g58, ← e58]; exact ctFs_58 u
  have g60 : fs60 = ctF_60 u := by rw [hfs60, g59, ← e59]; exact ctFs_59 u
  have g61 : fs61 = ctF_61 u := by rw [hfs61, g60, ← e60]; exact ctFs_60 u
  have g62 : fs62 = ctF_62 u := by rw [hfs62, g61, ← e61]; exact ctFs_61 u
  have g63 : fs63 = ctF_63 u := by rw [hfs63, g62, ← e62]; exact ctFs_62 u
  have g64 : fs64 = ctF_64 u := by rw [hfs64, g63, ← e63]; exact ctFs_63 u
  have g65 : fs65 = ctF_65 u := by rw [hfs65, g64, ← e64]; exact ctFs_64 u
  have g66 : fs66 = ctF_66 u := by rw [hfs66, g65, ← e65]; exact ctFs_65 u
  have g67 : fs67 = ctF_67 u := by rw [hfs67, g66, ← e66]; exact ctFs_66 u
  have g68 : fs68 = ctF_68 u := by rw [hfs68, g67, ← e67]; exact ctFs_67 u
  have z0 : Z0 = ctZ cA u 0 := hZ0
  have z1 : Z1 = ctZ cA u 1 := by rw [hZ1, z0, ← e1, ← cte_1 cA u]; exact (ctZ_succ cA u 0).symm
  have z2 : Z2 = ctZ cA u 2 := by rw [hZ2, z1, ← e2, ← cte_2 cA u]; exact (ctZ_succ cA u 1).symm
  have z3 : Z3 = ctZ cA u 3 := by rw [hZ3, z2, ← e3, ← cte_3 cA u]; exact (ctZ_succ cA u 2).symm
  have z4 : Z4 = ctZ cA u 4 := by rw [hZ4, z3, ← e4, ← cte_4 cA u]; exact (ctZ_succ cA u 3).symm
  have z5 : Z5 = ctZ cA u 5 := by rw [hZ5, z4, ← e5, ← cte_5 cA u]; exact (ctZ_succ cA u 4).symm
  have z6 : Z6 = ctZ cA u 6 := by rw [hZ6, z5, ← e6, ← cte_6 cA u]; exact (ctZ_succ cA u 5).symm
  have z7 : Z7 = ctZ cA u 7 := by rw [hZ7, z6, ← e7, ← cte_7 cA u]; exact (ctZ_succ cA u 6).symm
  have z8 : Z8 = ctZ cA u 8 := by rw [hZ8, z7, ← e8, ← cte_8 cA u]; exact (ctZ_succ cA u 7).symm
  have z9 : Z9 = ctZ cA u 9 := by rw [hZ9, z8, ← e9, ← cte_9 cA u]; exact (ctZ_succ cA u 8).symm
  have z10 : Z10 = ctZ cA u 10 := by rw [hZ10, z9, ← e10, ← cte_10 cA u]; exact (ctZ_succ cA u 9).symm
  have z11 : Z11 = ctZ cA u 11 := by rw [hZ11, z10, ← e11, ← cte_11 cA u]; exact (ctZ_succ cA u 10).symm
  have z12 : Z12 = ctZ cA u 12 := by rw [hZ12, z11, ← e12, ← cte_12 cA u]; exact (ctZ_succ cA u 11).symm
  have z13 : Z13 = ctZ cA u 13 := by rw [hZ13, z12, ← e13, ← cte_13 cA u]; exact (ctZ_succ cA u 12).symm
  have z14 : Z14 = ctZ cA u 14 := by rw [hZ14, z13, ← e14, ← cte_14 cA u]; exact (ctZ_succ cA u 13).symm
  have z15 : Z15 = ctZ cA u 15 := by rw [hZ15, z14, ← e15, ← cte_15 cA u]; exact (ctZ_succ cA u 14).symm
  have z16 : Z16 = ctZ cA u 16 := by rw [hZ16, z15, ← e16, ← cte_16 cA u]; exact (ctZ_succ cA u 15).symm
  have z17 : Z17 = ctZ cA u 17 := by rw [hZ17, z16, ← e17, ← cte_17 cA u]; exact (ctZ_succ cA u 16).symm
  have z18 : Z18 = ctZ cA u 18 := by rw [hZ18, z17, ← e18, ← cte_18 cA u]; exact (ctZ_succ cA u 17).symm
  have z19 : Z19 = ctZ cA u 19 := by rw [hZ19, z18, ← e19, ← cte_19 cA u]; exact (ctZ_succ cA u 18).symm
  have z20 : Z20 = ctZ cA u 20 := by rw [hZ20, z19, ← e20, ← cte_20 cA u]; exact (ctZ_succ cA u 19).symm
  have z21 : Z21 = ctZ cA u 21 := by rw [hZ21, z20, ← e21, ← cte_21 cA u]; exact (ctZ_succ cA u 20).symm
  have z22 : Z22 = ctZ cA u 22 := by rw [hZ22, z21, ← e22, ← cte_22 cA u]; exact (ctZ_succ cA u 21).symm
  have z23 : Z23 = ctZ cA u 23 := by rw [hZ23, z22, ← e23, ← cte_23 cA u]; exact (ctZ_succ cA u 22).symm
  have z24 : Z24 = ctZ cA u 24 := by rw [hZ24, z23, ← e24, ← cte_24 cA u]; exact (ctZ_succ cA u 23).symm
  have z25 : Z25 = ctZ cA u 25 := by rw [hZ25, z24, ← e25, ← cte_25 cA u]; exact (ctZ_succ cA u 24).symm
  have z26 : Z26 = ctZ cA u 26 := by rw [hZ26, z25, ← e26, ← cte_26 cA u]; exact (ctZ_succ cA u 25).symm
  have z27 : Z27 = ctZ cA u 27 := by rw [hZ27, z26, ← e27, ← cte_27 cA u]; exact (ctZ_succ cA u 26).symm
  have z28 : Z28 = ctZ cA u 28 := by rw [hZ28, z27, ← e28, ← cte_28 cA u]; exact (ctZ_succ cA u 27).symm
  have z29 : Z29 = ctZ cA u 29 := by rw [hZ29, z28, ← e29, ← cte_29 cA u]; exact (ctZ_succ cA u 28).symm
  have z30 : Z30 = ctZ cA u 30 := by rw [hZ30, z29, ← e30, ← cte_30 cA u]; exact (ctZ_succ cA u 29).symm
  have z31 : Z31 = ctZ cA u 31 := by rw [hZ31, z30, ← e31, ← cte_31 cA u]; exact (ctZ_succ cA u 30).symm
  have z32 : Z32 = ctZ cA u 32 := by rw [hZ32, z31, ← e32, ← cte_32 cA u]; exact (ctZ_succ cA u 31).symm
  have z33 : Z33 = ctZ cA u 33 := by rw [hZ33, z32, ← e33, ← cte_33 cA u]; exact (ctZ_succ cA u 32).symm
  have z34 : Z34 = ctZ cA u 34 := by rw [hZ34, z33, ← e34, ← cte_34 cA u]; exact (ctZ_succ cA u 33).symm
  have z35 : Z35 = ctZ cA u 35 := by rw [hZ35, z34, ← e35, ← cte_35 cA u]; exact (ctZ_succ cA u 34).symm
  have z36 : Z36 = ctZ cA u 36 := by rw [hZ36, z35, ← e36, ← cte_36 cA u]; exact (ctZ_succ cA u 35).symm
  have z37 : Z37 = ctZ cA u 37 := by rw [hZ37, z36, ← e37, ← cte_37 cA u]; exact (ctZ_succ cA u 36).symm
  have z38 : Z38 = ctZ cA u 38 := by rw [hZ38, z37, ← e38, ← cte_38 cA u]; exact (ctZ_succ cA u 37).symm
  have z39 : Z39 = ctZ cA u 39 := by rw [hZ39, z38, ← e39, ← cte_39 cA u]; exact (ctZ_succ cA u 38).symm
  have z40 : Z40 = ctZ cA u 40 := by rw [hZ40, z39, ← e40, ← cte_40 cA u]; exact (ctZ_succ cA u 39).symm
  have z41 : Z41 = ctZ cA u 41 := by rw [hZ41, z40, ← e41, ← cte_41 cA u]; exact (ctZ_succ cA u 40).symm
  have z42 : Z42 = ctZ cA u 42 := by rw [hZ42, z41, ← e42, ← cte_42 cA u]; exact (ctZ_succ cA u 41).symm
  have z43 : Z43 = ctZ cA u 43 := by rw [hZ43, z42, ← e43, ← cte_43 cA u]; exact (ctZ_succ cA u 42).symm
  have z44 : Z44 = ctZ cA u 44 := by rw [hZ44, z43, ← e44, ← cte_44 cA u]; exact (ctZ_succ cA u 43).symm
  have z45 : Z45 = ctZ cA u 45 := by rw [hZ45, z44, ← e45, ← cte_45 cA u]; exact (ctZ_succ cA u 44).symm
  have z46 : Z46 = ctZ cA u 46 := by rw [hZ46, z45, ← e46, ← cte_46 cA u]; exact (ctZ_succ cA u 45).symm
  have z47 : Z47 = ctZ cA u 47 := by rw [hZ47, z46, ← e47, ← cte_47 cA u]; exact (ctZ_succ cA u 46).symm
  have z48 : Z48 = ctZ cA u 48 := by rw [hZ48, z47, ← e48, ← cte_48 cA u]; exact (ctZ_succ cA u 47).symm
  have z49 : Z49 = ctZ cA u 49 := by rw [hZ49, z48, ← e49, ← cte_49 cA u]; exact (ctZ_succ cA u 48).symm
  have z50 : Z50 = ctZ cA u 50 := by rw [hZ50, z49, ← e50, ← cte_50 cA u]; exact (ctZ_succ cA u 49).symm
  have z51 : Z51 = ctZ cA u 51 := by rw [hZ51, z50, ← e51, ← cte_51 cA u]; exact (ctZ_succ cA u 50).symm
  have z52 : Z52 = ctZ cA u 52 := by rw [hZ52, z51, ← e52, ← cte_52 cA u]; exact (ctZ_succ cA u 51).symm
  have z53 : Z53 = ctZ cA u 53 := by rw [hZ53, z52, ← e53, ← cte_53 cA u]; exact (ctZ_succ cA u 52).symm
  have z54 : Z54 = ctZ cA u 54 := by rw [hZ54, z53, ← e54, ← cte_54 cA u]; exact (ctZ_succ cA u 53).symm
  have z55 : Z55 = ctZ cA u 55 := by rw [hZ55, z54, ← e55, ← cte_55 cA u]; exact (ctZ_succ cA u 54).symm
  have z56 : Z56 = ctZ cA u 56 := by rw [hZ56, z55, ← e56, ← cte_56 cA u]; exact (ctZ_succ cA u 55).symm
  have z57 : Z57 = ctZ cA u 57 := by rw [hZ57, z56, ← e57, ← cte_57 cA u]; exact (ctZ_succ cA u 56).symm
  have z58 : Z58 = ctZ cA u 58 := by rw [hZ58, z57, ← e58, ← cte_58 cA u]; exact (ctZ_succ cA u 57).symm
  have z59 : Z59 = ctZ cA u 59 := by rw [hZ59, z58, ← e59, ← cte_59 cA u]; exact (ctZ_succ cA u 58).symm
  have z60 : Z60 = ctZ cA u 60 := by rw [hZ60, z59, ← e60, ← cte_60 cA u]; exact (ctZ_succ cA u 59).symm
  have z61 : Z61 = ctZ cA u 61 := by rw [hZ61, z60, ← e61, ← cte_61 cA u]; exact (ctZ_succ cA u 60).symm
  have z62 : Z62 = ctZ cA u 62 := by rw [hZ62, z61, ← e62, ← cte_62 cA u]; exact (ctZ_succ cA u 61).symm
  have z63 : Z63 = ctZ cA u 63 := by rw [hZ63, z62, ← e63, ← cte_63 cA u]; exact (ctZ_succ cA u 62).symm
  have z64 : Z64 = ctZ cA u 64 := by rw [hZ64, z63, ← e64, ← cte_64 cA u]; exact (ctZ_succ cA u 63).symm
  have z65 : Z65 = ctZ cA u 65 := by rw [hZ65, z64, ← e65, ← cte_65 cA u]; exact (ctZ_succ cA u 64).symm
  have z66 : Z66 = ctZ cA u 66 := by rw [hZ66, z65, ← e66, ← cte_66 cA u]; exact (ctZ_succ cA u 65).symm
  have z67 : Z67 = ctZ cA u 67 := by rw [hZ67, z66, ← e67, ← cte_67 cA u]; exact (ctZ_succ cA u 66).symm
  have hW9 : ((h0, .inr (12, fs68)) :: Z67) = ctW_Model cA u := by rw [g68, z67, ← e0, ← cte_0 cA u]; exact ctZ_aw cA u 67
  rw [hW9] at hP hD
  refine W.vret hx hb hr (fun t ht hW => ⟨⟨u, rfl, e0, by rw [ht]; exact hP, hD⟩, hS.F ht⟩) hS.2.2 ctD_Model_576 hlocks
