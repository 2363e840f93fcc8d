/-! THE LAW'S LOOP (by program): its body, case by case, over what the calls owe (lwSims) -/
theorem lw_mem (i : Nat) (w : Cond) (h : lw_tbl[i]? = some w) : w ∈ lw_tbl := List.mem_of_getElem? h
/-- a long out of two ints of the script -/
def lwLong (x y : Int32) : Int := ((x.toInt64 <<< ((32 : Int32).toInt64 &&& 63)) ||| (y.toInt64 &&& 4294967295)).toInt
theorem lwLong_o (x y : Int32) : Int64.ofInt (lwLong x y) = (x.toInt64 <<< ((32 : Int32).toInt64 &&& 63)) ||| (y.toInt64 &&& 4294967295) := a64_o _
theorem st_str2 (l : Launch) {ad : Nat → Nat} {cA : Nat → ClassId} {D : va_G} : aStr s2_G ad cA 68 0 D wCl s2_cn s2_bc aAW s2_AN s2_zs s2_sk (fun _ _ => True) l := by
  intro y d Q p e s m args below meth c hC pc i k rest H locs lsC hdg hk
  exact absurd hk (Nat.not_lt_zero k)
/-- the two systems' facts at the law's entry: tables, what is known of the constants, their cells are new; and apart -/
def lwY (ad1 ad2 adV : Nat → Nat) (cA : Nat → ClassId) (D : va_G) (s : State) : Prop :=
  (aTab s1_G ad1 205 21 153 13 wCl s1_cn s1_yn s1_bc s1_tf aAW s1_AN s1_zs s1_sk (st_X ad1 adV) ∧ aX s1_G ad1 cA 205 21 D wCl s1_AN s1_zs s1_sk (st_X ad1 adV) s ∧ ∀ q, q < 205 → s.heap.size ≤ ad1 q) ∧
  (aTab s2_G ad2 68 0 111 13 wCl s2_cn s2_yn s2_bc s2_tf aAW s2_AN s2_zs s2_sk (fun _ _ => True) ∧ aX s2_G ad2 cA 68 0 D wCl s2_AN s2_zs s2_sk (fun _ _ => True) s ∧ ∀ q, q < 68 → s.heap.size ≤ ad2 q) ∧
  (∀ i, i < 68 → ¬ aF ad1 205 (ad2 i)) ∧ ∀ i, i < 205 → ¬ aF ad2 68 (ad1 i)
/-- what holds at the loop's head, at the place n of the script -/
def lwI (ad1 ad2 : Nat → Nat) (cA : Nat → ClassId) (D : va_G) (A : Nat → Prop) (s : State) (b x0 m0 n : Nat) (M1 M2 : AM) (H : Heap) (locs : List Loc) (ls : Array Slot) : Prop :=
  lv_has ls 4 [(3, .int (nI n)), (2, .ref m0), (1, .ref x0), (0, .ref b)] ∧ va_P D wCl (aw s1_G ad1 cA 205 M1) H ∧ va_P D wCl (aw s2_G ad2 cA 68 M2) H ∧ aOKM s1_G M1 ∧ aOKM s2_G M2 ∧ va_S A s.heap H locs
/-- the other system's world stays -/
theorem lw_keep {G : AG} {ad : Nat → Nat} {cA : Nat → ClassId} {nc : Nat} {D : va_G} {M : AM} {H H1 : Heap} {F : Nat → Prop} (h : ∀ i, i < nc → ¬ F (ad i)) (hP : va_P D wCl (aw G ad cA nc M) H) (hk : ∀ a : Nat, a < H.size → ¬ F a → H1[a]? = H[a]?) : va_P D wCl (aw G ad cA nc M) H1 := by
  intro k q hq
  have hkn : k < nc := by have := (List.getElem?_eq_some_iff.mp hq).1; simpa [aw] using this
  have h1 := hP k q hq
  rw [aw_at hkn] at hq
  cases hq
  exact h1.kept (hk _ h1.lt (h k hkn))
theorem lw_cmp {n L : Nat} (h : n + 7 ≤ L) (hL : L < 4000) : ¬ Int32.ofNat L - 7 < nI n := by
  have e : Int32.ofNat L - 7 = nI (L - 7) := pk_sub (a := L) (b := 7) (by omega)
  rw [e]
  exact nI_nlt (by omega) (by omega)
theorem fa_lt' (a b : Int32) : a < b ↔ a.toInt < b.toInt := Int32.lt_iff_toInt_lt
theorem lw_cmp2 {n L : Nat} (h : L < n + 7) (hn : n ≤ L + 7) (hL : L < 4000) : Int32.ofNat L - 7 < nI n := by
  rw [fa_lt']
  rw [show Int32.ofNat L - 7 = nI L - nI 7 from rfl, pk_sub_toInt (by omega) (by omega), nI_toInt (by omega)]
  omega
theorem lw_out {p : Program} {l : Launch} {e : Env} {s : State} {m : MethodId} {below : List Frame} {meth : Method} {c : Code} {b L : Nat} {xs : Nat → Int32} {ad1 ad2 : Nat → Nat} {cA : Nat → ClassId} {D : va_G} {A : Nat → Prop} (hx : p.tables.exec = Jvm.exec) (hb : c.code = code) (hX : va_X b L xs s s.heap) (hbl : b < s.heap.size) (hA : ∀ q, A q ↔ s.heap.size ≤ q) (hr : meth.sig.returnType = ret) (hlocks : meth.locks = false) {n : Nat} (hn : L < n + 7) (hn2 : n ≤ L + 7) (hL : L ≤ 3584) {H : Heap} {locs : List Loc} {ls : Array Slot} {M1 M2 : AM} (hI : lwI ad1 ad2 cA D A s b (ad1 0) (ad2 0) n M1 M2 H locs ls) :
    W p l e room_1 s m #[Value.ref b] below meth c H locs 600000 7302250 (lw_Z below #[Value.ref b] s) (F0 m 18 ls []) := by
  obtain ⟨hl, hP1, hP2, hM1, hM2, hS⟩ := id hI
  have hbA : ¬ A b := fun z => by have := (hA b).mp z; omega
  refine lv_iload_n hx hb (by decide +kernel : decode code 18 = .ok (.iload_n 3, 1)) rfl (lv_at hl 0 rfl) ?_
  refine lv_aload_n hx hb (by decide +kernel : decode code 19 = .ok (.aload_n 0, 1)) rfl (lv_at hl 3 rfl) ?_
  refine va_slen hx hb hX hbl hbA hS (by decide +kernel : decode code 20 = .ok (.arraylength, 1)) ?_
  refine lv_bipush (v := 7) hx hb (by decide +kernel : decode code 21 = .ok (.bipush 7, 2)) (by decide) ?_
  refine lv_isub hx hb (by decide +kernel : decode code 23 = .ok (.isub, 1)) ?_
  refine lv_icmp_gt (tgt := 1490) hx hb (by decide +kernel : decode code 24 = .ok (.if_icmp .gt 1466, 3)) (by decide) (fun _ => ?_) (fun z => absurd (lw_cmp2 hn hn2 (by omega)) z)
  refine lv_iconst (v := 1) hx hb (by decide +kernel : decode code 1490 = .ok (.iconst 1, 1)) (by decide) ?_
  refine va_forget (fun q hq => (hA _).mp (hS.2.2 q hq)) ?_
  exact lw_ret hx hb hr hlocks (by decide +kernel : decode code 1491 = .ok (.ireturn, 1))

theorem dl_0 : decode code 0 = .ok (.new 7, 3) := by decide +kernel
theorem dl_3 : decode code 3 = .ok (.dup, 1) := by decide +kernel
theorem dl_4 : decode code 4 = .ok (.invokespecial 9, 3) := by decide +kernel
theorem dl_7 : decode code 7 = .ok (.astore_n 1, 1) := by decide +kernel
theorem dl_8 : decode code 8 = .ok (.new 10, 3) := by decide +kernel
theorem dl_11 : decode code 11 = .ok (.dup, 1) := by decide +kernel
theorem dl_12 : decode code 12 = .ok (.invokespecial 12, 3) := by decide +kernel
theorem dl_15 : decode code 15 = .ok (.astore_n 2, 1) := by decide +kernel
theorem dl_16 : decode code 16 = .ok (.iconst 0, 1) := by decide +kernel
theorem dl_17 : decode code 17 = .ok (.istore_n 3, 1) := by decide +kernel
theorem dl_18 : decode code 18 = .ok (.iload_n 3, 1) := by decide +kernel
theorem dl_19 : decode code 19 = .ok (.aload_n 0, 1) := by decide +kernel
theorem dl_20 : decode code 20 = .ok (.arraylength, 1) := by decide +kernel
theorem dl_21 : decode code 21 = .ok (.bipush 7, 2) := by decide +kernel
theorem dl_23 : decode code 23 = .ok (.isub, 1) := by decide +kernel
theorem dl_24 : decode code 24 = .ok (.if_icmp .gt 1466, 3) := by decide +kernel
theorem dl_27 : decode code 27 = .ok (.aload_n 0, 1) := by decide +kernel
theorem dl_28 : decode code 28 = .ok (.iload_n 3, 1) := by decide +kernel
theorem dl_29 : decode code 29 = .ok (.iaload, 1) := by decide +kernel
theorem dl_30 : decode code 30 = .ok (.bipush 31, 2) := by decide +kernel
theorem dl_32 : decode code 32 = .ok (.iand, 1) := by decide +kernel
theorem dl_33 : decode code 33 = .ok (.tableswitch 1451 0 31 #[143, 166, 189, 232, 275, 350, 383, 416, 459, 482, 545, 568, 581, 624, 657, 710, 763, 796, 829, 882, 945, 988, 1031, 1064, 1097, 1140, 1193, 1256, 1289, 1352, 1385, 1408], 143) := by decide +kernel
theorem dl_176 : decode code 176 = .ok (.aload_n 1, 1) := by decide +kernel
theorem dl_177 : decode code 177 = .ok (.aload_n 0, 1) := by decide +kernel
theorem dl_178 : decode code 178 = .ok (.iload_n 3, 1) := by decide +kernel
theorem dl_179 : decode code 179 = .ok (.iconst 1, 1) := by decide +kernel
theorem dl_180 : decode code 180 = .ok (.iadd, 1) := by decide +kernel
theorem dl_181 : decode code 181 = .ok (.iaload, 1) := by decide +kernel
theorem dl_182 : decode code 182 = .ok (.invokevirtual 13, 3) := by decide +kernel
theorem dl_185 : decode code 185 = .ok (.aload_n 2, 1) := by decide +kernel
theorem dl_186 : decode code 186 = .ok (.aload_n 0, 1) := by decide +kernel
theorem dl_187 : decode code 187 = .ok (.iload_n 3, 1) := by decide +kernel
theorem dl_188 : decode code 188 = .ok (.iconst 1, 1) := by decide +kernel
theorem dl_189 : decode code 189 = .ok (.iadd, 1) := by decide +kernel
theorem dl_190 : decode code 190 = .ok (.iaload, 1) := by decide +kernel
theorem dl_191 : decode code 191 = .ok (.invokevirtual 17, 3) := by decide +kernel
theorem dl_194 : decode code 194 = .ok (.if_icmp .eq 1290, 3) := by decide +kernel
theorem dl_197 : decode code 197 = .ok (.iconst 0, 1) := by decide +kernel
theorem dl_198 : decode code 198 = .ok (.ireturn, 1) := by decide +kernel
theorem dl_199 : decode code 199 = .ok (.aload_n 1, 1) := by decide +kernel
theorem dl_200 : decode code 200 = .ok (.aload_n 0, 1) := by decide +kernel
theorem dl_201 : decode code 201 = .ok (.iload_n 3, 1) := by decide +kernel
theorem dl_202 : decode code 202 = .ok (.iconst 1, 1) := by decide +kernel
theorem dl_203 : decode code 203 = .ok (.iadd, 1) := by decide +kernel
theorem dl_204 : decode code 204 = .ok (.iaload, 1) := by decide +kernel
theorem dl_205 : decode code 205 = .ok (.invokevirtual 18, 3) := by decide +kernel
theorem dl_208 : decode code 208 = .ok (.aload_n 2, 1) := by decide +kernel
theorem dl_209 : decode code 209 = .ok (.aload_n 0, 1) := by decide +kernel
theorem dl_210 : decode code 210 = .ok (.iload_n 3, 1) := by decide +kernel
theorem dl_211 : decode code 211 = .ok (.iconst 1, 1) := by decide +kernel
theorem dl_212 : decode code 212 = .ok (.iadd, 1) := by decide +kernel
theorem dl_213 : decode code 213 = .ok (.iaload, 1) := by decide +kernel
theorem dl_214 : decode code 214 = .ok (.invokevirtual 21, 3) := by decide +kernel
theorem dl_217 : decode code 217 = .ok (.if_icmp .eq 1267, 3) := by decide +kernel
theorem dl_220 : decode code 220 = .ok (.iconst 0, 1) := by decide +kernel
theorem dl_221 : decode code 221 = .ok (.ireturn, 1) := by decide +kernel
theorem dl_222 : decode code 222 = .ok (.aload_n 1, 1) := by decide +kernel
theorem dl_223 : decode code 223 = .ok (.aload_n 0, 1) := by decide +kernel
theorem dl_224 : decode code 224 = .ok (.iload_n 3, 1) := by decide +kernel
theorem dl_225 : decode code 225 = .ok (.iconst 1, 1) := by decide +kernel
theorem dl_226 : decode code 226 = .ok (.iadd, 1) := by decide +kernel
theorem dl_227 : decode code 227 = .ok (.iaload, 1) := by decide +kernel
theorem dl_228 : decode code 228 = .ok (.aload_n 0, 1) := by decide +kernel
theorem dl_229 : decode code 229 = .ok (.iload_n 3, 1) := by decide +kernel
theorem dl_230 : decode code 230 = .ok (.iconst 2, 1) := by decide +kernel
theorem dl_231 : decode code 231 = .ok (.iadd, 1) := by decide +kernel
theorem dl_232 : decode code 232 = .ok (.iaload, 1) := by decide +kernel
theorem dl_233 : decode code 233 = .ok (.aload_n 0, 1) := by decide +kernel
theorem dl_234 : decode code 234 = .ok (.iload_n 3, 1) := by decide +kernel
theorem dl_235 : decode code 235 = .ok (.iconst 3, 1) := by decide +kernel
theorem dl_236 : decode code 236 = .ok (.iadd, 1) := by decide +kernel
theorem dl_237 : decode code 237 = .ok (.iaload, 1) := by decide +kernel
theorem dl_238 : decode code 238 = .ok (.invokevirtual 22, 3) := by decide +kernel
theorem dl_241 : decode code 241 = .ok (.aload_n 2, 1) := by decide +kernel
theorem dl_242 : decode code 242 = .ok (.aload_n 0, 1) := by decide +kernel
theorem dl_243 : decode code 243 = .ok (.iload_n 3, 1) := by decide +kernel
theorem dl_244 : decode code 244 = .ok (.iconst 1, 1) := by decide +kernel
theorem dl_245 : decode code 245 = .ok (.iadd, 1) := by decide +kernel
theorem dl_246 : decode code 246 = .ok (.iaload, 1) := by decide +kernel
theorem dl_247 : decode code 247 = .ok (.aload_n 0, 1) := by decide +kernel
theorem dl_248 : decode code 248 = .ok (.iload_n 3, 1) := by decide +kernel
theorem dl_249 : decode code 249 = .ok (.iconst 2, 1) := by decide +kernel
theorem dl_250 : decode code 250 = .ok (.iadd, 1) := by decide +kernel
theorem dl_251 : decode code 251 = .ok (.iaload, 1) := by decide +kernel
theorem dl_252 : decode code 252 = .ok (.aload_n 0, 1) := by decide +kernel
theorem dl_253 : decode code 253 = .ok (.iload_n 3, 1) := by decide +kernel
theorem dl_254 : decode code 254 = .ok (.iconst 3, 1) := by decide +kernel
theorem dl_255 : decode code 255 = .ok (.iadd, 1) := by decide +kernel
theorem dl_256 : decode code 256 = .ok (.iaload, 1) := by decide +kernel
theorem dl_257 : decode code 257 = .ok (.invokevirtual 26, 3) := by decide +kernel
theorem dl_260 : decode code 260 = .ok (.if_icmp .eq 1224, 3) := by decide +kernel
theorem dl_263 : decode code 263 = .ok (.iconst 0, 1) := by decide +kernel
theorem dl_264 : decode code 264 = .ok (.ireturn, 1) := by decide +kernel
theorem dl_265 : decode code 265 = .ok (.aload_n 1, 1) := by decide +kernel
theorem dl_266 : decode code 266 = .ok (.aload_n 0, 1) := by decide +kernel
theorem dl_267 : decode code 267 = .ok (.iload_n 3, 1) := by decide +kernel
theorem dl_268 : decode code 268 = .ok (.iconst 1, 1) := by decide +kernel
theorem dl_269 : decode code 269 = .ok (.iadd, 1) := by decide +kernel
theorem dl_270 : decode code 270 = .ok (.iaload, 1) := by decide +kernel
theorem dl_271 : decode code 271 = .ok (.aload_n 0, 1) := by decide +kernel
theorem dl_272 : decode code 272 = .ok (.iload_n 3, 1) := by decide +kernel
theorem dl_273 : decode code 273 = .ok (.iconst 2, 1) := by decide +kernel
theorem dl_274 : decode code 274 = .ok (.iadd, 1) := by decide +kernel
theorem dl_275 : decode code 275 = .ok (.iaload, 1) := by decide +kernel
theorem dl_276 : decode code 276 = .ok (.aload_n 0, 1) := by decide +kernel
theorem dl_277 : decode code 277 = .ok (.iload_n 3, 1) := by decide +kernel
theorem dl_278 : decode code 278 = .ok (.iconst 3, 1) := by decide +kernel
theorem dl_279 : decode code 279 = .ok (.iadd, 1) := by decide +kernel
theorem dl_280 : decode code 280 = .ok (.iaload, 1) := by decide +kernel
theorem dl_281 : decode code 281 = .ok (.invokevirtual 27, 3) := by decide +kernel
theorem dl_284 : decode code 284 = .ok (.aload_n 2, 1) := by decide +kernel
theorem dl_285 : decode code 285 = .ok (.aload_n 0, 1) := by decide +kernel
theorem dl_286 : decode code 286 = .ok (.iload_n 3, 1) := by decide +kernel
theorem dl_287 : decode code 287 = .ok (.iconst 1, 1) := by decide +kernel
theorem dl_288 : decode code 288 = .ok (.iadd, 1) := by decide +kernel
theorem dl_289 : decode code 289 = .ok (.iaload, 1) := by decide +kernel
theorem dl_290 : decode code 290 = .ok (.aload_n 0, 1) := by decide +kernel
theorem dl_291 : decode code 291 = .ok (.iload_n 3, 1) := by decide +kernel
theorem dl_292 : decode code 292 = .ok (.iconst 2, 1) := by decide +kernel
theorem dl_293 : decode code 293 = .ok (.iadd, 1) := by decide +kernel
theorem dl_294 : decode code 294 = .ok (.iaload, 1) := by decide +kernel
theorem dl_295 : decode code 295 = .ok (.aload_n 0, 1) := by decide +kernel
theorem dl_296 : decode code 296 = .ok (.iload_n 3, 1) := by decide +kernel
theorem dl_297 : decode code 297 = .ok (.iconst 3, 1) := by decide +kernel
theorem dl_298 : decode code 298 = .ok (.iadd, 1) := by decide +kernel
theorem dl_299 : decode code 299 = .ok (.iaload, 1) := by decide +kernel
theorem dl_300 : decode code 300 = .ok (.invokevirtual 30, 3) := by decide +kernel
theorem dl_303 : decode code 303 = .ok (.if_icmp .eq 1181, 3) := by decide +kernel
theorem dl_306 : decode code 306 = .ok (.iconst 0, 1) := by decide +kernel
theorem dl_307 : decode code 307 = .ok (.ireturn, 1) := by decide +kernel
theorem dl_308 : decode code 308 = .ok (.aload_n 1, 1) := by decide +kernel
theorem dl_309 : decode code 309 = .ok (.aload_n 0, 1) := by decide +kernel
theorem dl_310 : decode code 310 = .ok (.iload_n 3, 1) := by decide +kernel
theorem dl_311 : decode code 311 = .ok (.iconst 1, 1) := by decide +kernel
theorem dl_312 : decode code 312 = .ok (.iadd, 1) := by decide +kernel
theorem dl_313 : decode code 313 = .ok (.iaload, 1) := by decide +kernel
theorem dl_314 : decode code 314 = .ok (.aload_n 0, 1) := by decide +kernel
theorem dl_315 : decode code 315 = .ok (.iload_n 3, 1) := by decide +kernel
theorem dl_316 : decode code 316 = .ok (.iconst 2, 1) := by decide +kernel
theorem dl_317 : decode code 317 = .ok (.iadd, 1) := by decide +kernel
theorem dl_318 : decode code 318 = .ok (.iaload, 1) := by decide +kernel
theorem dl_319 : decode code 319 = .ok (.aload_n 0, 1) := by decide +kernel
theorem dl_320 : decode code 320 = .ok (.iload_n 3, 1) := by decide +kernel
theorem dl_321 : decode code 321 = .ok (.iconst 3, 1) := by decide +kernel
theorem dl_322 : decode code 322 = .ok (.iadd, 1) := by decide +kernel
theorem dl_323 : decode code 323 = .ok (.iaload, 1) := by decide +kernel
theorem dl_324 : decode code 324 = .ok (.aload_n 0, 1) := by decide +kernel
theorem dl_325 : decode code 325 = .ok (.iload_n 3, 1) := by decide +kernel
theorem dl_326 : decode code 326 = .ok (.iconst 4, 1) := by decide +kernel
theorem dl_327 : decode code 327 = .ok (.iadd, 1) := by decide +kernel
theorem dl_328 : decode code 328 = .ok (.iaload, 1) := by decide +kernel
theorem dl_329 : decode code 329 = .ok (.aload_n 0, 1) := by decide +kernel
theorem dl_330 : decode code 330 = .ok (.iload_n 3, 1) := by decide +kernel
theorem dl_331 : decode code 331 = .ok (.iconst 5, 1) := by decide +kernel
theorem dl_332 : decode code 332 = .ok (.iadd, 1) := by decide +kernel
theorem dl_333 : decode code 333 = .ok (.iaload, 1) := by decide +kernel
theorem dl_334 : decode code 334 = .ok (.aload_n 0, 1) := by decide +kernel
theorem dl_335 : decode code 335 = .ok (.iload_n 3, 1) := by decide +kernel
theorem dl_336 : decode code 336 = .ok (.bipush 6, 2) := by decide +kernel
theorem dl_338 : decode code 338 = .ok (.iadd, 1) := by decide +kernel
theorem dl_339 : decode code 339 = .ok (.iaload, 1) := by decide +kernel
theorem dl_340 : decode code 340 = .ok (.invokevirtual 31, 3) := by decide +kernel
theorem dl_343 : decode code 343 = .ok (.aload_n 2, 1) := by decide +kernel
theorem dl_344 : decode code 344 = .ok (.aload_n 0, 1) := by decide +kernel
theorem dl_345 : decode code 345 = .ok (.iload_n 3, 1) := by decide +kernel
theorem dl_346 : decode code 346 = .ok (.iconst 1, 1) := by decide +kernel
theorem dl_347 : decode code 347 = .ok (.iadd, 1) := by decide +kernel
theorem dl_348 : decode code 348 = .ok (.iaload, 1) := by decide +kernel
theorem dl_349 : decode code 349 = .ok (.aload_n 0, 1) := by decide +kernel
theorem dl_350 : decode code 350 = .ok (.iload_n 3, 1) := by decide +kernel
theorem dl_351 : decode code 351 = .ok (.iconst 2, 1) := by decide +kernel
theorem dl_352 : decode code 352 = .ok (.iadd, 1) := by decide +kernel
theorem dl_353 : decode code 353 = .ok (.iaload, 1) := by decide +kernel
theorem dl_354 : decode code 354 = .ok (.aload_n 0, 1) := by decide +kernel
theorem dl_355 : decode code 355 = .ok (.iload_n 3, 1) := by decide +kernel
theorem dl_356 : decode code 356 = .ok (.iconst 3, 1) := by decide +kernel
theorem dl_357 : decode code 357 = .ok (.iadd, 1) := by decide +kernel
theorem dl_358 : decode code 358 = .ok (.iaload, 1) := by decide +kernel
theorem dl_359 : decode code 359 = .ok (.aload_n 0, 1) := by decide +kernel
theorem dl_360 : decode code 360 = .ok (.iload_n 3, 1) := by decide +kernel
theorem dl_361 : decode code 361 = .ok (.iconst 4, 1) := by decide +kernel
theorem dl_362 : decode code 362 = .ok (.iadd, 1) := by decide +kernel
theorem dl_363 : decode code 363 = .ok (.iaload, 1) := by decide +kernel
theorem dl_364 : decode code 364 = .ok (.aload_n 0, 1) := by decide +kernel
theorem dl_365 : decode code 365 = .ok (.iload_n 3, 1) := by decide +kernel
theorem dl_366 : decode code 366 = .ok (.iconst 5, 1) := by decide +kernel
theorem dl_367 : decode code 367 = .ok (.iadd, 1) := by decide +kernel
theorem dl_368 : decode code 368 = .ok (.iaload, 1) := by decide +kernel
theorem dl_369 : decode code 369 = .ok (.aload_n 0, 1) := by decide +kernel
theorem dl_370 : decode code 370 = .ok (.iload_n 3, 1) := by decide +kernel
theorem dl_371 : decode code 371 = .ok (.bipush 6, 2) := by decide +kernel
theorem dl_373 : decode code 373 = .ok (.iadd, 1) := by decide +kernel
theorem dl_374 : decode code 374 = .ok (.iaload, 1) := by decide +kernel
theorem dl_375 : decode code 375 = .ok (.invokevirtual 35, 3) := by decide +kernel
theorem dl_378 : decode code 378 = .ok (.if_icmp .eq 1106, 3) := by decide +kernel
theorem dl_381 : decode code 381 = .ok (.iconst 0, 1) := by decide +kernel
theorem dl_382 : decode code 382 = .ok (.ireturn, 1) := by decide +kernel
theorem dl_383 : decode code 383 = .ok (.aload_n 1, 1) := by decide +kernel
theorem dl_384 : decode code 384 = .ok (.aload_n 0, 1) := by decide +kernel
theorem dl_385 : decode code 385 = .ok (.iload_n 3, 1) := by decide +kernel
theorem dl_386 : decode code 386 = .ok (.iconst 1, 1) := by decide +kernel
theorem dl_387 : decode code 387 = .ok (.iadd, 1) := by decide +kernel
theorem dl_388 : decode code 388 = .ok (.iaload, 1) := by decide +kernel
theorem dl_389 : decode code 389 = .ok (.aload_n 0, 1) := by decide +kernel
theorem dl_390 : decode code 390 = .ok (.iload_n 3, 1) := by decide +kernel
theorem dl_391 : decode code 391 = .ok (.iconst 2, 1) := by decide +kernel
theorem dl_392 : decode code 392 = .ok (.iadd, 1) := by decide +kernel
theorem dl_393 : decode code 393 = .ok (.iaload, 1) := by decide +kernel
theorem dl_394 : decode code 394 = .ok (.invokevirtual 36, 3) := by decide +kernel
theorem dl_397 : decode code 397 = .ok (.aload_n 2, 1) := by decide +kernel
theorem dl_398 : decode code 398 = .ok (.aload_n 0, 1) := by decide +kernel
theorem dl_399 : decode code 399 = .ok (.iload_n 3, 1) := by decide +kernel
theorem dl_400 : decode code 400 = .ok (.iconst 1, 1) := by decide +kernel
theorem dl_401 : decode code 401 = .ok (.iadd, 1) := by decide +kernel
theorem dl_402 : decode code 402 = .ok (.iaload, 1) := by decide +kernel
theorem dl_403 : decode code 403 = .ok (.aload_n 0, 1) := by decide +kernel
theorem dl_404 : decode code 404 = .ok (.iload_n 3, 1) := by decide +kernel
theorem dl_405 : decode code 405 = .ok (.iconst 2, 1) := by decide +kernel
theorem dl_406 : decode code 406 = .ok (.iadd, 1) := by decide +kernel
theorem dl_407 : decode code 407 = .ok (.iaload, 1) := by decide +kernel
theorem dl_408 : decode code 408 = .ok (.invokevirtual 40, 3) := by decide +kernel
theorem dl_411 : decode code 411 = .ok (.if_icmp .eq 1073, 3) := by decide +kernel
theorem dl_414 : decode code 414 = .ok (.iconst 0, 1) := by decide +kernel
theorem dl_415 : decode code 415 = .ok (.ireturn, 1) := by decide +kernel
theorem dl_416 : decode code 416 = .ok (.aload_n 1, 1) := by decide +kernel
theorem dl_417 : decode code 417 = .ok (.aload_n 0, 1) := by decide +kernel
theorem dl_418 : decode code 418 = .ok (.iload_n 3, 1) := by decide +kernel
theorem dl_419 : decode code 419 = .ok (.iconst 1, 1) := by decide +kernel
theorem dl_420 : decode code 420 = .ok (.iadd, 1) := by decide +kernel
theorem dl_421 : decode code 421 = .ok (.iaload, 1) := by decide +kernel
theorem dl_422 : decode code 422 = .ok (.aload_n 0, 1) := by decide +kernel
theorem dl_423 : decode code 423 = .ok (.iload_n 3, 1) := by decide +kernel
theorem dl_424 : decode code 424 = .ok (.iconst 2, 1) := by decide +kernel
theorem dl_425 : decode code 425 = .ok (.iadd, 1) := by decide +kernel
theorem dl_426 : decode code 426 = .ok (.iaload, 1) := by decide +kernel
theorem dl_427 : decode code 427 = .ok (.invokevirtual 41, 3) := by decide +kernel
theorem dl_430 : decode code 430 = .ok (.aload_n 2, 1) := by decide +kernel
theorem dl_431 : decode code 431 = .ok (.aload_n 0, 1) := by decide +kernel
theorem dl_432 : decode code 432 = .ok (.iload_n 3, 1) := by decide +kernel
theorem dl_433 : decode code 433 = .ok (.iconst 1, 1) := by decide +kernel
theorem dl_434 : decode code 434 = .ok (.iadd, 1) := by decide +kernel
theorem dl_435 : decode code 435 = .ok (.iaload, 1) := by decide +kernel
theorem dl_436 : decode code 436 = .ok (.aload_n 0, 1) := by decide +kernel
theorem dl_437 : decode code 437 = .ok (.iload_n 3, 1) := by decide +kernel
theorem dl_438 : decode code 438 = .ok (.iconst 2, 1) := by decide +kernel
theorem dl_439 : decode code 439 = .ok (.iadd, 1) := by decide +kernel
theorem dl_440 : decode code 440 = .ok (.iaload, 1) := by decide +kernel
theorem dl_441 : decode code 441 = .ok (.invokevirtual 44, 3) := by decide +kernel
theorem dl_444 : decode code 444 = .ok (.if_icmp .eq 1040, 3) := by decide +kernel
theorem dl_447 : decode code 447 = .ok (.iconst 0, 1) := by decide +kernel
theorem dl_448 : decode code 448 = .ok (.ireturn, 1) := by decide +kernel
theorem dl_449 : decode code 449 = .ok (.aload_n 1, 1) := by decide +kernel
theorem dl_450 : decode code 450 = .ok (.aload_n 0, 1) := by decide +kernel
theorem dl_451 : decode code 451 = .ok (.iload_n 3, 1) := by decide +kernel
theorem dl_452 : decode code 452 = .ok (.iconst 1, 1) := by decide +kernel
theorem dl_453 : decode code 453 = .ok (.iadd, 1) := by decide +kernel
theorem dl_454 : decode code 454 = .ok (.iaload, 1) := by decide +kernel
theorem dl_455 : decode code 455 = .ok (.aload_n 0, 1) := by decide +kernel
theorem dl_456 : decode code 456 = .ok (.iload_n 3, 1) := by decide +kernel
theorem dl_457 : decode code 457 = .ok (.iconst 2, 1) := by decide +kernel
theorem dl_458 : decode code 458 = .ok (.iadd, 1) := by decide +kernel
theorem dl_459 : decode code 459 = .ok (.iaload, 1) := by decide +kernel
theorem dl_460 : decode code 460 = .ok (.aload_n 0, 1) := by decide +kernel
theorem dl_461 : decode code 461 = .ok (.iload_n 3, 1) := by decide +kernel
theorem dl_462 : decode code 462 = .ok (.iconst 3, 1) := by decide +kernel
theorem dl_463 : decode code 463 = .ok (.iadd, 1) := by decide +kernel
theorem dl_464 : decode code 464 = .ok (.iaload, 1) := by decide +kernel
theorem dl_465 : decode code 465 = .ok (.invokevirtual 45, 3) := by decide +kernel
theorem dl_468 : decode code 468 = .ok (.aload_n 2, 1) := by decide +kernel
theorem dl_469 : decode code 469 = .ok (.aload_n 0, 1) := by decide +kernel
theorem dl_470 : decode code 470 = .ok (.iload_n 3, 1) := by decide +kernel
theorem dl_471 : decode code 471 = .ok (.iconst 1, 1) := by decide +kernel
theorem dl_472 : decode code 472 = .ok (.iadd, 1) := by decide +kernel
theorem dl_473 : decode code 473 = .ok (.iaload, 1) := by decide +kernel
theorem dl_474 : decode code 474 = .ok (.aload_n 0, 1) := by decide +kernel
theorem dl_475 : decode code 475 = .ok (.iload_n 3, 1) := by decide +kernel
theorem dl_476 : decode code 476 = .ok (.iconst 2, 1) := by decide +kernel
theorem dl_477 : decode code 477 = .ok (.iadd, 1) := by decide +kernel
theorem dl_478 : decode code 478 = .ok (.iaload, 1) := by decide +kernel
theorem dl_479 : decode code 479 = .ok (.aload_n 0, 1) := by decide +kernel
theorem dl_480 : decode code 480 = .ok (.iload_n 3, 1) := by decide +kernel
theorem dl_481 : decode code 481 = .ok (.iconst 3, 1) := by decide +kernel
theorem dl_482 : decode code 482 = .ok (.iadd, 1) := by decide +kernel
theorem dl_483 : decode code 483 = .ok (.iaload, 1) := by decide +kernel
theorem dl_484 : decode code 484 = .ok (.invokevirtual 48, 3) := by decide +kernel
theorem dl_487 : decode code 487 = .ok (.if_icmp .eq 997, 3) := by decide +kernel
theorem dl_490 : decode code 490 = .ok (.iconst 0, 1) := by decide +kernel
theorem dl_491 : decode code 491 = .ok (.ireturn, 1) := by decide +kernel
theorem dl_492 : decode code 492 = .ok (.aload_n 1, 1) := by decide +kernel
theorem dl_493 : decode code 493 = .ok (.aload_n 0, 1) := by decide +kernel
theorem dl_494 : decode code 494 = .ok (.iload_n 3, 1) := by decide +kernel
theorem dl_495 : decode code 495 = .ok (.iconst 1, 1) := by decide +kernel
theorem dl_496 : decode code 496 = .ok (.iadd, 1) := by decide +kernel
theorem dl_497 : decode code 497 = .ok (.iaload, 1) := by decide +kernel
theorem dl_498 : decode code 498 = .ok (.invokevirtual 49, 3) := by decide +kernel
theorem dl_501 : decode code 501 = .ok (.aload_n 2, 1) := by decide +kernel
theorem dl_502 : decode code 502 = .ok (.aload_n 0, 1) := by decide +kernel
theorem dl_503 : decode code 503 = .ok (.iload_n 3, 1) := by decide +kernel
theorem dl_504 : decode code 504 = .ok (.iconst 1, 1) := by decide +kernel
theorem dl_505 : decode code 505 = .ok (.iadd, 1) := by decide +kernel
theorem dl_506 : decode code 506 = .ok (.iaload, 1) := by decide +kernel
theorem dl_507 : decode code 507 = .ok (.invokevirtual 52, 3) := by decide +kernel
theorem dl_510 : decode code 510 = .ok (.if_icmp .eq 974, 3) := by decide +kernel
theorem dl_513 : decode code 513 = .ok (.iconst 0, 1) := by decide +kernel
theorem dl_514 : decode code 514 = .ok (.ireturn, 1) := by decide +kernel
theorem dl_515 : decode code 515 = .ok (.aload_n 1, 1) := by decide +kernel
theorem dl_516 : decode code 516 = .ok (.aload_n 0, 1) := by decide +kernel
theorem dl_517 : decode code 517 = .ok (.iload_n 3, 1) := by decide +kernel
theorem dl_518 : decode code 518 = .ok (.iconst 1, 1) := by decide +kernel
theorem dl_519 : decode code 519 = .ok (.iadd, 1) := by decide +kernel
theorem dl_520 : decode code 520 = .ok (.iaload, 1) := by decide +kernel
theorem dl_521 : decode code 521 = .ok (.aload_n 0, 1) := by decide +kernel
theorem dl_522 : decode code 522 = .ok (.iload_n 3, 1) := by decide +kernel
theorem dl_523 : decode code 523 = .ok (.iconst 2, 1) := by decide +kernel
theorem dl_524 : decode code 524 = .ok (.iadd, 1) := by decide +kernel
theorem dl_525 : decode code 525 = .ok (.iaload, 1) := by decide +kernel
theorem dl_526 : decode code 526 = .ok (.i2l, 1) := by decide +kernel
theorem dl_527 : decode code 527 = .ok (.bipush 32, 2) := by decide +kernel
theorem dl_529 : decode code 529 = .ok (.lshl, 1) := by decide +kernel
theorem dl_530 : decode code 530 = .ok (.aload_n 0, 1) := by decide +kernel
theorem dl_531 : decode code 531 = .ok (.iload_n 3, 1) := by decide +kernel
theorem dl_532 : decode code 532 = .ok (.iconst 3, 1) := by decide +kernel
theorem dl_533 : decode code 533 = .ok (.iadd, 1) := by decide +kernel
theorem dl_534 : decode code 534 = .ok (.iaload, 1) := by decide +kernel
theorem dl_535 : decode code 535 = .ok (.i2l, 1) := by decide +kernel
theorem dl_536 : decode code 536 = .ok (.ldc2_w 53, 3) := by decide +kernel
theorem dl_539 : decode code 539 = .ok (.land, 1) := by decide +kernel
theorem dl_540 : decode code 540 = .ok (.lor, 1) := by decide +kernel
theorem dl_541 : decode code 541 = .ok (.invokevirtual 55, 3) := by decide +kernel
theorem dl_544 : decode code 544 = .ok (.aload_n 2, 1) := by decide +kernel
theorem dl_545 : decode code 545 = .ok (.aload_n 0, 1) := by decide +kernel
theorem dl_546 : decode code 546 = .ok (.iload_n 3, 1) := by decide +kernel
theorem dl_547 : decode code 547 = .ok (.iconst 1, 1) := by decide +kernel
theorem dl_548 : decode code 548 = .ok (.iadd, 1) := by decide +kernel
theorem dl_549 : decode code 549 = .ok (.iaload, 1) := by decide +kernel
theorem dl_550 : decode code 550 = .ok (.aload_n 0, 1) := by decide +kernel
theorem dl_551 : decode code 551 = .ok (.iload_n 3, 1) := by decide +kernel
theorem dl_552 : decode code 552 = .ok (.iconst 2, 1) := by decide +kernel
theorem dl_553 : decode code 553 = .ok (.iadd, 1) := by decide +kernel
theorem dl_554 : decode code 554 = .ok (.iaload, 1) := by decide +kernel
theorem dl_555 : decode code 555 = .ok (.i2l, 1) := by decide +kernel
theorem dl_556 : decode code 556 = .ok (.bipush 32, 2) := by decide +kernel
theorem dl_558 : decode code 558 = .ok (.lshl, 1) := by decide +kernel
theorem dl_559 : decode code 559 = .ok (.aload_n 0, 1) := by decide +kernel
theorem dl_560 : decode code 560 = .ok (.iload_n 3, 1) := by decide +kernel
theorem dl_561 : decode code 561 = .ok (.iconst 3, 1) := by decide +kernel
theorem dl_562 : decode code 562 = .ok (.iadd, 1) := by decide +kernel
theorem dl_563 : decode code 563 = .ok (.iaload, 1) := by decide +kernel
theorem dl_564 : decode code 564 = .ok (.i2l, 1) := by decide +kernel
theorem dl_565 : decode code 565 = .ok (.ldc2_w 53, 3) := by decide +kernel
theorem dl_568 : decode code 568 = .ok (.land, 1) := by decide +kernel
theorem dl_569 : decode code 569 = .ok (.lor, 1) := by decide +kernel
theorem dl_570 : decode code 570 = .ok (.invokevirtual 59, 3) := by decide +kernel
theorem dl_573 : decode code 573 = .ok (.if_icmp .eq 911, 3) := by decide +kernel
theorem dl_576 : decode code 576 = .ok (.iconst 0, 1) := by decide +kernel
theorem dl_577 : decode code 577 = .ok (.ireturn, 1) := by decide +kernel
theorem dl_578 : decode code 578 = .ok (.aload_n 1, 1) := by decide +kernel
theorem dl_579 : decode code 579 = .ok (.aload_n 0, 1) := by decide +kernel
theorem dl_580 : decode code 580 = .ok (.iload_n 3, 1) := by decide +kernel
theorem dl_581 : decode code 581 = .ok (.iconst 1, 1) := by decide +kernel
theorem dl_582 : decode code 582 = .ok (.iadd, 1) := by decide +kernel
theorem dl_583 : decode code 583 = .ok (.iaload, 1) := by decide +kernel
theorem dl_584 : decode code 584 = .ok (.invokevirtual 60, 3) := by decide +kernel
theorem dl_587 : decode code 587 = .ok (.aload_n 2, 1) := by decide +kernel
theorem dl_588 : decode code 588 = .ok (.aload_n 0, 1) := by decide +kernel
theorem dl_589 : decode code 589 = .ok (.iload_n 3, 1) := by decide +kernel
theorem dl_590 : decode code 590 = .ok (.iconst 1, 1) := by decide +kernel
theorem dl_591 : decode code 591 = .ok (.iadd, 1) := by decide +kernel
theorem dl_592 : decode code 592 = .ok (.iaload, 1) := by decide +kernel
theorem dl_593 : decode code 593 = .ok (.invokevirtual 63, 3) := by decide +kernel
theorem dl_596 : decode code 596 = .ok (.if_icmp .eq 888, 3) := by decide +kernel
theorem dl_599 : decode code 599 = .ok (.iconst 0, 1) := by decide +kernel
theorem dl_600 : decode code 600 = .ok (.ireturn, 1) := by decide +kernel
theorem dl_601 : decode code 601 = .ok (.aload_n 1, 1) := by decide +kernel
theorem dl_602 : decode code 602 = .ok (.invokevirtual 64, 3) := by decide +kernel
theorem dl_605 : decode code 605 = .ok (.aload_n 2, 1) := by decide +kernel
theorem dl_606 : decode code 606 = .ok (.invokevirtual 68, 3) := by decide +kernel
theorem dl_609 : decode code 609 = .ok (.if_icmp .eq 875, 3) := by decide +kernel
theorem dl_612 : decode code 612 = .ok (.iconst 0, 1) := by decide +kernel
theorem dl_613 : decode code 613 = .ok (.ireturn, 1) := by decide +kernel
theorem dl_614 : decode code 614 = .ok (.aload_n 1, 1) := by decide +kernel
theorem dl_615 : decode code 615 = .ok (.aload_n 0, 1) := by decide +kernel
theorem dl_616 : decode code 616 = .ok (.iload_n 3, 1) := by decide +kernel
theorem dl_617 : decode code 617 = .ok (.iconst 1, 1) := by decide +kernel
theorem dl_618 : decode code 618 = .ok (.iadd, 1) := by decide +kernel
theorem dl_619 : decode code 619 = .ok (.iaload, 1) := by decide +kernel
theorem dl_620 : decode code 620 = .ok (.aload_n 0, 1) := by decide +kernel
theorem dl_621 : decode code 621 = .ok (.iload_n 3, 1) := by decide +kernel
theorem dl_622 : decode code 622 = .ok (.iconst 2, 1) := by decide +kernel
theorem dl_623 : decode code 623 = .ok (.iadd, 1) := by decide +kernel
theorem dl_624 : decode code 624 = .ok (.iaload, 1) := by decide +kernel
theorem dl_625 : decode code 625 = .ok (.aload_n 0, 1) := by decide +kernel
theorem dl_626 : decode code 626 = .ok (.iload_n 3, 1) := by decide +kernel
theorem dl_627 : decode code 627 = .ok (.iconst 3, 1) := by decide +kernel
theorem dl_628 : decode code 628 = .ok (.iadd, 1) := by decide +kernel
theorem dl_629 : decode code 629 = .ok (.iaload, 1) := by decide +kernel
theorem dl_630 : decode code 630 = .ok (.invokevirtual 69, 3) := by decide +kernel
theorem dl_633 : decode code 633 = .ok (.aload_n 2, 1) := by decide +kernel
theorem dl_634 : decode code 634 = .ok (.aload_n 0, 1) := by decide +kernel
theorem dl_635 : decode code 635 = .ok (.iload_n 3, 1) := by decide +kernel
theorem dl_636 : decode code 636 = .ok (.iconst 1, 1) := by decide +kernel
theorem dl_637 : decode code 637 = .ok (.iadd, 1) := by decide +kernel
theorem dl_638 : decode code 638 = .ok (.iaload, 1) := by decide +kernel
theorem dl_639 : decode code 639 = .ok (.aload_n 0, 1) := by decide +kernel
theorem dl_640 : decode code 640 = .ok (.iload_n 3, 1) := by decide +kernel
theorem dl_641 : decode code 641 = .ok (.iconst 2, 1) := by decide +kernel
theorem dl_642 : decode code 642 = .ok (.iadd, 1) := by decide +kernel
theorem dl_643 : decode code 643 = .ok (.iaload, 1) := by decide +kernel
theorem dl_644 : decode code 644 = .ok (.aload_n 0, 1) := by decide +kernel
theorem dl_645 : decode code 645 = .ok (.iload_n 3, 1) := by decide +kernel
theorem dl_646 : decode code 646 = .ok (.iconst 3, 1) := by decide +kernel
theorem dl_647 : decode code 647 = .ok (.iadd, 1) := by decide +kernel
theorem dl_648 : decode code 648 = .ok (.iaload, 1) := by decide +kernel
theorem dl_649 : decode code 649 = .ok (.invokevirtual 72, 3) := by decide +kernel
theorem dl_652 : decode code 652 = .ok (.if_icmp .eq 832, 3) := by decide +kernel
theorem dl_655 : decode code 655 = .ok (.iconst 0, 1) := by decide +kernel
theorem dl_656 : decode code 656 = .ok (.ireturn, 1) := by decide +kernel
theorem dl_657 : decode code 657 = .ok (.aload_n 1, 1) := by decide +kernel
theorem dl_658 : decode code 658 = .ok (.aload_n 0, 1) := by decide +kernel
theorem dl_659 : decode code 659 = .ok (.iload_n 3, 1) := by decide +kernel
theorem dl_660 : decode code 660 = .ok (.iconst 1, 1) := by decide +kernel
theorem dl_661 : decode code 661 = .ok (.iadd, 1) := by decide +kernel
theorem dl_662 : decode code 662 = .ok (.iaload, 1) := by decide +kernel
theorem dl_663 : decode code 663 = .ok (.aload_n 0, 1) := by decide +kernel
theorem dl_664 : decode code 664 = .ok (.iload_n 3, 1) := by decide +kernel
theorem dl_665 : decode code 665 = .ok (.iconst 2, 1) := by decide +kernel
theorem dl_666 : decode code 666 = .ok (.iadd, 1) := by decide +kernel
theorem dl_667 : decode code 667 = .ok (.iaload, 1) := by decide +kernel
theorem dl_668 : decode code 668 = .ok (.invokevirtual 73, 3) := by decide +kernel
theorem dl_671 : decode code 671 = .ok (.aload_n 2, 1) := by decide +kernel
theorem dl_672 : decode code 672 = .ok (.aload_n 0, 1) := by decide +kernel
theorem dl_673 : decode code 673 = .ok (.iload_n 3, 1) := by decide +kernel
theorem dl_674 : decode code 674 = .ok (.iconst 1, 1) := by decide +kernel
theorem dl_675 : decode code 675 = .ok (.iadd, 1) := by decide +kernel
theorem dl_676 : decode code 676 = .ok (.iaload, 1) := by decide +kernel
theorem dl_677 : decode code 677 = .ok (.aload_n 0, 1) := by decide +kernel
theorem dl_678 : decode code 678 = .ok (.iload_n 3, 1) := by decide +kernel
theorem dl_679 : decode code 679 = .ok (.iconst 2, 1) := by decide +kernel
theorem dl_680 : decode code 680 = .ok (.iadd, 1) := by decide +kernel
theorem dl_681 : decode code 681 = .ok (.iaload, 1) := by decide +kernel
theorem dl_682 : decode code 682 = .ok (.invokevirtual 76, 3) := by decide +kernel
theorem dl_685 : decode code 685 = .ok (.if_icmp .eq 799, 3) := by decide +kernel
theorem dl_688 : decode code 688 = .ok (.iconst 0, 1) := by decide +kernel
theorem dl_689 : decode code 689 = .ok (.ireturn, 1) := by decide +kernel
theorem dl_690 : decode code 690 = .ok (.aload_n 1, 1) := by decide +kernel
theorem dl_691 : decode code 691 = .ok (.aload_n 0, 1) := by decide +kernel
theorem dl_692 : decode code 692 = .ok (.iload_n 3, 1) := by decide +kernel
theorem dl_693 : decode code 693 = .ok (.iconst 1, 1) := by decide +kernel
theorem dl_694 : decode code 694 = .ok (.iadd, 1) := by decide +kernel
theorem dl_695 : decode code 695 = .ok (.iaload, 1) := by decide +kernel
theorem dl_696 : decode code 696 = .ok (.aload_n 0, 1) := by decide +kernel
theorem dl_697 : decode code 697 = .ok (.iload_n 3, 1) := by decide +kernel
theorem dl_698 : decode code 698 = .ok (.iconst 2, 1) := by decide +kernel
theorem dl_699 : decode code 699 = .ok (.iadd, 1) := by decide +kernel
theorem dl_700 : decode code 700 = .ok (.iaload, 1) := by decide +kernel
theorem dl_701 : decode code 701 = .ok (.aload_n 0, 1) := by decide +kernel
theorem dl_702 : decode code 702 = .ok (.iload_n 3, 1) := by decide +kernel
theorem dl_703 : decode code 703 = .ok (.iconst 3, 1) := by decide +kernel
theorem dl_704 : decode code 704 = .ok (.iadd, 1) := by decide +kernel
theorem dl_705 : decode code 705 = .ok (.iaload, 1) := by decide +kernel
theorem dl_706 : decode code 706 = .ok (.aload_n 0, 1) := by decide +kernel
theorem dl_707 : decode code 707 = .ok (.iload_n 3, 1) := by decide +kernel
theorem dl_708 : decode code 708 = .ok (.iconst 4, 1) := by decide +kernel
theorem dl_709 : decode code 709 = .ok (.iadd, 1) := by decide +kernel
theorem dl_710 : decode code 710 = .ok (.iaload, 1) := by decide +kernel
theorem dl_711 : decode code 711 = .ok (.invokevirtual 77, 3) := by decide +kernel
theorem dl_714 : decode code 714 = .ok (.aload_n 2, 1) := by decide +kernel
theorem dl_715 : decode code 715 = .ok (.aload_n 0, 1) := by decide +kernel
theorem dl_716 : decode code 716 = .ok (.iload_n 3, 1) := by decide +kernel
theorem dl_717 : decode code 717 = .ok (.iconst 1, 1) := by decide +kernel
theorem dl_718 : decode code 718 = .ok (.iadd, 1) := by decide +kernel
theorem dl_719 : decode code 719 = .ok (.iaload, 1) := by decide +kernel
theorem dl_720 : decode code 720 = .ok (.aload_n 0, 1) := by decide +kernel
theorem dl_721 : decode code 721 = .ok (.iload_n 3, 1) := by decide +kernel
theorem dl_722 : decode code 722 = .ok (.iconst 2, 1) := by decide +kernel
theorem dl_723 : decode code 723 = .ok (.iadd, 1) := by decide +kernel
theorem dl_724 : decode code 724 = .ok (.iaload, 1) := by decide +kernel
theorem dl_725 : decode code 725 = .ok (.aload_n 0, 1) := by decide +kernel
theorem dl_726 : decode code 726 = .ok (.iload_n 3, 1) := by decide +kernel
theorem dl_727 : decode code 727 = .ok (.iconst 3, 1) := by decide +kernel
theorem dl_728 : decode code 728 = .ok (.iadd, 1) := by decide +kernel
theorem dl_729 : decode code 729 = .ok (.iaload, 1) := by decide +kernel
theorem dl_730 : decode code 730 = .ok (.aload_n 0, 1) := by decide +kernel
theorem dl_731 : decode code 731 = .ok (.iload_n 3, 1) := by decide +kernel
theorem dl_732 : decode code 732 = .ok (.iconst 4, 1) := by decide +kernel
theorem dl_733 : decode code 733 = .ok (.iadd, 1) := by decide +kernel
theorem dl_734 : decode code 734 = .ok (.iaload, 1) := by decide +kernel
theorem dl_735 : decode code 735 = .ok (.invokevirtual 81, 3) := by decide +kernel
theorem dl_738 : decode code 738 = .ok (.if_icmp .eq 746, 3) := by decide +kernel
theorem dl_741 : decode code 741 = .ok (.iconst 0, 1) := by decide +kernel
theorem dl_742 : decode code 742 = .ok (.ireturn, 1) := by decide +kernel
theorem dl_743 : decode code 743 = .ok (.aload_n 1, 1) := by decide +kernel
theorem dl_744 : decode code 744 = .ok (.aload_n 0, 1) := by decide +kernel
theorem dl_745 : decode code 745 = .ok (.iload_n 3, 1) := by decide +kernel
theorem dl_746 : decode code 746 = .ok (.iconst 1, 1) := by decide +kernel
theorem dl_747 : decode code 747 = .ok (.iadd, 1) := by decide +kernel
theorem dl_748 : decode code 748 = .ok (.iaload, 1) := by decide +kernel
theorem dl_749 : decode code 749 = .ok (.aload_n 0, 1) := by decide +kernel
theorem dl_750 : decode code 750 = .ok (.iload_n 3, 1) := by decide +kernel
theorem dl_751 : decode code 751 = .ok (.iconst 2, 1) := by decide +kernel
theorem dl_752 : decode code 752 = .ok (.iadd, 1) := by decide +kernel
theorem dl_753 : decode code 753 = .ok (.iaload, 1) := by decide +kernel
theorem dl_754 : decode code 754 = .ok (.aload_n 0, 1) := by decide +kernel
theorem dl_755 : decode code 755 = .ok (.iload_n 3, 1) := by decide +kernel
theorem dl_756 : decode code 756 = .ok (.iconst 3, 1) := by decide +kernel
theorem dl_757 : decode code 757 = .ok (.iadd, 1) := by decide +kernel
theorem dl_758 : decode code 758 = .ok (.iaload, 1) := by decide +kernel
theorem dl_759 : decode code 759 = .ok (.aload_n 0, 1) := by decide +kernel
theorem dl_760 : decode code 760 = .ok (.iload_n 3, 1) := by decide +kernel
theorem dl_761 : decode code 761 = .ok (.iconst 4, 1) := by decide +kernel
theorem dl_762 : decode code 762 = .ok (.iadd, 1) := by decide +kernel
theorem dl_763 : decode code 763 = .ok (.iaload, 1) := by decide +kernel
theorem dl_764 : decode code 764 = .ok (.invokevirtual 82, 3) := by decide +kernel
theorem dl_767 : decode code 767 = .ok (.aload_n 2, 1) := by decide +kernel
theorem dl_768 : decode code 768 = .ok (.aload_n 0, 1) := by decide +kernel
theorem dl_769 : decode code 769 = .ok (.iload_n 3, 1) := by decide +kernel
theorem dl_770 : decode code 770 = .ok (.iconst 1, 1) := by decide +kernel
theorem dl_771 : decode code 771 = .ok (.iadd, 1) := by decide +kernel
theorem dl_772 : decode code 772 = .ok (.iaload, 1) := by decide +kernel
theorem dl_773 : decode code 773 = .ok (.aload_n 0, 1) := by decide +kernel
theorem dl_774 : decode code 774 = .ok (.iload_n 3, 1) := by decide +kernel
theorem dl_775 : decode code 775 = .ok (.iconst 2, 1) := by decide +kernel
theorem dl_776 : decode code 776 = .ok (.iadd, 1) := by decide +kernel
theorem dl_777 : decode code 777 = .ok (.iaload, 1) := by decide +kernel
theorem dl_778 : decode code 778 = .ok (.aload_n 0, 1) := by decide +kernel
theorem dl_779 : decode code 779 = .ok (.iload_n 3, 1) := by decide +kernel
theorem dl_780 : decode code 780 = .ok (.iconst 3, 1) := by decide +kernel
theorem dl_781 : decode code 781 = .ok (.iadd, 1) := by decide +kernel
theorem dl_782 : decode code 782 = .ok (.iaload, 1) := by decide +kernel
theorem dl_783 : decode code 783 = .ok (.aload_n 0, 1) := by decide +kernel
theorem dl_784 : decode code 784 = .ok (.iload_n 3, 1) := by decide +kernel
theorem dl_785 : decode code 785 = .ok (.iconst 4, 1) := by decide +kernel
theorem dl_786 : decode code 786 = .ok (.iadd, 1) := by decide +kernel
theorem dl_787 : decode code 787 = .ok (.iaload, 1) := by decide +kernel
theorem dl_788 : decode code 788 = .ok (.invokevirtual 85, 3) := by decide +kernel
theorem dl_791 : decode code 791 = .ok (.if_icmp .eq 693, 3) := by decide +kernel
theorem dl_794 : decode code 794 = .ok (.iconst 0, 1) := by decide +kernel
theorem dl_795 : decode code 795 = .ok (.ireturn, 1) := by decide +kernel
theorem dl_796 : decode code 796 = .ok (.aload_n 1, 1) := by decide +kernel
theorem dl_797 : decode code 797 = .ok (.aload_n 0, 1) := by decide +kernel
theorem dl_798 : decode code 798 = .ok (.iload_n 3, 1) := by decide +kernel
theorem dl_799 : decode code 799 = .ok (.iconst 1, 1) := by decide +kernel
theorem dl_800 : decode code 800 = .ok (.iadd, 1) := by decide +kernel
theorem dl_801 : decode code 801 = .ok (.iaload, 1) := by decide +kernel
theorem dl_802 : decode code 802 = .ok (.aload_n 0, 1) := by decide +kernel
theorem dl_803 : decode code 803 = .ok (.iload_n 3, 1) := by decide +kernel
theorem dl_804 : decode code 804 = .ok (.iconst 2, 1) := by decide +kernel
theorem dl_805 : decode code 805 = .ok (.iadd, 1) := by decide +kernel
theorem dl_806 : decode code 806 = .ok (.iaload, 1) := by decide +kernel
theorem dl_807 : decode code 807 = .ok (.invokevirtual 86, 3) := by decide +kernel
theorem dl_810 : decode code 810 = .ok (.aload_n 2, 1) := by decide +kernel
theorem dl_811 : decode code 811 = .ok (.aload_n 0, 1) := by decide +kernel
theorem dl_812 : decode code 812 = .ok (.iload_n 3, 1) := by decide +kernel
theorem dl_813 : decode code 813 = .ok (.iconst 1, 1) := by decide +kernel
theorem dl_814 : decode code 814 = .ok (.iadd, 1) := by decide +kernel
theorem dl_815 : decode code 815 = .ok (.iaload, 1) := by decide +kernel
theorem dl_816 : decode code 816 = .ok (.aload_n 0, 1) := by decide +kernel
theorem dl_817 : decode code 817 = .ok (.iload_n 3, 1) := by decide +kernel
theorem dl_818 : decode code 818 = .ok (.iconst 2, 1) := by decide +kernel
theorem dl_819 : decode code 819 = .ok (.iadd, 1) := by decide +kernel
theorem dl_820 : decode code 820 = .ok (.iaload, 1) := by decide +kernel
theorem dl_821 : decode code 821 = .ok (.invokevirtual 89, 3) := by decide +kernel
theorem dl_824 : decode code 824 = .ok (.if_icmp .eq 660, 3) := by decide +kernel
theorem dl_827 : decode code 827 = .ok (.iconst 0, 1) := by decide +kernel
theorem dl_828 : decode code 828 = .ok (.ireturn, 1) := by decide +kernel
theorem dl_829 : decode code 829 = .ok (.aload_n 1, 1) := by decide +kernel
theorem dl_830 : decode code 830 = .ok (.aload_n 0, 1) := by decide +kernel
theorem dl_831 : decode code 831 = .ok (.iload_n 3, 1) := by decide +kernel
theorem dl_832 : decode code 832 = .ok (.iconst 1, 1) := by decide +kernel
theorem dl_833 : decode code 833 = .ok (.iadd, 1) := by decide +kernel
theorem dl_834 : decode code 834 = .ok (.iaload, 1) := by decide +kernel
theorem dl_835 : decode code 835 = .ok (.aload_n 0, 1) := by decide +kernel
theorem dl_836 : decode code 836 = .ok (.iload_n 3, 1) := by decide +kernel
theorem dl_837 : decode code 837 = .ok (.iconst 2, 1) := by decide +kernel
theorem dl_838 : decode code 838 = .ok (.iadd, 1) := by decide +kernel
theorem dl_839 : decode code 839 = .ok (.iaload, 1) := by decide +kernel
theorem dl_840 : decode code 840 = .ok (.invokevirtual 90, 3) := by decide +kernel
theorem dl_843 : decode code 843 = .ok (.aload_n 2, 1) := by decide +kernel
theorem dl_844 : decode code 844 = .ok (.aload_n 0, 1) := by decide +kernel
theorem dl_845 : decode code 845 = .ok (.iload_n 3, 1) := by decide +kernel
theorem dl_846 : decode code 846 = .ok (.iconst 1, 1) := by decide +kernel
theorem dl_847 : decode code 847 = .ok (.iadd, 1) := by decide +kernel
theorem dl_848 : decode code 848 = .ok (.iaload, 1) := by decide +kernel
theorem dl_849 : decode code 849 = .ok (.aload_n 0, 1) := by decide +kernel
theorem dl_850 : decode code 850 = .ok (.iload_n 3, 1) := by decide +kernel
theorem dl_851 : decode code 851 = .ok (.iconst 2, 1) := by decide +kernel
theorem dl_852 : decode code 852 = .ok (.iadd, 1) := by decide +kernel
theorem dl_853 : decode code 853 = .ok (.iaload, 1) := by decide +kernel
theorem dl_854 : decode code 854 = .ok (.invokevirtual 93, 3) := by decide +kernel
theorem dl_857 : decode code 857 = .ok (.if_icmp .eq 627, 3) := by decide +kernel
theorem dl_860 : decode code 860 = .ok (.iconst 0, 1) := by decide +kernel
theorem dl_861 : decode code 861 = .ok (.ireturn, 1) := by decide +kernel
theorem dl_862 : decode code 862 = .ok (.aload_n 1, 1) := by decide +kernel
theorem dl_863 : decode code 863 = .ok (.aload_n 0, 1) := by decide +kernel
theorem dl_864 : decode code 864 = .ok (.iload_n 3, 1) := by decide +kernel
theorem dl_865 : decode code 865 = .ok (.iconst 1, 1) := by decide +kernel
theorem dl_866 : decode code 866 = .ok (.iadd, 1) := by decide +kernel
theorem dl_867 : decode code 867 = .ok (.iaload, 1) := by decide +kernel
theorem dl_868 : decode code 868 = .ok (.aload_n 0, 1) := by decide +kernel
theorem dl_869 : decode code 869 = .ok (.iload_n 3, 1) := by decide +kernel
theorem dl_870 : decode code 870 = .ok (.iconst 2, 1) := by decide +kernel
theorem dl_871 : decode code 871 = .ok (.iadd, 1) := by decide +kernel
theorem dl_872 : decode code 872 = .ok (.iaload, 1) := by decide +kernel
theorem dl_873 : decode code 873 = .ok (.aload_n 0, 1) := by decide +kernel
theorem dl_874 : decode code 874 = .ok (.iload_n 3, 1) := by decide +kernel
theorem dl_875 : decode code 875 = .ok (.iconst 3, 1) := by decide +kernel
theorem dl_876 : decode code 876 = .ok (.iadd, 1) := by decide +kernel
theorem dl_877 : decode code 877 = .ok (.iaload, 1) := by decide +kernel
theorem dl_878 : decode code 878 = .ok (.aload_n 0, 1) := by decide +kernel
theorem dl_879 : decode code 879 = .ok (.iload_n 3, 1) := by decide +kernel
theorem dl_880 : decode code 880 = .ok (.iconst 4, 1) := by decide +kernel
theorem dl_881 : decode code 881 = .ok (.iadd, 1) := by decide +kernel
theorem dl_882 : decode code 882 = .ok (.iaload, 1) := by decide +kernel
theorem dl_883 : decode code 883 = .ok (.invokevirtual 94, 3) := by decide +kernel
theorem dl_886 : decode code 886 = .ok (.aload_n 2, 1) := by decide +kernel
theorem dl_887 : decode code 887 = .ok (.aload_n 0, 1) := by decide +kernel
theorem dl_888 : decode code 888 = .ok (.iload_n 3, 1) := by decide +kernel
theorem dl_889 : decode code 889 = .ok (.iconst 1, 1) := by decide +kernel
theorem dl_890 : decode code 890 = .ok (.iadd, 1) := by decide +kernel
theorem dl_891 : decode code 891 = .ok (.iaload, 1) := by decide +kernel
theorem dl_892 : decode code 892 = .ok (.aload_n 0, 1) := by decide +kernel
theorem dl_893 : decode code 893 = .ok (.iload_n 3, 1) := by decide +kernel
theorem dl_894 : decode code 894 = .ok (.iconst 2, 1) := by decide +kernel
theorem dl_895 : decode code 895 = .ok (.iadd, 1) := by decide +kernel
theorem dl_896 : decode code 896 = .ok (.iaload, 1) := by decide +kernel
theorem dl_897 : decode code 897 = .ok (.aload_n 0, 1) := by decide +kernel
theorem dl_898 : decode code 898 = .ok (.iload_n 3, 1) := by decide +kernel
theorem dl_899 : decode code 899 = .ok (.iconst 3, 1) := by decide +kernel
theorem dl_900 : decode code 900 = .ok (.iadd, 1) := by decide +kernel
theorem dl_901 : decode code 901 = .ok (.iaload, 1) := by decide +kernel
theorem dl_902 : decode code 902 = .ok (.aload_n 0, 1) := by decide +kernel
theorem dl_903 : decode code 903 = .ok (.iload_n 3, 1) := by decide +kernel
theorem dl_904 : decode code 904 = .ok (.iconst 4, 1) := by decide +kernel
theorem dl_905 : decode code 905 = .ok (.iadd, 1) := by decide +kernel
theorem dl_906 : decode code 906 = .ok (.iaload, 1) := by decide +kernel
theorem dl_907 : decode code 907 = .ok (.invokevirtual 97, 3) := by decide +kernel
theorem dl_910 : decode code 910 = .ok (.if_icmp .eq 574, 3) := by decide +kernel
theorem dl_913 : decode code 913 = .ok (.iconst 0, 1) := by decide +kernel
theorem dl_914 : decode code 914 = .ok (.ireturn, 1) := by decide +kernel
theorem dl_915 : decode code 915 = .ok (.aload_n 1, 1) := by decide +kernel
theorem dl_916 : decode code 916 = .ok (.aload_n 0, 1) := by decide +kernel
theorem dl_917 : decode code 917 = .ok (.iload_n 3, 1) := by decide +kernel
theorem dl_918 : decode code 918 = .ok (.iconst 1, 1) := by decide +kernel
theorem dl_919 : decode code 919 = .ok (.iadd, 1) := by decide +kernel
theorem dl_920 : decode code 920 = .ok (.iaload, 1) := by decide +kernel
theorem dl_921 : decode code 921 = .ok (.aload_n 0, 1) := by decide +kernel
theorem dl_922 : decode code 922 = .ok (.iload_n 3, 1) := by decide +kernel
theorem dl_923 : decode code 923 = .ok (.iconst 2, 1) := by decide +kernel
theorem dl_924 : decode code 924 = .ok (.iadd, 1) := by decide +kernel
theorem dl_925 : decode code 925 = .ok (.iaload, 1) := by decide +kernel
theorem dl_926 : decode code 926 = .ok (.aload_n 0, 1) := by decide +kernel
theorem dl_927 : decode code 927 = .ok (.iload_n 3, 1) := by decide +kernel
theorem dl_928 : decode code 928 = .ok (.iconst 3, 1) := by decide +kernel
theorem dl_929 : decode code 929 = .ok (.iadd, 1) := by decide +kernel
theorem dl_930 : decode code 930 = .ok (.iaload, 1) := by decide +kernel
theorem dl_931 : decode code 931 = .ok (.aload_n 0, 1) := by decide +kernel
theorem dl_932 : decode code 932 = .ok (.iload_n 3, 1) := by decide +kernel
theorem dl_933 : decode code 933 = .ok (.iconst 4, 1) := by decide +kernel
theorem dl_934 : decode code 934 = .ok (.iadd, 1) := by decide +kernel
theorem dl_935 : decode code 935 = .ok (.iaload, 1) := by decide +kernel
theorem dl_936 : decode code 936 = .ok (.aload_n 0, 1) := by decide +kernel
theorem dl_937 : decode code 937 = .ok (.iload_n 3, 1) := by decide +kernel
theorem dl_938 : decode code 938 = .ok (.iconst 5, 1) := by decide +kernel
theorem dl_939 : decode code 939 = .ok (.iadd, 1) := by decide +kernel
theorem dl_940 : decode code 940 = .ok (.iaload, 1) := by decide +kernel
theorem dl_941 : decode code 941 = .ok (.invokevirtual 98, 3) := by decide +kernel
theorem dl_944 : decode code 944 = .ok (.aload_n 2, 1) := by decide +kernel
theorem dl_945 : decode code 945 = .ok (.aload_n 0, 1) := by decide +kernel
theorem dl_946 : decode code 946 = .ok (.iload_n 3, 1) := by decide +kernel
theorem dl_947 : decode code 947 = .ok (.iconst 1, 1) := by decide +kernel
theorem dl_948 : decode code 948 = .ok (.iadd, 1) := by decide +kernel
theorem dl_949 : decode code 949 = .ok (.iaload, 1) := by decide +kernel
theorem dl_950 : decode code 950 = .ok (.aload_n 0, 1) := by decide +kernel
theorem dl_951 : decode code 951 = .ok (.iload_n 3, 1) := by decide +kernel
theorem dl_952 : decode code 952 = .ok (.iconst 2, 1) := by decide +kernel
theorem dl_953 : decode code 953 = .ok (.iadd, 1) := by decide +kernel
theorem dl_954 : decode code 954 = .ok (.iaload, 1) := by decide +kernel
theorem dl_955 : decode code 955 = .ok (.aload_n 0, 1) := by decide +kernel
theorem dl_956 : decode code 956 = .ok (.iload_n 3, 1) := by decide +kernel
theorem dl_957 : decode code 957 = .ok (.iconst 3, 1) := by decide +kernel
theorem dl_958 : decode code 958 = .ok (.iadd, 1) := by decide +kernel
theorem dl_959 : decode code 959 = .ok (.iaload, 1) := by decide +kernel
theorem dl_960 : decode code 960 = .ok (.aload_n 0, 1) := by decide +kernel
theorem dl_961 : decode code 961 = .ok (.iload_n 3, 1) := by decide +kernel
theorem dl_962 : decode code 962 = .ok (.iconst 4, 1) := by decide +kernel
theorem dl_963 : decode code 963 = .ok (.iadd, 1) := by decide +kernel
theorem dl_964 : decode code 964 = .ok (.iaload, 1) := by decide +kernel
theorem dl_965 : decode code 965 = .ok (.aload_n 0, 1) := by decide +kernel
theorem dl_966 : decode code 966 = .ok (.iload_n 3, 1) := by decide +kernel
theorem dl_967 : decode code 967 = .ok (.iconst 5, 1) := by decide +kernel
theorem dl_968 : decode code 968 = .ok (.iadd, 1) := by decide +kernel
theorem dl_969 : decode code 969 = .ok (.iaload, 1) := by decide +kernel
theorem dl_970 : decode code 970 = .ok (.invokevirtual 102, 3) := by decide +kernel
theorem dl_973 : decode code 973 = .ok (.if_icmp .eq 511, 3) := by decide +kernel
theorem dl_976 : decode code 976 = .ok (.iconst 0, 1) := by decide +kernel
theorem dl_977 : decode code 977 = .ok (.ireturn, 1) := by decide +kernel
theorem dl_978 : decode code 978 = .ok (.aload_n 1, 1) := by decide +kernel
theorem dl_979 : decode code 979 = .ok (.aload_n 0, 1) := by decide +kernel
theorem dl_980 : decode code 980 = .ok (.iload_n 3, 1) := by decide +kernel
theorem dl_981 : decode code 981 = .ok (.iconst 1, 1) := by decide +kernel
theorem dl_982 : decode code 982 = .ok (.iadd, 1) := by decide +kernel
theorem dl_983 : decode code 983 = .ok (.iaload, 1) := by decide +kernel
theorem dl_984 : decode code 984 = .ok (.aload_n 0, 1) := by decide +kernel
theorem dl_985 : decode code 985 = .ok (.iload_n 3, 1) := by decide +kernel
theorem dl_986 : decode code 986 = .ok (.iconst 2, 1) := by decide +kernel
theorem dl_987 : decode code 987 = .ok (.iadd, 1) := by decide +kernel
theorem dl_988 : decode code 988 = .ok (.iaload, 1) := by decide +kernel
theorem dl_989 : decode code 989 = .ok (.aload_n 0, 1) := by decide +kernel
theorem dl_990 : decode code 990 = .ok (.iload_n 3, 1) := by decide +kernel
theorem dl_991 : decode code 991 = .ok (.iconst 3, 1) := by decide +kernel
theorem dl_992 : decode code 992 = .ok (.iadd, 1) := by decide +kernel
theorem dl_993 : decode code 993 = .ok (.iaload, 1) := by decide +kernel
theorem dl_994 : decode code 994 = .ok (.invokevirtual 103, 3) := by decide +kernel
theorem dl_997 : decode code 997 = .ok (.aload_n 2, 1) := by decide +kernel
theorem dl_998 : decode code 998 = .ok (.aload_n 0, 1) := by decide +kernel
theorem dl_999 : decode code 999 = .ok (.iload_n 3, 1) := by decide +kernel
theorem dl_1000 : decode code 1000 = .ok (.iconst 1, 1) := by decide +kernel
theorem dl_1001 : decode code 1001 = .ok (.iadd, 1) := by decide +kernel
theorem dl_1002 : decode code 1002 = .ok (.iaload, 1) := by decide +kernel
theorem dl_1003 : decode code 1003 = .ok (.aload_n 0, 1) := by decide +kernel
theorem dl_1004 : decode code 1004 = .ok (.iload_n 3, 1) := by decide +kernel
theorem dl_1005 : decode code 1005 = .ok (.iconst 2, 1) := by decide +kernel
theorem dl_1006 : decode code 1006 = .ok (.iadd, 1) := by decide +kernel
theorem dl_1007 : decode code 1007 = .ok (.iaload, 1) := by decide +kernel
theorem dl_1008 : decode code 1008 = .ok (.aload_n 0, 1) := by decide +kernel
theorem dl_1009 : decode code 1009 = .ok (.iload_n 3, 1) := by decide +kernel
theorem dl_1010 : decode code 1010 = .ok (.iconst 3, 1) := by decide +kernel
theorem dl_1011 : decode code 1011 = .ok (.iadd, 1) := by decide +kernel
theorem dl_1012 : decode code 1012 = .ok (.iaload, 1) := by decide +kernel
theorem dl_1013 : decode code 1013 = .ok (.invokevirtual 106, 3) := by decide +kernel
theorem dl_1016 : decode code 1016 = .ok (.if_icmp .eq 468, 3) := by decide +kernel
theorem dl_1019 : decode code 1019 = .ok (.iconst 0, 1) := by decide +kernel
theorem dl_1020 : decode code 1020 = .ok (.ireturn, 1) := by decide +kernel
theorem dl_1021 : decode code 1021 = .ok (.aload_n 1, 1) := by decide +kernel
theorem dl_1022 : decode code 1022 = .ok (.aload_n 0, 1) := by decide +kernel
theorem dl_1023 : decode code 1023 = .ok (.iload_n 3, 1) := by decide +kernel
theorem dl_1024 : decode code 1024 = .ok (.iconst 1, 1) := by decide +kernel
theorem dl_1025 : decode code 1025 = .ok (.iadd, 1) := by decide +kernel
theorem dl_1026 : decode code 1026 = .ok (.iaload, 1) := by decide +kernel
theorem dl_1027 : decode code 1027 = .ok (.aload_n 0, 1) := by decide +kernel
theorem dl_1028 : decode code 1028 = .ok (.iload_n 3, 1) := by decide +kernel
theorem dl_1029 : decode code 1029 = .ok (.iconst 2, 1) := by decide +kernel
theorem dl_1030 : decode code 1030 = .ok (.iadd, 1) := by decide +kernel
theorem dl_1031 : decode code 1031 = .ok (.iaload, 1) := by decide +kernel
theorem dl_1032 : decode code 1032 = .ok (.aload_n 0, 1) := by decide +kernel
theorem dl_1033 : decode code 1033 = .ok (.iload_n 3, 1) := by decide +kernel
theorem dl_1034 : decode code 1034 = .ok (.iconst 3, 1) := by decide +kernel
theorem dl_1035 : decode code 1035 = .ok (.iadd, 1) := by decide +kernel
theorem dl_1036 : decode code 1036 = .ok (.iaload, 1) := by decide +kernel
theorem dl_1037 : decode code 1037 = .ok (.invokevirtual 107, 3) := by decide +kernel
theorem dl_1040 : decode code 1040 = .ok (.aload_n 2, 1) := by decide +kernel
theorem dl_1041 : decode code 1041 = .ok (.aload_n 0, 1) := by decide +kernel
theorem dl_1042 : decode code 1042 = .ok (.iload_n 3, 1) := by decide +kernel
theorem dl_1043 : decode code 1043 = .ok (.iconst 1, 1) := by decide +kernel
theorem dl_1044 : decode code 1044 = .ok (.iadd, 1) := by decide +kernel
theorem dl_1045 : decode code 1045 = .ok (.iaload, 1) := by decide +kernel
theorem dl_1046 : decode code 1046 = .ok (.aload_n 0, 1) := by decide +kernel
theorem dl_1047 : decode code 1047 = .ok (.iload_n 3, 1) := by decide +kernel
theorem dl_1048 : decode code 1048 = .ok (.iconst 2, 1) := by decide +kernel
theorem dl_1049 : decode code 1049 = .ok (.iadd, 1) := by decide +kernel
theorem dl_1050 : decode code 1050 = .ok (.iaload, 1) := by decide +kernel
theorem dl_1051 : decode code 1051 = .ok (.aload_n 0, 1) := by decide +kernel
theorem dl_1052 : decode code 1052 = .ok (.iload_n 3, 1) := by decide +kernel
theorem dl_1053 : decode code 1053 = .ok (.iconst 3, 1) := by decide +kernel
theorem dl_1054 : decode code 1054 = .ok (.iadd, 1) := by decide +kernel
theorem dl_1055 : decode code 1055 = .ok (.iaload, 1) := by decide +kernel
theorem dl_1056 : decode code 1056 = .ok (.invokevirtual 110, 3) := by decide +kernel
theorem dl_1059 : decode code 1059 = .ok (.if_icmp .eq 425, 3) := by decide +kernel
theorem dl_1062 : decode code 1062 = .ok (.iconst 0, 1) := by decide +kernel
theorem dl_1063 : decode code 1063 = .ok (.ireturn, 1) := by decide +kernel
theorem dl_1064 : decode code 1064 = .ok (.aload_n 1, 1) := by decide +kernel
theorem dl_1065 : decode code 1065 = .ok (.aload_n 0, 1) := by decide +kernel
theorem dl_1066 : decode code 1066 = .ok (.iload_n 3, 1) := by decide +kernel
theorem dl_1067 : decode code 1067 = .ok (.iconst 1, 1) := by decide +kernel
theorem dl_1068 : decode code 1068 = .ok (.iadd, 1) := by decide +kernel
theorem dl_1069 : decode code 1069 = .ok (.iaload, 1) := by decide +kernel
theorem dl_1070 : decode code 1070 = .ok (.aload_n 0, 1) := by decide +kernel
theorem dl_1071 : decode code 1071 = .ok (.iload_n 3, 1) := by decide +kernel
theorem dl_1072 : decode code 1072 = .ok (.iconst 2, 1) := by decide +kernel
theorem dl_1073 : decode code 1073 = .ok (.iadd, 1) := by decide +kernel
theorem dl_1074 : decode code 1074 = .ok (.iaload, 1) := by decide +kernel
theorem dl_1075 : decode code 1075 = .ok (.invokevirtual 111, 3) := by decide +kernel
theorem dl_1078 : decode code 1078 = .ok (.aload_n 2, 1) := by decide +kernel
theorem dl_1079 : decode code 1079 = .ok (.aload_n 0, 1) := by decide +kernel
theorem dl_1080 : decode code 1080 = .ok (.iload_n 3, 1) := by decide +kernel
theorem dl_1081 : decode code 1081 = .ok (.iconst 1, 1) := by decide +kernel
theorem dl_1082 : decode code 1082 = .ok (.iadd, 1) := by decide +kernel
theorem dl_1083 : decode code 1083 = .ok (.iaload, 1) := by decide +kernel
theorem dl_1084 : decode code 1084 = .ok (.aload_n 0, 1) := by decide +kernel
theorem dl_1085 : decode code 1085 = .ok (.iload_n 3, 1) := by decide +kernel
theorem dl_1086 : decode code 1086 = .ok (.iconst 2, 1) := by decide +kernel
theorem dl_1087 : decode code 1087 = .ok (.iadd, 1) := by decide +kernel
theorem dl_1088 : decode code 1088 = .ok (.iaload, 1) := by decide +kernel
theorem dl_1089 : decode code 1089 = .ok (.invokevirtual 114, 3) := by decide +kernel
theorem dl_1092 : decode code 1092 = .ok (.if_icmp .eq 392, 3) := by decide +kernel
theorem dl_1095 : decode code 1095 = .ok (.iconst 0, 1) := by decide +kernel
theorem dl_1096 : decode code 1096 = .ok (.ireturn, 1) := by decide +kernel
theorem dl_1097 : decode code 1097 = .ok (.aload_n 1, 1) := by decide +kernel
theorem dl_1098 : decode code 1098 = .ok (.aload_n 0, 1) := by decide +kernel
theorem dl_1099 : decode code 1099 = .ok (.iload_n 3, 1) := by decide +kernel
theorem dl_1100 : decode code 1100 = .ok (.iconst 1, 1) := by decide +kernel
theorem dl_1101 : decode code 1101 = .ok (.iadd, 1) := by decide +kernel
theorem dl_1102 : decode code 1102 = .ok (.iaload, 1) := by decide +kernel
theorem dl_1103 : decode code 1103 = .ok (.aload_n 0, 1) := by decide +kernel
theorem dl_1104 : decode code 1104 = .ok (.iload_n 3, 1) := by decide +kernel
theorem dl_1105 : decode code 1105 = .ok (.iconst 2, 1) := by decide +kernel
theorem dl_1106 : decode code 1106 = .ok (.iadd, 1) := by decide +kernel
theorem dl_1107 : decode code 1107 = .ok (.iaload, 1) := by decide +kernel
theorem dl_1108 : decode code 1108 = .ok (.invokevirtual 115, 3) := by decide +kernel
theorem dl_1111 : decode code 1111 = .ok (.aload_n 2, 1) := by decide +kernel
theorem dl_1112 : decode code 1112 = .ok (.aload_n 0, 1) := by decide +kernel
theorem dl_1113 : decode code 1113 = .ok (.iload_n 3, 1) := by decide +kernel
theorem dl_1114 : decode code 1114 = .ok (.iconst 1, 1) := by decide +kernel
theorem dl_1115 : decode code 1115 = .ok (.iadd, 1) := by decide +kernel
theorem dl_1116 : decode code 1116 = .ok (.iaload, 1) := by decide +kernel
theorem dl_1117 : decode code 1117 = .ok (.aload_n 0, 1) := by decide +kernel
theorem dl_1118 : decode code 1118 = .ok (.iload_n 3, 1) := by decide +kernel
theorem dl_1119 : decode code 1119 = .ok (.iconst 2, 1) := by decide +kernel
theorem dl_1120 : decode code 1120 = .ok (.iadd, 1) := by decide +kernel
theorem dl_1121 : decode code 1121 = .ok (.iaload, 1) := by decide +kernel
theorem dl_1122 : decode code 1122 = .ok (.invokevirtual 118, 3) := by decide +kernel
theorem dl_1125 : decode code 1125 = .ok (.if_icmp .eq 359, 3) := by decide +kernel
theorem dl_1128 : decode code 1128 = .ok (.iconst 0, 1) := by decide +kernel
theorem dl_1129 : decode code 1129 = .ok (.ireturn, 1) := by decide +kernel
theorem dl_1130 : decode code 1130 = .ok (.aload_n 1, 1) := by decide +kernel
theorem dl_1131 : decode code 1131 = .ok (.aload_n 0, 1) := by decide +kernel
theorem dl_1132 : decode code 1132 = .ok (.iload_n 3, 1) := by decide +kernel
theorem dl_1133 : decode code 1133 = .ok (.iconst 1, 1) := by decide +kernel
theorem dl_1134 : decode code 1134 = .ok (.iadd, 1) := by decide +kernel
theorem dl_1135 : decode code 1135 = .ok (.iaload, 1) := by decide +kernel
theorem dl_1136 : decode code 1136 = .ok (.aload_n 0, 1) := by decide +kernel
theorem dl_1137 : decode code 1137 = .ok (.iload_n 3, 1) := by decide +kernel
theorem dl_1138 : decode code 1138 = .ok (.iconst 2, 1) := by decide +kernel
theorem dl_1139 : decode code 1139 = .ok (.iadd, 1) := by decide +kernel
theorem dl_1140 : decode code 1140 = .ok (.iaload, 1) := by decide +kernel
theorem dl_1141 : decode code 1141 = .ok (.aload_n 0, 1) := by decide +kernel
theorem dl_1142 : decode code 1142 = .ok (.iload_n 3, 1) := by decide +kernel
theorem dl_1143 : decode code 1143 = .ok (.iconst 3, 1) := by decide +kernel
theorem dl_1144 : decode code 1144 = .ok (.iadd, 1) := by decide +kernel
theorem dl_1145 : decode code 1145 = .ok (.iaload, 1) := by decide +kernel
theorem dl_1146 : decode code 1146 = .ok (.invokevirtual 119, 3) := by decide +kernel
theorem dl_1149 : decode code 1149 = .ok (.aload_n 2, 1) := by decide +kernel
theorem dl_1150 : decode code 1150 = .ok (.aload_n 0, 1) := by decide +kernel
theorem dl_1151 : decode code 1151 = .ok (.iload_n 3, 1) := by decide +kernel
theorem dl_1152 : decode code 1152 = .ok (.iconst 1, 1) := by decide +kernel
theorem dl_1153 : decode code 1153 = .ok (.iadd, 1) := by decide +kernel
theorem dl_1154 : decode code 1154 = .ok (.iaload, 1) := by decide +kernel
theorem dl_1155 : decode code 1155 = .ok (.aload_n 0, 1) := by decide +kernel
theorem dl_1156 : decode code 1156 = .ok (.iload_n 3, 1) := by decide +kernel
theorem dl_1157 : decode code 1157 = .ok (.iconst 2, 1) := by decide +kernel
theorem dl_1158 : decode code 1158 = .ok (.iadd, 1) := by decide +kernel
theorem dl_1159 : decode code 1159 = .ok (.iaload, 1) := by decide +kernel
theorem dl_1160 : decode code 1160 = .ok (.aload_n 0, 1) := by decide +kernel
theorem dl_1161 : decode code 1161 = .ok (.iload_n 3, 1) := by decide +kernel
theorem dl_1162 : decode code 1162 = .ok (.iconst 3, 1) := by decide +kernel
theorem dl_1163 : decode code 1163 = .ok (.iadd, 1) := by decide +kernel
theorem dl_1164 : decode code 1164 = .ok (.iaload, 1) := by decide +kernel
theorem dl_1165 : decode code 1165 = .ok (.invokevirtual 122, 3) := by decide +kernel
theorem dl_1168 : decode code 1168 = .ok (.if_icmp .eq 316, 3) := by decide +kernel
theorem dl_1171 : decode code 1171 = .ok (.iconst 0, 1) := by decide +kernel
theorem dl_1172 : decode code 1172 = .ok (.ireturn, 1) := by decide +kernel
theorem dl_1173 : decode code 1173 = .ok (.aload_n 1, 1) := by decide +kernel
theorem dl_1174 : decode code 1174 = .ok (.aload_n 0, 1) := by decide +kernel
theorem dl_1175 : decode code 1175 = .ok (.iload_n 3, 1) := by decide +kernel
theorem dl_1176 : decode code 1176 = .ok (.iconst 1, 1) := by decide +kernel
theorem dl_1177 : decode code 1177 = .ok (.iadd, 1) := by decide +kernel
theorem dl_1178 : decode code 1178 = .ok (.iaload, 1) := by decide +kernel
theorem dl_1179 : decode code 1179 = .ok (.aload_n 0, 1) := by decide +kernel
theorem dl_1180 : decode code 1180 = .ok (.iload_n 3, 1) := by decide +kernel
theorem dl_1181 : decode code 1181 = .ok (.iconst 2, 1) := by decide +kernel
theorem dl_1182 : decode code 1182 = .ok (.iadd, 1) := by decide +kernel
theorem dl_1183 : decode code 1183 = .ok (.iaload, 1) := by decide +kernel
theorem dl_1184 : decode code 1184 = .ok (.aload_n 0, 1) := by decide +kernel
theorem dl_1185 : decode code 1185 = .ok (.iload_n 3, 1) := by decide +kernel
theorem dl_1186 : decode code 1186 = .ok (.iconst 3, 1) := by decide +kernel
theorem dl_1187 : decode code 1187 = .ok (.iadd, 1) := by decide +kernel
theorem dl_1188 : decode code 1188 = .ok (.iaload, 1) := by decide +kernel
theorem dl_1189 : decode code 1189 = .ok (.aload_n 0, 1) := by decide +kernel
theorem dl_1190 : decode code 1190 = .ok (.iload_n 3, 1) := by decide +kernel
theorem dl_1191 : decode code 1191 = .ok (.iconst 4, 1) := by decide +kernel
theorem dl_1192 : decode code 1192 = .ok (.iadd, 1) := by decide +kernel
theorem dl_1193 : decode code 1193 = .ok (.iaload, 1) := by decide +kernel
theorem dl_1194 : decode code 1194 = .ok (.invokevirtual 123, 3) := by decide +kernel
theorem dl_1197 : decode code 1197 = .ok (.aload_n 2, 1) := by decide +kernel
theorem dl_1198 : decode code 1198 = .ok (.aload_n 0, 1) := by decide +kernel
theorem dl_1199 : decode code 1199 = .ok (.iload_n 3, 1) := by decide +kernel
theorem dl_1200 : decode code 1200 = .ok (.iconst 1, 1) := by decide +kernel
theorem dl_1201 : decode code 1201 = .ok (.iadd, 1) := by decide +kernel
theorem dl_1202 : decode code 1202 = .ok (.iaload, 1) := by decide +kernel
theorem dl_1203 : decode code 1203 = .ok (.aload_n 0, 1) := by decide +kernel
theorem dl_1204 : decode code 1204 = .ok (.iload_n 3, 1) := by decide +kernel
theorem dl_1205 : decode code 1205 = .ok (.iconst 2, 1) := by decide +kernel
theorem dl_1206 : decode code 1206 = .ok (.iadd, 1) := by decide +kernel
theorem dl_1207 : decode code 1207 = .ok (.iaload, 1) := by decide +kernel
theorem dl_1208 : decode code 1208 = .ok (.aload_n 0, 1) := by decide +kernel
theorem dl_1209 : decode code 1209 = .ok (.iload_n 3, 1) := by decide +kernel
theorem dl_1210 : decode code 1210 = .ok (.iconst 3, 1) := by decide +kernel
theorem dl_1211 : decode code 1211 = .ok (.iadd, 1) := by decide +kernel
theorem dl_1212 : decode code 1212 = .ok (.iaload, 1) := by decide +kernel
theorem dl_1213 : decode code 1213 = .ok (.aload_n 0, 1) := by decide +kernel
theorem dl_1214 : decode code 1214 = .ok (.iload_n 3, 1) := by decide +kernel
theorem dl_1215 : decode code 1215 = .ok (.iconst 4, 1) := by decide +kernel
theorem dl_1216 : decode code 1216 = .ok (.iadd, 1) := by decide +kernel
theorem dl_1217 : decode code 1217 = .ok (.iaload, 1) := by decide +kernel
theorem dl_1218 : decode code 1218 = .ok (.invokevirtual 126, 3) := by decide +kernel
theorem dl_1221 : decode code 1221 = .ok (.if_icmp .eq 263, 3) := by decide +kernel
theorem dl_1224 : decode code 1224 = .ok (.iconst 0, 1) := by decide +kernel
theorem dl_1225 : decode code 1225 = .ok (.ireturn, 1) := by decide +kernel
theorem dl_1226 : decode code 1226 = .ok (.aload_n 1, 1) := by decide +kernel
theorem dl_1227 : decode code 1227 = .ok (.aload_n 0, 1) := by decide +kernel
theorem dl_1228 : decode code 1228 = .ok (.iload_n 3, 1) := by decide +kernel
theorem dl_1229 : decode code 1229 = .ok (.iconst 1, 1) := by decide +kernel
theorem dl_1230 : decode code 1230 = .ok (.iadd, 1) := by decide +kernel
theorem dl_1231 : decode code 1231 = .ok (.iaload, 1) := by decide +kernel
theorem dl_1232 : decode code 1232 = .ok (.aload_n 0, 1) := by decide +kernel
theorem dl_1233 : decode code 1233 = .ok (.iload_n 3, 1) := by decide +kernel
theorem dl_1234 : decode code 1234 = .ok (.iconst 2, 1) := by decide +kernel
theorem dl_1235 : decode code 1235 = .ok (.iadd, 1) := by decide +kernel
theorem dl_1236 : decode code 1236 = .ok (.iaload, 1) := by decide +kernel
theorem dl_1237 : decode code 1237 = .ok (.aload_n 0, 1) := by decide +kernel
theorem dl_1238 : decode code 1238 = .ok (.iload_n 3, 1) := by decide +kernel
theorem dl_1239 : decode code 1239 = .ok (.iconst 3, 1) := by decide +kernel
theorem dl_1240 : decode code 1240 = .ok (.iadd, 1) := by decide +kernel
theorem dl_1241 : decode code 1241 = .ok (.iaload, 1) := by decide +kernel
theorem dl_1242 : decode code 1242 = .ok (.aload_n 0, 1) := by decide +kernel
theorem dl_1243 : decode code 1243 = .ok (.iload_n 3, 1) := by decide +kernel
theorem dl_1244 : decode code 1244 = .ok (.iconst 4, 1) := by decide +kernel
theorem dl_1245 : decode code 1245 = .ok (.iadd, 1) := by decide +kernel
theorem dl_1246 : decode code 1246 = .ok (.iaload, 1) := by decide +kernel
theorem dl_1247 : decode code 1247 = .ok (.aload_n 0, 1) := by decide +kernel
theorem dl_1248 : decode code 1248 = .ok (.iload_n 3, 1) := by decide +kernel
theorem dl_1249 : decode code 1249 = .ok (.iconst 5, 1) := by decide +kernel
theorem dl_1250 : decode code 1250 = .ok (.iadd, 1) := by decide +kernel
theorem dl_1251 : decode code 1251 = .ok (.iaload, 1) := by decide +kernel
theorem dl_1252 : decode code 1252 = .ok (.invokevirtual 127, 3) := by decide +kernel
theorem dl_1255 : decode code 1255 = .ok (.aload_n 2, 1) := by decide +kernel
theorem dl_1256 : decode code 1256 = .ok (.aload_n 0, 1) := by decide +kernel
theorem dl_1257 : decode code 1257 = .ok (.iload_n 3, 1) := by decide +kernel
theorem dl_1258 : decode code 1258 = .ok (.iconst 1, 1) := by decide +kernel
theorem dl_1259 : decode code 1259 = .ok (.iadd, 1) := by decide +kernel
theorem dl_1260 : decode code 1260 = .ok (.iaload, 1) := by decide +kernel
theorem dl_1261 : decode code 1261 = .ok (.aload_n 0, 1) := by decide +kernel
theorem dl_1262 : decode code 1262 = .ok (.iload_n 3, 1) := by decide +kernel
theorem dl_1263 : decode code 1263 = .ok (.iconst 2, 1) := by decide +kernel
theorem dl_1264 : decode code 1264 = .ok (.iadd, 1) := by decide +kernel
theorem dl_1265 : decode code 1265 = .ok (.iaload, 1) := by decide +kernel
theorem dl_1266 : decode code 1266 = .ok (.aload_n 0, 1) := by decide +kernel
theorem dl_1267 : decode code 1267 = .ok (.iload_n 3, 1) := by decide +kernel
theorem dl_1268 : decode code 1268 = .ok (.iconst 3, 1) := by decide +kernel
theorem dl_1269 : decode code 1269 = .ok (.iadd, 1) := by decide +kernel
theorem dl_1270 : decode code 1270 = .ok (.iaload, 1) := by decide +kernel
theorem dl_1271 : decode code 1271 = .ok (.aload_n 0, 1) := by decide +kernel
theorem dl_1272 : decode code 1272 = .ok (.iload_n 3, 1) := by decide +kernel
theorem dl_1273 : decode code 1273 = .ok (.iconst 4, 1) := by decide +kernel
theorem dl_1274 : decode code 1274 = .ok (.iadd, 1) := by decide +kernel
theorem dl_1275 : decode code 1275 = .ok (.iaload, 1) := by decide +kernel
theorem dl_1276 : decode code 1276 = .ok (.aload_n 0, 1) := by decide +kernel
theorem dl_1277 : decode code 1277 = .ok (.iload_n 3, 1) := by decide +kernel
theorem dl_1278 : decode code 1278 = .ok (.iconst 5, 1) := by decide +kernel
theorem dl_1279 : decode code 1279 = .ok (.iadd, 1) := by decide +kernel
theorem dl_1280 : decode code 1280 = .ok (.iaload, 1) := by decide +kernel
theorem dl_1281 : decode code 1281 = .ok (.invokevirtual 130, 3) := by decide +kernel
theorem dl_1284 : decode code 1284 = .ok (.if_icmp .eq 200, 3) := by decide +kernel
theorem dl_1287 : decode code 1287 = .ok (.iconst 0, 1) := by decide +kernel
theorem dl_1288 : decode code 1288 = .ok (.ireturn, 1) := by decide +kernel
theorem dl_1289 : decode code 1289 = .ok (.aload_n 1, 1) := by decide +kernel
theorem dl_1290 : decode code 1290 = .ok (.aload_n 0, 1) := by decide +kernel
theorem dl_1291 : decode code 1291 = .ok (.iload_n 3, 1) := by decide +kernel
theorem dl_1292 : decode code 1292 = .ok (.iconst 1, 1) := by decide +kernel
theorem dl_1293 : decode code 1293 = .ok (.iadd, 1) := by decide +kernel
theorem dl_1294 : decode code 1294 = .ok (.iaload, 1) := by decide +kernel
theorem dl_1295 : decode code 1295 = .ok (.aload_n 0, 1) := by decide +kernel
theorem dl_1296 : decode code 1296 = .ok (.iload_n 3, 1) := by decide +kernel
theorem dl_1297 : decode code 1297 = .ok (.iconst 2, 1) := by decide +kernel
theorem dl_1298 : decode code 1298 = .ok (.iadd, 1) := by decide +kernel
theorem dl_1299 : decode code 1299 = .ok (.iaload, 1) := by decide +kernel
theorem dl_1300 : decode code 1300 = .ok (.invokevirtual 131, 3) := by decide +kernel
theorem dl_1303 : decode code 1303 = .ok (.aload_n 2, 1) := by decide +kernel
theorem dl_1304 : decode code 1304 = .ok (.aload_n 0, 1) := by decide +kernel
theorem dl_1305 : decode code 1305 = .ok (.iload_n 3, 1) := by decide +kernel
theorem dl_1306 : decode code 1306 = .ok (.iconst 1, 1) := by decide +kernel
theorem dl_1307 : decode code 1307 = .ok (.iadd, 1) := by decide +kernel
theorem dl_1308 : decode code 1308 = .ok (.iaload, 1) := by decide +kernel
theorem dl_1309 : decode code 1309 = .ok (.aload_n 0, 1) := by decide +kernel
theorem dl_1310 : decode code 1310 = .ok (.iload_n 3, 1) := by decide +kernel
theorem dl_1311 : decode code 1311 = .ok (.iconst 2, 1) := by decide +kernel
theorem dl_1312 : decode code 1312 = .ok (.iadd, 1) := by decide +kernel
theorem dl_1313 : decode code 1313 = .ok (.iaload, 1) := by decide +kernel
theorem dl_1314 : decode code 1314 = .ok (.invokevirtual 134, 3) := by decide +kernel
theorem dl_1317 : decode code 1317 = .ok (.if_icmp .eq 167, 3) := by decide +kernel
theorem dl_1320 : decode code 1320 = .ok (.iconst 0, 1) := by decide +kernel
theorem dl_1321 : decode code 1321 = .ok (.ireturn, 1) := by decide +kernel
theorem dl_1322 : decode code 1322 = .ok (.aload_n 1, 1) := by decide +kernel
theorem dl_1323 : decode code 1323 = .ok (.aload_n 0, 1) := by decide +kernel
theorem dl_1324 : decode code 1324 = .ok (.iload_n 3, 1) := by decide +kernel
theorem dl_1325 : decode code 1325 = .ok (.iconst 1, 1) := by decide +kernel
theorem dl_1326 : decode code 1326 = .ok (.iadd, 1) := by decide +kernel
theorem dl_1327 : decode code 1327 = .ok (.iaload, 1) := by decide +kernel
theorem dl_1328 : decode code 1328 = .ok (.aload_n 0, 1) := by decide +kernel
theorem dl_1329 : decode code 1329 = .ok (.iload_n 3, 1) := by decide +kernel
theorem dl_1330 : decode code 1330 = .ok (.iconst 2, 1) := by decide +kernel
theorem dl_1331 : decode code 1331 = .ok (.iadd, 1) := by decide +kernel
theorem dl_1332 : decode code 1332 = .ok (.iaload, 1) := by decide +kernel
theorem dl_1333 : decode code 1333 = .ok (.aload_n 0, 1) := by decide +kernel
theorem dl_1334 : decode code 1334 = .ok (.iload_n 3, 1) := by decide +kernel
theorem dl_1335 : decode code 1335 = .ok (.iconst 3, 1) := by decide +kernel
theorem dl_1336 : decode code 1336 = .ok (.iadd, 1) := by decide +kernel
theorem dl_1337 : decode code 1337 = .ok (.iaload, 1) := by decide +kernel
theorem dl_1338 : decode code 1338 = .ok (.aload_n 0, 1) := by decide +kernel
theorem dl_1339 : decode code 1339 = .ok (.iload_n 3, 1) := by decide +kernel
theorem dl_1340 : decode code 1340 = .ok (.iconst 4, 1) := by decide +kernel
theorem dl_1341 : decode code 1341 = .ok (.iadd, 1) := by decide +kernel
theorem dl_1342 : decode code 1342 = .ok (.iaload, 1) := by decide +kernel
theorem dl_1343 : decode code 1343 = .ok (.aload_n 0, 1) := by decide +kernel
theorem dl_1344 : decode code 1344 = .ok (.iload_n 3, 1) := by decide +kernel
theorem dl_1345 : decode code 1345 = .ok (.iconst 5, 1) := by decide +kernel
theorem dl_1346 : decode code 1346 = .ok (.iadd, 1) := by decide +kernel
theorem dl_1347 : decode code 1347 = .ok (.iaload, 1) := by decide +kernel
theorem dl_1348 : decode code 1348 = .ok (.invokevirtual 135, 3) := by decide +kernel
theorem dl_1351 : decode code 1351 = .ok (.aload_n 2, 1) := by decide +kernel
theorem dl_1352 : decode code 1352 = .ok (.aload_n 0, 1) := by decide +kernel
theorem dl_1353 : decode code 1353 = .ok (.iload_n 3, 1) := by decide +kernel
theorem dl_1354 : decode code 1354 = .ok (.iconst 1, 1) := by decide +kernel
theorem dl_1355 : decode code 1355 = .ok (.iadd, 1) := by decide +kernel
theorem dl_1356 : decode code 1356 = .ok (.iaload, 1) := by decide +kernel
theorem dl_1357 : decode code 1357 = .ok (.aload_n 0, 1) := by decide +kernel
theorem dl_1358 : decode code 1358 = .ok (.iload_n 3, 1) := by decide +kernel
theorem dl_1359 : decode code 1359 = .ok (.iconst 2, 1) := by decide +kernel
theorem dl_1360 : decode code 1360 = .ok (.iadd, 1) := by decide +kernel
theorem dl_1361 : decode code 1361 = .ok (.iaload, 1) := by decide +kernel
theorem dl_1362 : decode code 1362 = .ok (.aload_n 0, 1) := by decide +kernel
theorem dl_1363 : decode code 1363 = .ok (.iload_n 3, 1) := by decide +kernel
theorem dl_1364 : decode code 1364 = .ok (.iconst 3, 1) := by decide +kernel
theorem dl_1365 : decode code 1365 = .ok (.iadd, 1) := by decide +kernel
theorem dl_1366 : decode code 1366 = .ok (.iaload, 1) := by decide +kernel
theorem dl_1367 : decode code 1367 = .ok (.aload_n 0, 1) := by decide +kernel
theorem dl_1368 : decode code 1368 = .ok (.iload_n 3, 1) := by decide +kernel
theorem dl_1369 : decode code 1369 = .ok (.iconst 4, 1) := by decide +kernel
theorem dl_1370 : decode code 1370 = .ok (.iadd, 1) := by decide +kernel
theorem dl_1371 : decode code 1371 = .ok (.iaload, 1) := by decide +kernel
theorem dl_1372 : decode code 1372 = .ok (.aload_n 0, 1) := by decide +kernel
theorem dl_1373 : decode code 1373 = .ok (.iload_n 3, 1) := by decide +kernel
theorem dl_1374 : decode code 1374 = .ok (.iconst 5, 1) := by decide +kernel
theorem dl_1375 : decode code 1375 = .ok (.iadd, 1) := by decide +kernel
theorem dl_1376 : decode code 1376 = .ok (.iaload, 1) := by decide +kernel
theorem dl_1377 : decode code 1377 = .ok (.invokevirtual 138, 3) := by decide +kernel
theorem dl_1380 : decode code 1380 = .ok (.if_icmp .eq 104, 3) := by decide +kernel
theorem dl_1383 : decode code 1383 = .ok (.iconst 0, 1) := by decide +kernel
theorem dl_1384 : decode code 1384 = .ok (.ireturn, 1) := by decide +kernel
theorem dl_1385 : decode code 1385 = .ok (.aload_n 1, 1) := by decide +kernel
theorem dl_1386 : decode code 1386 = .ok (.aload_n 0, 1) := by decide +kernel
theorem dl_1387 : decode code 1387 = .ok (.iload_n 3, 1) := by decide +kernel
theorem dl_1388 : decode code 1388 = .ok (.iconst 1, 1) := by decide +kernel
theorem dl_1389 : decode code 1389 = .ok (.iadd, 1) := by decide +kernel
theorem dl_1390 : decode code 1390 = .ok (.iaload, 1) := by decide +kernel
theorem dl_1391 : decode code 1391 = .ok (.aload_n 0, 1) := by decide +kernel
theorem dl_1392 : decode code 1392 = .ok (.iload_n 3, 1) := by decide +kernel
theorem dl_1393 : decode code 1393 = .ok (.iconst 2, 1) := by decide +kernel
theorem dl_1394 : decode code 1394 = .ok (.iadd, 1) := by decide +kernel
theorem dl_1395 : decode code 1395 = .ok (.iaload, 1) := by decide +kernel
theorem dl_1396 : decode code 1396 = .ok (.invokevirtual 139, 3) := by decide +kernel
theorem dl_1399 : decode code 1399 = .ok (.aload_n 2, 1) := by decide +kernel
theorem dl_1400 : decode code 1400 = .ok (.aload_n 0, 1) := by decide +kernel
theorem dl_1401 : decode code 1401 = .ok (.iload_n 3, 1) := by decide +kernel
theorem dl_1402 : decode code 1402 = .ok (.iconst 1, 1) := by decide +kernel
theorem dl_1403 : decode code 1403 = .ok (.iadd, 1) := by decide +kernel
theorem dl_1404 : decode code 1404 = .ok (.iaload, 1) := by decide +kernel
theorem dl_1405 : decode code 1405 = .ok (.aload_n 0, 1) := by decide +kernel
theorem dl_1406 : decode code 1406 = .ok (.iload_n 3, 1) := by decide +kernel
theorem dl_1407 : decode code 1407 = .ok (.iconst 2, 1) := by decide +kernel
theorem dl_1408 : decode code 1408 = .ok (.iadd, 1) := by decide +kernel
theorem dl_1409 : decode code 1409 = .ok (.iaload, 1) := by decide +kernel
theorem dl_1410 : decode code 1410 = .ok (.invokevirtual 142, 3) := by decide +kernel
theorem dl_1413 : decode code 1413 = .ok (.if_icmp .eq 71, 3) := by decide +kernel
theorem dl_1416 : decode code 1416 = .ok (.iconst 0, 1) := by decide +kernel
theorem dl_1417 : decode code 1417 = .ok (.ireturn, 1) := by decide +kernel
theorem dl_1418 : decode code 1418 = .ok (.aload_n 1, 1) := by decide +kernel
theorem dl_1419 : decode code 1419 = .ok (.aload_n 0, 1) := by decide +kernel
theorem dl_1420 : decode code 1420 = .ok (.iload_n 3, 1) := by decide +kernel
theorem dl_1421 : decode code 1421 = .ok (.iconst 1, 1) := by decide +kernel
theorem dl_1422 : decode code 1422 = .ok (.iadd, 1) := by decide +kernel
theorem dl_1423 : decode code 1423 = .ok (.iaload, 1) := by decide +kernel
theorem dl_1424 : decode code 1424 = .ok (.invokevirtual 143, 3) := by decide +kernel
theorem dl_1427 : decode code 1427 = .ok (.aload_n 2, 1) := by decide +kernel
theorem dl_1428 : decode code 1428 = .ok (.aload_n 0, 1) := by decide +kernel
theorem dl_1429 : decode code 1429 = .ok (.iload_n 3, 1) := by decide +kernel
theorem dl_1430 : decode code 1430 = .ok (.iconst 1, 1) := by decide +kernel
theorem dl_1431 : decode code 1431 = .ok (.iadd, 1) := by decide +kernel
theorem dl_1432 : decode code 1432 = .ok (.iaload, 1) := by decide +kernel
theorem dl_1433 : decode code 1433 = .ok (.invokevirtual 146, 3) := by decide +kernel
theorem dl_1436 : decode code 1436 = .ok (.if_icmp .eq 48, 3) := by decide +kernel
theorem dl_1439 : decode code 1439 = .ok (.iconst 0, 1) := by decide +kernel
theorem dl_1440 : decode code 1440 = .ok (.ireturn, 1) := by decide +kernel
theorem dl_1441 : decode code 1441 = .ok (.aload_n 1, 1) := by decide +kernel
theorem dl_1442 : decode code 1442 = .ok (.aload_n 0, 1) := by decide +kernel
theorem dl_1443 : decode code 1443 = .ok (.iload_n 3, 1) := by decide +kernel
theorem dl_1444 : decode code 1444 = .ok (.iconst 1, 1) := by decide +kernel
theorem dl_1445 : decode code 1445 = .ok (.iadd, 1) := by decide +kernel
theorem dl_1446 : decode code 1446 = .ok (.iaload, 1) := by decide +kernel
theorem dl_1447 : decode code 1447 = .ok (.aload_n 0, 1) := by decide +kernel
theorem dl_1448 : decode code 1448 = .ok (.iload_n 3, 1) := by decide +kernel
theorem dl_1449 : decode code 1449 = .ok (.iconst 2, 1) := by decide +kernel
theorem dl_1450 : decode code 1450 = .ok (.iadd, 1) := by decide +kernel
theorem dl_1451 : decode code 1451 = .ok (.iaload, 1) := by decide +kernel
theorem dl_1452 : decode code 1452 = .ok (.aload_n 0, 1) := by decide +kernel
theorem dl_1453 : decode code 1453 = .ok (.iload_n 3, 1) := by decide +kernel
theorem dl_1454 : decode code 1454 = .ok (.iconst 3, 1) := by decide +kernel
theorem dl_1455 : decode code 1455 = .ok (.iadd, 1) := by decide +kernel
theorem dl_1456 : decode code 1456 = .ok (.iaload, 1) := by decide +kernel
theorem dl_1457 : decode code 1457 = .ok (.invokevirtual 147, 3) := by decide +kernel
theorem dl_1460 : decode code 1460 = .ok (.aload_n 2, 1) := by decide +kernel
theorem dl_1461 : decode code 1461 = .ok (.aload_n 0, 1) := by decide +kernel
theorem dl_1462 : decode code 1462 = .ok (.iload_n 3, 1) := by decide +kernel
theorem dl_1463 : decode code 1463 = .ok (.iconst 1, 1) := by decide +kernel
theorem dl_1464 : decode code 1464 = .ok (.iadd, 1) := by decide +kernel
theorem dl_1465 : decode code 1465 = .ok (.iaload, 1) := by decide +kernel
theorem dl_1466 : decode code 1466 = .ok (.aload_n 0, 1) := by decide +kernel
theorem dl_1467 : decode code 1467 = .ok (.iload_n 3, 1) := by decide +kernel
theorem dl_1468 : decode code 1468 = .ok (.iconst 2, 1) := by decide +kernel
theorem dl_1469 : decode code 1469 = .ok (.iadd, 1) := by decide +kernel
theorem dl_1470 : decode code 1470 = .ok (.iaload, 1) := by decide +kernel
theorem dl_1471 : decode code 1471 = .ok (.aload_n 0, 1) := by decide +kernel
theorem dl_1472 : decode code 1472 = .ok (.iload_n 3, 1) := by decide +kernel
theorem dl_1473 : decode code 1473 = .ok (.iconst 3, 1) := by decide +kernel
theorem dl_1474 : decode code 1474 = .ok (.iadd, 1) := by decide +kernel
theorem dl_1475 : decode code 1475 = .ok (.iaload, 1) := by decide +kernel
theorem dl_1476 : decode code 1476 = .ok (.invokevirtual 150, 3) := by decide +kernel
theorem dl_1479 : decode code 1479 = .ok (.if_icmp .eq 5, 3) := by decide +kernel
theorem dl_1482 : decode code 1482 = .ok (.iconst 0, 1) := by decide +kernel
theorem dl_1483 : decode code 1483 = .ok (.ireturn, 1) := by decide +kernel
theorem dl_1484 : decode code 1484 = .ok (.iinc 3 7, 3) := by decide +kernel
theorem dl_1487 : decode code 1487 = .ok (.goto (-1469), 3) := by decide +kernel
theorem dl_1490 : decode code 1490 = .ok (.iconst 1, 1) := by decide +kernel
theorem dl_1491 : decode code 1491 = .ok (.ireturn, 1) := by decide +kernel
/-- what the two systems owe each other -/
def lwSim (Rel : AM → AM → Prop) (y1 y2 : Nat) (as : List AV) : Prop := ∀ M1 M2, Rel M1 M2 → ∃ K1 K2 : Int → AM → Prop, aCi s1_G 200 y1 (aP 0 :: as) M1 K1 ∧ aCi s2_G 200 y2 (aP 0 :: as) M2 K2 ∧ ∀ z1 M1' z2 M2', K1 z1 M1' → K2 z2 M2' → z1 = z2 ∧ Rel M1' M2'
/-- all that the calls owe: in the order of the law's cases -/
def lwSims (Rel : AM → AM → Prop) : Prop := (∀ a1 : Int, aR32 a1 → lwSim Rel 107 7 [aI a1]) ∧
  (∀ a1 : Int, aR32 a1 → lwSim Rel 108 8 [aI a1]) ∧
  (∀ a1 a2 a3 : Int, aR32 a1 → aR32 a2 → aR32 a3 → lwSim Rel 109 9 [aI a1, aI a2, aI a3]) ∧
  (∀ a1 a2 a3 : Int, aR32 a1 → aR32 a2 → aR32 a3 → lwSim Rel 110 11 [aI a1, aI a2, aI a3]) ∧
  (∀ a1 a2 a3 a4 a5 a6 : Int, aR32 a1 → aR32 a2 → aR32 a3 → aR32 a4 → aR32 a5 → aR32 a6 → lwSim Rel 111 16 [aI a1, aI a2, aI a3, aI a4, aI a5, aI a6]) ∧
  (∀ a1 a2 : Int, aR32 a1 → aR32 a2 → lwSim Rel 112 19 [aI a1, aI a2]) ∧
  (∀ a1 a2 : Int, aR32 a1 → aR32 a2 → lwSim Rel 113 20 [aI a1, aI a2]) ∧
  (∀ a1 a2 a3 : Int, aR32 a1 → aR32 a2 → aR32 a3 → lwSim Rel 114 26 [aI a1, aI a2, aI a3]) ∧
  (∀ a1 : Int, aR32 a1 → lwSim Rel 115 82 [aI a1]) ∧
  (∀ a1 a2 : Int, aR32 a1 → aR64 a2 → lwSim Rel 116 27 [aI a1, aL a2]) ∧
  (∀ a1 : Int, aR32 a1 → lwSim Rel 117 44 [aI a1]) ∧
  lwSim Rel 118 45 [] ∧
  (∀ a1 a2 a3 : Int, aR32 a1 → aR32 a2 → aR32 a3 → lwSim Rel 119 48 [aI a1, aI a2, aI a3]) ∧
  (∀ a1 a2 : Int, aR32 a1 → aR32 a2 → lwSim Rel 120 49 [aI a1, aI a2]) ∧
  (∀ a1 a2 a3 a4 : Int, aR32 a1 → aR32 a2 → aR32 a3 → aR32 a4 → lwSim Rel 121 71 [aI a1, aI a2, aI a3, aI a4]) ∧
  (∀ a1 a2 a3 a4 : Int, aR32 a1 → aR32 a2 → aR32 a3 → aR32 a4 → lwSim Rel 122 74 [aI a1, aI a2, aI a3, aI a4]) ∧
  (∀ a1 a2 : Int, aR32 a1 → aR32 a2 → lwSim Rel 123 76 [aI a1, aI a2]) ∧
  (∀ a1 a2 : Int, aR32 a1 → aR32 a2 → lwSim Rel 124 77 [aI a1, aI a2]) ∧
  (∀ a1 a2 a3 a4 : Int, aR32 a1 → aR32 a2 → aR32 a3 → aR32 a4 → lwSim Rel 126 78 [aI a1, aI a2, aI a3, aI a4]) ∧
  (∀ a1 a2 a3 a4 a5 : Int, aR32 a1 → aR32 a2 → aR32 a3 → aR32 a4 → aR32 a5 → lwSim Rel 127 79 [aI a1, aI a2, aI a3, aI a4, aI a5]) ∧
  (∀ a1 a2 a3 : Int, aR32 a1 → aR32 a2 → aR32 a3 → lwSim Rel 128 80 [aI a1, aI a2, aI a3]) ∧
  (∀ a1 a2 a3 : Int, aR32 a1 → aR32 a2 → aR32 a3 → lwSim Rel 129 83 [aI a1, aI a2, aI a3]) ∧
  (∀ a1 a2 : Int, aR32 a1 → aR32 a2 → lwSim Rel 130 85 [aI a1, aI a2]) ∧
  (∀ a1 a2 : Int, aR32 a1 → aR32 a2 → lwSim Rel 131 86 [aI a1, aI a2]) ∧
  (∀ a1 a2 a3 : Int, aR32 a1 → aR32 a2 → aR32 a3 → lwSim Rel 132 87 [aI a1, aI a2, aI a3]) ∧
  (∀ a1 a2 a3 a4 : Int, aR32 a1 → aR32 a2 → aR32 a3 → aR32 a4 → lwSim Rel 133 89 [aI a1, aI a2, aI a3, aI a4]) ∧
  (∀ a1 a2 a3 a4 a5 : Int, aR32 a1 → aR32 a2 → aR32 a3 → aR32 a4 → aR32 a5 → lwSim Rel 134 90 [aI a1, aI a2, aI a3, aI a4, aI a5]) ∧
  (∀ a1 a2 : Int, aR32 a1 → aR32 a2 → lwSim Rel 135 94 [aI a1, aI a2]) ∧
  (∀ a1 a2 a3 a4 a5 : Int, aR32 a1 → aR32 a2 → aR32 a3 → aR32 a4 → aR32 a5 → lwSim Rel 136 95 [aI a1, aI a2, aI a3, aI a4, aI a5]) ∧
  (∀ a1 a2 : Int, aR32 a1 → aR32 a2 → lwSim Rel 137 99 [aI a1, aI a2]) ∧
  (∀ a1 : Int, aR32 a1 → lwSim Rel 138 103 [aI a1]) ∧
  (∀ a1 a2 a3 : Int, aR32 a1 → aR32 a2 → aR32 a3 → lwSim Rel 139 110 [aI a1, aI a2, aI a3])
