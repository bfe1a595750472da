/-! ===== the law's loop ===== -/
def eScr (L : Nat) (xs : Nat → Int32) : av_Ex := fun X A s => va_X (X.2.1 86) L xs s s.heap ∧ X.2.1 86 < s.heap.size ∧ ¬ A (X.2.1 86)
section Loop
variable {l : Launch} {L d pc : Nat} {xs : Nat → Int32} {lv : List (Nat × Value)} {st : List Value} {σ : av_S} {Q : Option Value → av_S → Prop}
theorem ev_slen (hd : decode code pc = .ok (.arraylength, 1)) (k : av_Ev l RL code 4 ret (eScr L xs) d (pc + 1) lv (.int (nI L) :: st) σ Q) : av_Ev l RL code 4 ret (eScr L xs) d pc lv (.ref 86 :: st) σ Q :=
  fun X p e R s m args below meth c A cells slots Z F H locs ls hP hS hl => va_slen F.1 F.2.1 F.2.2.2.2.2.2.2.1.1 F.2.2.2.2.2.2.2.1.2.1 F.2.2.2.2.2.2.2.1.2.2 hS hd (k X p e R s m args below meth c A cells slots Z F H locs ls hP hS hl)
theorem ev_sld {i : Nat} (hd : decode code pc = .ok (.iaload, 1)) (hi : i < L) (hL : L ≤ 2560) (k : av_Ev l RL code 4 ret (eScr L xs) d (pc + 1) lv (.int (xs i) :: st) σ Q) : av_Ev l RL code 4 ret (eScr L xs) d pc lv (.int (nI i) :: .ref 86 :: st) σ Q :=
  fun X p e R s m args below meth c A cells slots Z F H locs ls hP hS hl => va_sld F.1 F.2.1 F.2.2.2.2.2.2.2.1.1 F.2.2.2.2.2.2.2.1.2.1 F.2.2.2.2.2.2.2.1.2.2 hS (vp_in_nI hi (by omega)) hd (by rw [nI_clamp (by omega)]; exact k X p e R s m args below meth c A cells slots Z F H locs ls hP hS hl)
def lvL (i : Nat) : List (Nat × Value) := [(0, .ref 86), (1, .ref 63), (2, .ref 77), (3, .int (nI i))]
/-- script[i + j] -/
theorem ld_arg {i : Nat} (j : Nat) {n : Int} (d0 : decode code pc = .ok (.aload_n 0, 1)) (d1 : decode code (pc + 1) = .ok (.iload_n 3, 1)) (d2 : decode code (pc + 2) = .ok (.iconst n, 1)) (hn : Int32.ofInt n = nI j) (d3 : decode code (pc + 3) = .ok (.iadd, 1)) (d4 : decode code (pc + 4) = .ok (.iaload, 1)) (hi : i + j < L) (hL : L ≤ 2560) (k : av_Ev l RL code 4 ret (eScr L xs) d (pc + 5) (lvL i) (.int (xs (i + j)) :: st) σ Q) : av_Ev l RL code 4 ret (eScr L xs) d pc (lvL i) st σ Q := by
  refine ev_aload_n d0 rfl 0 rfl ?_
  refine ev_iload_n d1 rfl 3 rfl ?_
  refine ev_iconst d2 hn ?_
  refine ev_iadd d3 ?_
  refine ev_top (nI_add _ _) ?_
  exact ev_sld d4 hi hL k
theorem lw_c0 {i : Nat} (hL : L ≤ 2560) (hi : i + 4 < L) (hI : Inv σ) (K : ∀ σ2, Inv σ2 → av_Ev l RL code 4 ret (eScr L xs) 41 1038 (lvL i) [] σ2 Q) : av_Ev l RL code 4 ret (eScr L xs) 41 168 (lvL i) [] σ Q := by
  obtain ⟨r, σ1, σ2, h1, h2, h3⟩ := q_createServers (l := l) hI (xs (i + 1))
  refine ev_aload_n dL_law_168 rfl 1 rfl ?_
  refine ld_arg 1 dL_law_169 dL_law_170 dL_law_171 rfl dL_law_172 dL_law_173 (by omega) hL ?_
  refine ev_callVi (d' := 40) dL_law_174 M_L_13 Y_X5_createServers [.int (xs (i + 1))] h1 (by decide) (Nat.le_of_ble_eq_true rfl) (by decide) sh_63 rfl rfl rfl (Nat.le_of_ble_eq_true rfl) ?_
  refine ev_aload_n dL_law_177 rfl 2 rfl ?_
  refine ld_arg 1 dL_law_178 dL_law_179 dL_law_180 rfl dL_law_181 dL_law_182 (by omega) hL ?_
  refine ev_callVi (d' := 40) dL_law_183 M_L_17 Y_X6_createServers [.int (xs (i + 1))] h2 (by decide) (Nat.le_of_ble_eq_true rfl) (by decide) sh_77 rfl rfl rfl (Nat.le_of_ble_eq_true rfl) ?_
  exact ev_icmp_eq (tgt := 1038) dL_law_186 (by decide) (fun _ => K σ2 h3) (fun h => absurd rfl h)
theorem lw_c1 {i : Nat} (hL : L ≤ 2560) (hi : i + 4 < L) (hI : Inv σ) (K : ∀ σ2, Inv σ2 → av_Ev l RL code 4 ret (eScr L xs) 41 1038 (lvL i) [] σ2 Q) : av_Ev l RL code 4 ret (eScr L xs) 41 191 (lvL i) [] σ Q := by
  obtain ⟨r, σ1, σ2, h1, h2, h3⟩ := q_connect (l := l) hI (xs (i + 1)) (xs (i + 2))
  refine ev_aload_n dL_law_191 rfl 1 rfl ?_
  refine ld_arg 1 dL_law_192 dL_law_193 dL_law_194 rfl dL_law_195 dL_law_196 (by omega) hL ?_
  refine ld_arg 2 dL_law_197 dL_law_198 dL_law_199 rfl dL_law_200 dL_law_201 (by omega) hL ?_
  refine ev_callVi (d' := 40) dL_law_202 M_L_18 Y_X5_connect [.int (xs (i + 1)), .int (xs (i + 2))] h1 (by decide) (Nat.le_of_ble_eq_true rfl) (by decide) sh_63 rfl rfl rfl (Nat.le_of_ble_eq_true rfl) ?_
  refine ev_aload_n dL_law_205 rfl 2 rfl ?_
  refine ld_arg 1 dL_law_206 dL_law_207 dL_law_208 rfl dL_law_209 dL_law_210 (by omega) hL ?_
  refine ld_arg 2 dL_law_211 dL_law_212 dL_law_213 rfl dL_law_214 dL_law_215 (by omega) hL ?_
  refine ev_callVi (d' := 40) dL_law_216 M_L_22 Y_X6_connect [.int (xs (i + 1)), .int (xs (i + 2))] h2 (by decide) (Nat.le_of_ble_eq_true rfl) (by decide) sh_77 rfl rfl rfl (Nat.le_of_ble_eq_true rfl) ?_
  exact ev_icmp_eq (tgt := 1038) dL_law_219 (by decide) (fun _ => K σ2 h3) (fun h => absurd rfl h)
theorem lw_c2 {i : Nat} (hL : L ≤ 2560) (hi : i + 4 < L) (hI : Inv σ) (K : ∀ σ2, Inv σ2 → av_Ev l RL code 4 ret (eScr L xs) 41 1038 (lvL i) [] σ2 Q) : av_Ev l RL code 4 ret (eScr L xs) 41 224 (lvL i) [] σ Q := by
  obtain ⟨r, σ1, σ2, h1, h2, h3⟩ := q_disconnect (l := l) hI (xs (i + 1)) (xs (i + 2))
  refine ev_aload_n dL_law_224 rfl 1 rfl ?_
  refine ld_arg 1 dL_law_225 dL_law_226 dL_law_227 rfl dL_law_228 dL_law_229 (by omega) hL ?_
  refine ld_arg 2 dL_law_230 dL_law_231 dL_law_232 rfl dL_law_233 dL_law_234 (by omega) hL ?_
  refine ev_callVi (d' := 40) dL_law_235 M_L_23 Y_X5_disconnect [.int (xs (i + 1)), .int (xs (i + 2))] h1 (by decide) (Nat.le_of_ble_eq_true rfl) (by decide) sh_63 rfl rfl rfl (Nat.le_of_ble_eq_true rfl) ?_
  refine ev_aload_n dL_law_238 rfl 2 rfl ?_
  refine ld_arg 1 dL_law_239 dL_law_240 dL_law_241 rfl dL_law_242 dL_law_243 (by omega) hL ?_
  refine ld_arg 2 dL_law_244 dL_law_245 dL_law_246 rfl dL_law_247 dL_law_248 (by omega) hL ?_
  refine ev_callVi (d' := 40) dL_law_249 M_L_26 Y_X6_disconnect [.int (xs (i + 1)), .int (xs (i + 2))] h2 (by decide) (Nat.le_of_ble_eq_true rfl) (by decide) sh_77 rfl rfl rfl (Nat.le_of_ble_eq_true rfl) ?_
  exact ev_icmp_eq (tgt := 1038) dL_law_252 (by decide) (fun _ => K σ2 h3) (fun h => absurd rfl h)
theorem lw_c3 {i : Nat} (hL : L ≤ 2560) (hi : i + 4 < L) (hI : Inv σ) (K : ∀ σ2, Inv σ2 → av_Ev l RL code 4 ret (eScr L xs) 41 1038 (lvL i) [] σ2 Q) : av_Ev l RL code 4 ret (eScr L xs) 41 257 (lvL i) [] σ Q := by
  obtain ⟨r, σ1, σ2, h1, h2, h3⟩ := q_advance (l := l) hI (xs (i + 1))
  refine ev_aload_n dL_law_257 rfl 1 rfl ?_
  refine ld_arg 1 dL_law_258 dL_law_259 dL_law_260 rfl dL_law_261 dL_law_262 (by omega) hL ?_
  refine ev_callVi (d' := 40) dL_law_263 M_L_27 Y_X5_advance [.int (xs (i + 1))] h1 (by decide) (Nat.le_of_ble_eq_true rfl) (by decide) sh_63 rfl rfl rfl (Nat.le_of_ble_eq_true rfl) ?_
  refine ev_aload_n dL_law_266 rfl 2 rfl ?_
  refine ld_arg 1 dL_law_267 dL_law_268 dL_law_269 rfl dL_law_270 dL_law_271 (by omega) hL ?_
  refine ev_callVi (d' := 40) dL_law_272 M_L_30 Y_X6_advance [.int (xs (i + 1))] h2 (by decide) (Nat.le_of_ble_eq_true rfl) (by decide) sh_77 rfl rfl rfl (Nat.le_of_ble_eq_true rfl) ?_
  exact ev_icmp_eq (tgt := 1038) dL_law_275 (by decide) (fun _ => K σ2 h3) (fun h => absurd rfl h)
theorem lw_c4 {i : Nat} (hL : L ≤ 2560) (hi : i + 4 < L) (hI : Inv σ) (K : ∀ σ2, Inv σ2 → av_Ev l RL code 4 ret (eScr L xs) 41 1038 (lvL i) [] σ2 Q) : av_Ev l RL code 4 ret (eScr L xs) 41 280 (lvL i) [] σ Q := by
  obtain ⟨r, σ1, σ2, h1, h2, h3⟩ := q_time (l := l) hI 
  refine ev_aload_n dL_law_280 rfl 1 rfl ?_
  refine ev_callVi (d' := 40) dL_law_281 M_L_31 Y_X5_time [] h1 (by decide) (Nat.le_of_ble_eq_true rfl) (by decide) sh_63 rfl rfl rfl (Nat.le_of_ble_eq_true rfl) ?_
  refine ev_aload_n dL_law_284 rfl 2 rfl ?_
  refine ev_callVi (d' := 40) dL_law_285 M_L_35 Y_X6_time [] h2 (by decide) (Nat.le_of_ble_eq_true rfl) (by decide) sh_77 rfl rfl rfl (Nat.le_of_ble_eq_true rfl) ?_
  exact ev_icmp_eq (tgt := 1038) dL_law_288 (by decide) (fun _ => K σ2 h3) (fun h => absurd rfl h)
theorem lw_c5 {i : Nat} (hL : L ≤ 2560) (hi : i + 4 < L) (hI : Inv σ) (K : ∀ σ2, Inv σ2 → av_Ev l RL code 4 ret (eScr L xs) 41 1038 (lvL i) [] σ2 Q) : av_Ev l RL code 4 ret (eScr L xs) 41 293 (lvL i) [] σ Q := by
  obtain ⟨r, σ1, σ2, h1, h2, h3⟩ := q_hops (l := l) hI (xs (i + 1)) (xs (i + 2))
  refine ev_aload_n dL_law_293 rfl 1 rfl ?_
  refine ld_arg 1 dL_law_294 dL_law_295 dL_law_296 rfl dL_law_297 dL_law_298 (by omega) hL ?_
  refine ld_arg 2 dL_law_299 dL_law_300 dL_law_301 rfl dL_law_302 dL_law_303 (by omega) hL ?_
  refine ev_callVi (d' := 40) dL_law_304 M_L_36 Y_X5_hops [.int (xs (i + 1)), .int (xs (i + 2))] h1 (by decide) (Nat.le_of_ble_eq_true rfl) (by decide) sh_63 rfl rfl rfl (Nat.le_of_ble_eq_true rfl) ?_
  refine ev_aload_n dL_law_307 rfl 2 rfl ?_
  refine ld_arg 1 dL_law_308 dL_law_309 dL_law_310 rfl dL_law_311 dL_law_312 (by omega) hL ?_
  refine ld_arg 2 dL_law_313 dL_law_314 dL_law_315 rfl dL_law_316 dL_law_317 (by omega) hL ?_
  refine ev_callVi (d' := 40) dL_law_318 M_L_39 Y_X6_hops [.int (xs (i + 1)), .int (xs (i + 2))] h2 (by decide) (Nat.le_of_ble_eq_true rfl) (by decide) sh_77 rfl rfl rfl (Nat.le_of_ble_eq_true rfl) ?_
  exact ev_icmp_eq (tgt := 1038) dL_law_321 (by decide) (fun _ => K σ2 h3) (fun h => absurd rfl h)
theorem lw_c6 {i : Nat} (hL : L ≤ 2560) (hi : i + 4 < L) (hI : Inv σ) (K : ∀ σ2, Inv σ2 → av_Ev l RL code 4 ret (eScr L xs) 41 1038 (lvL i) [] σ2 Q) : av_Ev l RL code 4 ret (eScr L xs) 41 326 (lvL i) [] σ Q := by
  obtain ⟨r, σ1, σ2, h1, h2, h3⟩ := q_signOn (l := l) hI (xs (i + 1)) (xs (i + 2))
  refine ev_aload_n dL_law_326 rfl 1 rfl ?_
  refine ld_arg 1 dL_law_327 dL_law_328 dL_law_329 rfl dL_law_330 dL_law_331 (by omega) hL ?_
  refine ld_arg 2 dL_law_332 dL_law_333 dL_law_334 rfl dL_law_335 dL_law_336 (by omega) hL ?_
  refine ev_callVi (d' := 40) dL_law_337 M_L_40 Y_X5_signOn [.int (xs (i + 1)), .int (xs (i + 2))] h1 (by decide) (Nat.le_of_ble_eq_true rfl) (by decide) sh_63 rfl rfl rfl (Nat.le_of_ble_eq_true rfl) ?_
  refine ev_aload_n dL_law_340 rfl 2 rfl ?_
  refine ld_arg 1 dL_law_341 dL_law_342 dL_law_343 rfl dL_law_344 dL_law_345 (by omega) hL ?_
  refine ld_arg 2 dL_law_346 dL_law_347 dL_law_348 rfl dL_law_349 dL_law_350 (by omega) hL ?_
  refine ev_callVi (d' := 40) dL_law_351 M_L_43 Y_X6_signOn [.int (xs (i + 1)), .int (xs (i + 2))] h2 (by decide) (Nat.le_of_ble_eq_true rfl) (by decide) sh_77 rfl rfl rfl (Nat.le_of_ble_eq_true rfl) ?_
  exact ev_icmp_eq (tgt := 1038) dL_law_354 (by decide) (fun _ => K σ2 h3) (fun h => absurd rfl h)
theorem lw_c7 {i : Nat} (hL : L ≤ 2560) (hi : i + 4 < L) (hI : Inv σ) (K : ∀ σ2, Inv σ2 → av_Ev l RL code 4 ret (eScr L xs) 41 1038 (lvL i) [] σ2 Q) : av_Ev l RL code 4 ret (eScr L xs) 41 359 (lvL i) [] σ Q := by
  obtain ⟨r, σ1, σ2, h1, h2, h3⟩ := q_signOff (l := l) hI (xs (i + 1)) (xs (i + 2))
  refine ev_aload_n dL_law_359 rfl 1 rfl ?_
  refine ld_arg 1 dL_law_360 dL_law_361 dL_law_362 rfl dL_law_363 dL_law_364 (by omega) hL ?_
  refine ld_arg 2 dL_law_365 dL_law_366 dL_law_367 rfl dL_law_368 dL_law_369 (by omega) hL ?_
  refine ev_callVi (d' := 40) dL_law_370 M_L_44 Y_X5_signOff [.int (xs (i + 1)), .int (xs (i + 2))] h1 (by decide) (Nat.le_of_ble_eq_true rfl) (by decide) sh_63 rfl rfl rfl (Nat.le_of_ble_eq_true rfl) ?_
  refine ev_aload_n dL_law_373 rfl 2 rfl ?_
  refine ld_arg 1 dL_law_374 dL_law_375 dL_law_376 rfl dL_law_377 dL_law_378 (by omega) hL ?_
  refine ld_arg 2 dL_law_379 dL_law_380 dL_law_381 rfl dL_law_382 dL_law_383 (by omega) hL ?_
  refine ev_callVi (d' := 40) dL_law_384 M_L_47 Y_X6_signOff [.int (xs (i + 1)), .int (xs (i + 2))] h2 (by decide) (Nat.le_of_ble_eq_true rfl) (by decide) sh_77 rfl rfl rfl (Nat.le_of_ble_eq_true rfl) ?_
  exact ev_icmp_eq (tgt := 1038) dL_law_387 (by decide) (fun _ => K σ2 h3) (fun h => absurd rfl h)
theorem lw_c8 {i : Nat} (hL : L ≤ 2560) (hi : i + 4 < L) (hI : Inv σ) (K : ∀ σ2, Inv σ2 → av_Ev l RL code 4 ret (eScr L xs) 41 1038 (lvL i) [] σ2 Q) : av_Ev l RL code 4 ret (eScr L xs) 41 392 (lvL i) [] σ Q := by
  obtain ⟨r, σ1, σ2, h1, h2, h3⟩ := q_changeNick (l := l) hI (xs (i + 1)) (xs (i + 2)) (xs (i + 3))
  refine ev_aload_n dL_law_392 rfl 1 rfl ?_
  refine ld_arg 1 dL_law_393 dL_law_394 dL_law_395 rfl dL_law_396 dL_law_397 (by omega) hL ?_
  refine ld_arg 2 dL_law_398 dL_law_399 dL_law_400 rfl dL_law_401 dL_law_402 (by omega) hL ?_
  refine ld_arg 3 dL_law_403 dL_law_404 dL_law_405 rfl dL_law_406 dL_law_407 (by omega) hL ?_
  refine ev_callVi (d' := 40) dL_law_408 M_L_48 Y_X5_changeNick [.int (xs (i + 1)), .int (xs (i + 2)), .int (xs (i + 3))] h1 (by decide) (Nat.le_of_ble_eq_true rfl) (by decide) sh_63 rfl rfl rfl (Nat.le_of_ble_eq_true rfl) ?_
  refine ev_aload_n dL_law_411 rfl 2 rfl ?_
  refine ld_arg 1 dL_law_412 dL_law_413 dL_law_414 rfl dL_law_415 dL_law_416 (by omega) hL ?_
  refine ld_arg 2 dL_law_417 dL_law_418 dL_law_419 rfl dL_law_420 dL_law_421 (by omega) hL ?_
  refine ld_arg 3 dL_law_422 dL_law_423 dL_law_424 rfl dL_law_425 dL_law_426 (by omega) hL ?_
  refine ev_callVi (d' := 40) dL_law_427 M_L_52 Y_X6_changeNick [.int (xs (i + 1)), .int (xs (i + 2)), .int (xs (i + 3))] h2 (by decide) (Nat.le_of_ble_eq_true rfl) (by decide) sh_77 rfl rfl rfl (Nat.le_of_ble_eq_true rfl) ?_
  exact ev_icmp_eq (tgt := 1038) dL_law_430 (by decide) (fun _ => K σ2 h3) (fun h => absurd rfl h)
theorem lw_c9 {i : Nat} (hL : L ≤ 2560) (hi : i + 4 < L) (hI : Inv σ) (K : ∀ σ2, Inv σ2 → av_Ev l RL code 4 ret (eScr L xs) 41 1038 (lvL i) [] σ2 Q) : av_Ev l RL code 4 ret (eScr L xs) 41 435 (lvL i) [] σ Q := by
  obtain ⟨r, σ1, σ2, h1, h2, h3⟩ := q_homeServer (l := l) hI (xs (i + 1)) (xs (i + 2))
  refine ev_aload_n dL_law_435 rfl 1 rfl ?_
  refine ld_arg 1 dL_law_436 dL_law_437 dL_law_438 rfl dL_law_439 dL_law_440 (by omega) hL ?_
  refine ld_arg 2 dL_law_441 dL_law_442 dL_law_443 rfl dL_law_444 dL_law_445 (by omega) hL ?_
  refine ev_callVi (d' := 40) dL_law_446 M_L_53 Y_X5_homeServer [.int (xs (i + 1)), .int (xs (i + 2))] h1 (by decide) (Nat.le_of_ble_eq_true rfl) (by decide) sh_63 rfl rfl rfl (Nat.le_of_ble_eq_true rfl) ?_
  refine ev_aload_n dL_law_449 rfl 2 rfl ?_
  refine ld_arg 1 dL_law_450 dL_law_451 dL_law_452 rfl dL_law_453 dL_law_454 (by omega) hL ?_
  refine ld_arg 2 dL_law_455 dL_law_456 dL_law_457 rfl dL_law_458 dL_law_459 (by omega) hL ?_
  refine ev_callVi (d' := 40) dL_law_460 M_L_56 Y_X6_homeServer [.int (xs (i + 1)), .int (xs (i + 2))] h2 (by decide) (Nat.le_of_ble_eq_true rfl) (by decide) sh_77 rfl rfl rfl (Nat.le_of_ble_eq_true rfl) ?_
  exact ev_icmp_eq (tgt := 1038) dL_law_463 (by decide) (fun _ => K σ2 h3) (fun h => absurd rfl h)
theorem lw_c10 {i : Nat} (hL : L ≤ 2560) (hi : i + 4 < L) (hI : Inv σ) (K : ∀ σ2, Inv σ2 → av_Ev l RL code 4 ret (eScr L xs) 41 1038 (lvL i) [] σ2 Q) : av_Ev l RL code 4 ret (eScr L xs) 41 468 (lvL i) [] σ Q := by
  obtain ⟨r, σ1, σ2, h1, h2, h3⟩ := q_userTimestamp (l := l) hI (xs (i + 1)) (xs (i + 2))
  refine ev_aload_n dL_law_468 rfl 1 rfl ?_
  refine ld_arg 1 dL_law_469 dL_law_470 dL_law_471 rfl dL_law_472 dL_law_473 (by omega) hL ?_
  refine ld_arg 2 dL_law_474 dL_law_475 dL_law_476 rfl dL_law_477 dL_law_478 (by omega) hL ?_
  refine ev_callVi (d' := 40) dL_law_479 M_L_57 Y_X5_userTimestamp [.int (xs (i + 1)), .int (xs (i + 2))] h1 (by decide) (Nat.le_of_ble_eq_true rfl) (by decide) sh_63 rfl rfl rfl (Nat.le_of_ble_eq_true rfl) ?_
  refine ev_aload_n dL_law_482 rfl 2 rfl ?_
  refine ld_arg 1 dL_law_483 dL_law_484 dL_law_485 rfl dL_law_486 dL_law_487 (by omega) hL ?_
  refine ld_arg 2 dL_law_488 dL_law_489 dL_law_490 rfl dL_law_491 dL_law_492 (by omega) hL ?_
  refine ev_callVi (d' := 40) dL_law_493 M_L_60 Y_X6_userTimestamp [.int (xs (i + 1)), .int (xs (i + 2))] h2 (by decide) (Nat.le_of_ble_eq_true rfl) (by decide) sh_77 rfl rfl rfl (Nat.le_of_ble_eq_true rfl) ?_
  exact ev_icmp_eq (tgt := 1038) dL_law_496 (by decide) (fun _ => K σ2 h3) (fun h => absurd rfl h)
theorem lw_c11 {i : Nat} (hL : L ≤ 2560) (hi : i + 4 < L) (hI : Inv σ) (K : ∀ σ2, Inv σ2 → av_Ev l RL code 4 ret (eScr L xs) 41 1038 (lvL i) [] σ2 Q) : av_Ev l RL code 4 ret (eScr L xs) 41 501 (lvL i) [] σ Q := by
  obtain ⟨r, σ1, σ2, h1, h2, h3⟩ := q_visibleUsers (l := l) hI (xs (i + 1))
  refine ev_aload_n dL_law_501 rfl 1 rfl ?_
  refine ld_arg 1 dL_law_502 dL_law_503 dL_law_504 rfl dL_law_505 dL_law_506 (by omega) hL ?_
  refine ev_callVi (d' := 40) dL_law_507 M_L_61 Y_X5_visibleUsers [.int (xs (i + 1))] h1 (by decide) (Nat.le_of_ble_eq_true rfl) (by decide) sh_63 rfl rfl rfl (Nat.le_of_ble_eq_true rfl) ?_
  refine ev_aload_n dL_law_510 rfl 2 rfl ?_
  refine ld_arg 1 dL_law_511 dL_law_512 dL_law_513 rfl dL_law_514 dL_law_515 (by omega) hL ?_
  refine ev_callVi (d' := 40) dL_law_516 M_L_64 Y_X6_visibleUsers [.int (xs (i + 1))] h2 (by decide) (Nat.le_of_ble_eq_true rfl) (by decide) sh_77 rfl rfl rfl (Nat.le_of_ble_eq_true rfl) ?_
  exact ev_icmp_eq (tgt := 1038) dL_law_519 (by decide) (fun _ => K σ2 h3) (fun h => absurd rfl h)
theorem lw_c12 {i : Nat} (hL : L ≤ 2560) (hi : i + 4 < L) (hI : Inv σ) (K : ∀ σ2, Inv σ2 → av_Ev l RL code 4 ret (eScr L xs) 41 1038 (lvL i) [] σ2 Q) : av_Ev l RL code 4 ret (eScr L xs) 41 524 (lvL i) [] σ Q := by
  obtain ⟨r, σ1, σ2, h1, h2, h3⟩ := q_join (l := l) hI (xs (i + 1)) (xs (i + 2)) (xs (i + 3))
  refine ev_aload_n dL_law_524 rfl 1 rfl ?_
  refine ld_arg 1 dL_law_525 dL_law_526 dL_law_527 rfl dL_law_528 dL_law_529 (by omega) hL ?_
  refine ld_arg 2 dL_law_530 dL_law_531 dL_law_532 rfl dL_law_533 dL_law_534 (by omega) hL ?_
  refine ld_arg 3 dL_law_535 dL_law_536 dL_law_537 rfl dL_law_538 dL_law_539 (by omega) hL ?_
  refine ev_callVi (d' := 40) dL_law_540 M_L_65 Y_X5_join [.int (xs (i + 1)), .int (xs (i + 2)), .int (xs (i + 3))] h1 (by decide) (Nat.le_of_ble_eq_true rfl) (by decide) sh_63 rfl rfl rfl (Nat.le_of_ble_eq_true rfl) ?_
  refine ev_aload_n dL_law_543 rfl 2 rfl ?_
  refine ld_arg 1 dL_law_544 dL_law_545 dL_law_546 rfl dL_law_547 dL_law_548 (by omega) hL ?_
  refine ld_arg 2 dL_law_549 dL_law_550 dL_law_551 rfl dL_law_552 dL_law_553 (by omega) hL ?_
  refine ld_arg 3 dL_law_554 dL_law_555 dL_law_556 rfl dL_law_557 dL_law_558 (by omega) hL ?_
  refine ev_callVi (d' := 40) dL_law_559 M_L_68 Y_X6_join [.int (xs (i + 1)), .int (xs (i + 2)), .int (xs (i + 3))] h2 (by decide) (Nat.le_of_ble_eq_true rfl) (by decide) sh_77 rfl rfl rfl (Nat.le_of_ble_eq_true rfl) ?_
  exact ev_icmp_eq (tgt := 1038) dL_law_562 (by decide) (fun _ => K σ2 h3) (fun h => absurd rfl h)
theorem lw_c13 {i : Nat} (hL : L ≤ 2560) (hi : i + 4 < L) (hI : Inv σ) (K : ∀ σ2, Inv σ2 → av_Ev l RL code 4 ret (eScr L xs) 41 1038 (lvL i) [] σ2 Q) : av_Ev l RL code 4 ret (eScr L xs) 41 567 (lvL i) [] σ Q := by
  obtain ⟨r, σ1, σ2, h1, h2, h3⟩ := q_part (l := l) hI (xs (i + 1)) (xs (i + 2)) (xs (i + 3))
  refine ev_aload_n dL_law_567 rfl 1 rfl ?_
  refine ld_arg 1 dL_law_568 dL_law_569 dL_law_570 rfl dL_law_571 dL_law_572 (by omega) hL ?_
  refine ld_arg 2 dL_law_573 dL_law_574 dL_law_575 rfl dL_law_576 dL_law_577 (by omega) hL ?_
  refine ld_arg 3 dL_law_578 dL_law_579 dL_law_580 rfl dL_law_581 dL_law_582 (by omega) hL ?_
  refine ev_callVi (d' := 40) dL_law_583 M_L_69 Y_X5_part [.int (xs (i + 1)), .int (xs (i + 2)), .int (xs (i + 3))] h1 (by decide) (Nat.le_of_ble_eq_true rfl) (by decide) sh_63 rfl rfl rfl (Nat.le_of_ble_eq_true rfl) ?_
  refine ev_aload_n dL_law_586 rfl 2 rfl ?_
  refine ld_arg 1 dL_law_587 dL_law_588 dL_law_589 rfl dL_law_590 dL_law_591 (by omega) hL ?_
  refine ld_arg 2 dL_law_592 dL_law_593 dL_law_594 rfl dL_law_595 dL_law_596 (by omega) hL ?_
  refine ld_arg 3 dL_law_597 dL_law_598 dL_law_599 rfl dL_law_600 dL_law_601 (by omega) hL ?_
  refine ev_callVi (d' := 40) dL_law_602 M_L_72 Y_X6_part [.int (xs (i + 1)), .int (xs (i + 2)), .int (xs (i + 3))] h2 (by decide) (Nat.le_of_ble_eq_true rfl) (by decide) sh_77 rfl rfl rfl (Nat.le_of_ble_eq_true rfl) ?_
  exact ev_icmp_eq (tgt := 1038) dL_law_605 (by decide) (fun _ => K σ2 h3) (fun h => absurd rfl h)
theorem lw_c14 {i : Nat} (hL : L ≤ 2560) (hi : i + 4 < L) (hI : Inv σ) (K : ∀ σ2, Inv σ2 → av_Ev l RL code 4 ret (eScr L xs) 41 1038 (lvL i) [] σ2 Q) : av_Ev l RL code 4 ret (eScr L xs) 41 610 (lvL i) [] σ Q := by
  obtain ⟨r, σ1, σ2, h1, h2, h3⟩ := q_kick (l := l) hI (xs (i + 1)) (xs (i + 2)) (xs (i + 3)) (xs (i + 4))
  refine ev_aload_n dL_law_610 rfl 1 rfl ?_
  refine ld_arg 1 dL_law_611 dL_law_612 dL_law_613 rfl dL_law_614 dL_law_615 (by omega) hL ?_
  refine ld_arg 2 dL_law_616 dL_law_617 dL_law_618 rfl dL_law_619 dL_law_620 (by omega) hL ?_
  refine ld_arg 3 dL_law_621 dL_law_622 dL_law_623 rfl dL_law_624 dL_law_625 (by omega) hL ?_
  refine ld_arg 4 dL_law_626 dL_law_627 dL_law_628 rfl dL_law_629 dL_law_630 (by omega) hL ?_
  refine ev_callVi (d' := 40) dL_law_631 M_L_73 Y_X5_kick [.int (xs (i + 1)), .int (xs (i + 2)), .int (xs (i + 3)), .int (xs (i + 4))] h1 (by decide) (Nat.le_of_ble_eq_true rfl) (by decide) sh_63 rfl rfl rfl (Nat.le_of_ble_eq_true rfl) ?_
  refine ev_aload_n dL_law_634 rfl 2 rfl ?_
  refine ld_arg 1 dL_law_635 dL_law_636 dL_law_637 rfl dL_law_638 dL_law_639 (by omega) hL ?_
  refine ld_arg 2 dL_law_640 dL_law_641 dL_law_642 rfl dL_law_643 dL_law_644 (by omega) hL ?_
  refine ld_arg 3 dL_law_645 dL_law_646 dL_law_647 rfl dL_law_648 dL_law_649 (by omega) hL ?_
  refine ld_arg 4 dL_law_650 dL_law_651 dL_law_652 rfl dL_law_653 dL_law_654 (by omega) hL ?_
  refine ev_callVi (d' := 40) dL_law_655 M_L_77 Y_X6_kick [.int (xs (i + 1)), .int (xs (i + 2)), .int (xs (i + 3)), .int (xs (i + 4))] h2 (by decide) (Nat.le_of_ble_eq_true rfl) (by decide) sh_77 rfl rfl rfl (Nat.le_of_ble_eq_true rfl) ?_
  exact ev_icmp_eq (tgt := 1038) dL_law_658 (by decide) (fun _ => K σ2 h3) (fun h => absurd rfl h)
theorem lw_c15 {i : Nat} (hL : L ≤ 2560) (hi : i + 4 < L) (hI : Inv σ) (K : ∀ σ2, Inv σ2 → av_Ev l RL code 4 ret (eScr L xs) 41 1038 (lvL i) [] σ2 Q) : av_Ev l RL code 4 ret (eScr L xs) 41 663 (lvL i) [] σ Q := by
  obtain ⟨r, σ1, σ2, h1, h2, h3⟩ := q_append (l := l) hI (xs (i + 1))
  refine ev_aload_n dL_law_663 rfl 1 rfl ?_
  refine ld_arg 1 dL_law_664 dL_law_665 dL_law_666 rfl dL_law_667 dL_law_668 (by omega) hL ?_
  refine ev_callVi (d' := 40) dL_law_669 M_L_78 Y_X5_appendCharacter [.int (xs (i + 1))] h1 (by decide) (Nat.le_of_ble_eq_true rfl) (by decide) sh_63 rfl rfl rfl (Nat.le_of_ble_eq_true rfl) ?_
  refine ev_aload_n dL_law_672 rfl 2 rfl ?_
  refine ld_arg 1 dL_law_673 dL_law_674 dL_law_675 rfl dL_law_676 dL_law_677 (by omega) hL ?_
  refine ev_callVi (d' := 40) dL_law_678 M_L_81 Y_X6_appendCharacter [.int (xs (i + 1))] h2 (by decide) (Nat.le_of_ble_eq_true rfl) (by decide) sh_77 rfl rfl rfl (Nat.le_of_ble_eq_true rfl) ?_
  exact ev_icmp_eq (tgt := 1038) dL_law_681 (by decide) (fun _ => K σ2 h3) (fun h => absurd rfl h)
theorem lw_c16 {i : Nat} (hL : L ≤ 2560) (hi : i + 4 < L) (hI : Inv σ) (K : ∀ σ2, Inv σ2 → av_Ev l RL code 4 ret (eScr L xs) 41 1038 (lvL i) [] σ2 Q) : av_Ev l RL code 4 ret (eScr L xs) 41 686 (lvL i) [] σ Q := by
  obtain ⟨r, σ1, σ2, h1, h2, h3⟩ := q_clearText (l := l) hI 
  refine ev_aload_n dL_law_686 rfl 1 rfl ?_
  refine ev_callVi (d' := 40) dL_law_687 M_L_82 Y_X5_clearText [] h1 (by decide) (Nat.le_of_ble_eq_true rfl) (by decide) sh_63 rfl rfl rfl (Nat.le_of_ble_eq_true rfl) ?_
  refine ev_aload_n dL_law_690 rfl 2 rfl ?_
  refine ev_callVi (d' := 40) dL_law_691 M_L_85 Y_X6_clearText [] h2 (by decide) (Nat.le_of_ble_eq_true rfl) (by decide) sh_77 rfl rfl rfl (Nat.le_of_ble_eq_true rfl) ?_
  exact ev_icmp_eq (tgt := 1038) dL_law_694 (by decide) (fun _ => K σ2 h3) (fun h => absurd rfl h)
theorem lw_c17 {i : Nat} (hL : L ≤ 2560) (hi : i + 4 < L) (hI : Inv σ) (K : ∀ σ2, Inv σ2 → av_Ev l RL code 4 ret (eScr L xs) 41 1038 (lvL i) [] σ2 Q) : av_Ev l RL code 4 ret (eScr L xs) 41 699 (lvL i) [] σ Q := by
  obtain ⟨r, σ1, σ2, h1, h2, h3⟩ := q_applyModes (l := l) hI (xs (i + 1)) (xs (i + 2)) (xs (i + 3))
  refine ev_aload_n dL_law_699 rfl 1 rfl ?_
  refine ld_arg 1 dL_law_700 dL_law_701 dL_law_702 rfl dL_law_703 dL_law_704 (by omega) hL ?_
  refine ld_arg 2 dL_law_705 dL_law_706 dL_law_707 rfl dL_law_708 dL_law_709 (by omega) hL ?_
  refine ld_arg 3 dL_law_710 dL_law_711 dL_law_712 rfl dL_law_713 dL_law_714 (by omega) hL ?_
  refine ev_callVi (d' := 40) dL_law_715 M_L_86 Y_X5_applyModes [.int (xs (i + 1)), .int (xs (i + 2)), .int (xs (i + 3))] h1 (by decide) (Nat.le_of_ble_eq_true rfl) (by decide) sh_63 rfl rfl rfl (Nat.le_of_ble_eq_true rfl) ?_
  refine ev_aload_n dL_law_718 rfl 2 rfl ?_
  refine ld_arg 1 dL_law_719 dL_law_720 dL_law_721 rfl dL_law_722 dL_law_723 (by omega) hL ?_
  refine ld_arg 2 dL_law_724 dL_law_725 dL_law_726 rfl dL_law_727 dL_law_728 (by omega) hL ?_
  refine ld_arg 3 dL_law_729 dL_law_730 dL_law_731 rfl dL_law_732 dL_law_733 (by omega) hL ?_
  refine ev_callVi (d' := 40) dL_law_734 M_L_89 Y_X6_applyModes [.int (xs (i + 1)), .int (xs (i + 2)), .int (xs (i + 3))] h2 (by decide) (Nat.le_of_ble_eq_true rfl) (by decide) sh_77 rfl rfl rfl (Nat.le_of_ble_eq_true rfl) ?_
  exact ev_icmp_eq (tgt := 1038) dL_law_737 (by decide) (fun _ => K σ2 h3) (fun h => absurd rfl h)
theorem lw_c18 {i : Nat} (hL : L ≤ 2560) (hi : i + 4 < L) (hI : Inv σ) (K : ∀ σ2, Inv σ2 → av_Ev l RL code 4 ret (eScr L xs) 41 1038 (lvL i) [] σ2 Q) : av_Ev l RL code 4 ret (eScr L xs) 41 742 (lvL i) [] σ Q := by
  obtain ⟨r, σ1, σ2, h1, h2, h3⟩ := q_members (l := l) hI (xs (i + 1)) (xs (i + 2))
  refine ev_aload_n dL_law_742 rfl 1 rfl ?_
  refine ld_arg 1 dL_law_743 dL_law_744 dL_law_745 rfl dL_law_746 dL_law_747 (by omega) hL ?_
  refine ld_arg 2 dL_law_748 dL_law_749 dL_law_750 rfl dL_law_751 dL_law_752 (by omega) hL ?_
  refine ev_callVi (d' := 40) dL_law_753 M_L_90 Y_X5_members [.int (xs (i + 1)), .int (xs (i + 2))] h1 (by decide) (Nat.le_of_ble_eq_true rfl) (by decide) sh_63 rfl rfl rfl (Nat.le_of_ble_eq_true rfl) ?_
  refine ev_aload_n dL_law_756 rfl 2 rfl ?_
  refine ld_arg 1 dL_law_757 dL_law_758 dL_law_759 rfl dL_law_760 dL_law_761 (by omega) hL ?_
  refine ld_arg 2 dL_law_762 dL_law_763 dL_law_764 rfl dL_law_765 dL_law_766 (by omega) hL ?_
  refine ev_callVi (d' := 40) dL_law_767 M_L_93 Y_X6_members [.int (xs (i + 1)), .int (xs (i + 2))] h2 (by decide) (Nat.le_of_ble_eq_true rfl) (by decide) sh_77 rfl rfl rfl (Nat.le_of_ble_eq_true rfl) ?_
  exact ev_icmp_eq (tgt := 1038) dL_law_770 (by decide) (fun _ => K σ2 h3) (fun h => absurd rfl h)
theorem lw_c19 {i : Nat} (hL : L ≤ 2560) (hi : i + 4 < L) (hI : Inv σ) (K : ∀ σ2, Inv σ2 → av_Ev l RL code 4 ret (eScr L xs) 41 1038 (lvL i) [] σ2 Q) : av_Ev l RL code 4 ret (eScr L xs) 41 775 (lvL i) [] σ Q := by
  obtain ⟨r, σ1, σ2, h1, h2, h3⟩ := q_operators (l := l) hI (xs (i + 1)) (xs (i + 2))
  refine ev_aload_n dL_law_775 rfl 1 rfl ?_
  refine ld_arg 1 dL_law_776 dL_law_777 dL_law_778 rfl dL_law_779 dL_law_780 (by omega) hL ?_
  refine ld_arg 2 dL_law_781 dL_law_782 dL_law_783 rfl dL_law_784 dL_law_785 (by omega) hL ?_
  refine ev_callVi (d' := 40) dL_law_786 M_L_94 Y_X5_operators [.int (xs (i + 1)), .int (xs (i + 2))] h1 (by decide) (Nat.le_of_ble_eq_true rfl) (by decide) sh_63 rfl rfl rfl (Nat.le_of_ble_eq_true rfl) ?_
  refine ev_aload_n dL_law_789 rfl 2 rfl ?_
  refine ld_arg 1 dL_law_790 dL_law_791 dL_law_792 rfl dL_law_793 dL_law_794 (by omega) hL ?_
  refine ld_arg 2 dL_law_795 dL_law_796 dL_law_797 rfl dL_law_798 dL_law_799 (by omega) hL ?_
  refine ev_callVi (d' := 40) dL_law_800 M_L_97 Y_X6_operators [.int (xs (i + 1)), .int (xs (i + 2))] h2 (by decide) (Nat.le_of_ble_eq_true rfl) (by decide) sh_77 rfl rfl rfl (Nat.le_of_ble_eq_true rfl) ?_
  exact ev_icmp_eq (tgt := 1038) dL_law_803 (by decide) (fun _ => K σ2 h3) (fun h => absurd rfl h)
theorem lw_c20 {i : Nat} (hL : L ≤ 2560) (hi : i + 4 < L) (hI : Inv σ) (K : ∀ σ2, Inv σ2 → av_Ev l RL code 4 ret (eScr L xs) 41 1038 (lvL i) [] σ2 Q) : av_Ev l RL code 4 ret (eScr L xs) 41 808 (lvL i) [] σ Q := by
  obtain ⟨r, σ1, σ2, h1, h2, h3⟩ := q_modes (l := l) hI (xs (i + 1)) (xs (i + 2))
  refine ev_aload_n dL_law_808 rfl 1 rfl ?_
  refine ld_arg 1 dL_law_809 dL_law_810 dL_law_811 rfl dL_law_812 dL_law_813 (by omega) hL ?_
  refine ld_arg 2 dL_law_814 dL_law_815 dL_law_816 rfl dL_law_817 dL_law_818 (by omega) hL ?_
  refine ev_callVi (d' := 40) dL_law_819 M_L_98 Y_X5_modes [.int (xs (i + 1)), .int (xs (i + 2))] h1 (by decide) (Nat.le_of_ble_eq_true rfl) (by decide) sh_63 rfl rfl rfl (Nat.le_of_ble_eq_true rfl) ?_
  refine ev_aload_n dL_law_822 rfl 2 rfl ?_
  refine ld_arg 1 dL_law_823 dL_law_824 dL_law_825 rfl dL_law_826 dL_law_827 (by omega) hL ?_
  refine ld_arg 2 dL_law_828 dL_law_829 dL_law_830 rfl dL_law_831 dL_law_832 (by omega) hL ?_
  refine ev_callVi (d' := 40) dL_law_833 M_L_101 Y_X6_modes [.int (xs (i + 1)), .int (xs (i + 2))] h2 (by decide) (Nat.le_of_ble_eq_true rfl) (by decide) sh_77 rfl rfl rfl (Nat.le_of_ble_eq_true rfl) ?_
  exact ev_icmp_eq (tgt := 1038) dL_law_836 (by decide) (fun _ => K σ2 h3) (fun h => absurd rfl h)
theorem lw_c21 {i : Nat} (hL : L ≤ 2560) (hi : i + 4 < L) (hI : Inv σ) (K : ∀ σ2, Inv σ2 → av_Ev l RL code 4 ret (eScr L xs) 41 1038 (lvL i) [] σ2 Q) : av_Ev l RL code 4 ret (eScr L xs) 41 841 (lvL i) [] σ Q := by
  obtain ⟨r, σ1, σ2, h1, h2, h3⟩ := q_channelTimestamp (l := l) hI (xs (i + 1)) (xs (i + 2))
  refine ev_aload_n dL_law_841 rfl 1 rfl ?_
  refine ld_arg 1 dL_law_842 dL_law_843 dL_law_844 rfl dL_law_845 dL_law_846 (by omega) hL ?_
  refine ld_arg 2 dL_law_847 dL_law_848 dL_law_849 rfl dL_law_850 dL_law_851 (by omega) hL ?_
  refine ev_callVi (d' := 40) dL_law_852 M_L_102 Y_X5_channelTimestamp [.int (xs (i + 1)), .int (xs (i + 2))] h1 (by decide) (Nat.le_of_ble_eq_true rfl) (by decide) sh_63 rfl rfl rfl (Nat.le_of_ble_eq_true rfl) ?_
  refine ev_aload_n dL_law_855 rfl 2 rfl ?_
  refine ld_arg 1 dL_law_856 dL_law_857 dL_law_858 rfl dL_law_859 dL_law_860 (by omega) hL ?_
  refine ld_arg 2 dL_law_861 dL_law_862 dL_law_863 rfl dL_law_864 dL_law_865 (by omega) hL ?_
  refine ev_callVi (d' := 40) dL_law_866 M_L_105 Y_X6_channelTimestamp [.int (xs (i + 1)), .int (xs (i + 2))] h2 (by decide) (Nat.le_of_ble_eq_true rfl) (by decide) sh_77 rfl rfl rfl (Nat.le_of_ble_eq_true rfl) ?_
  exact ev_icmp_eq (tgt := 1038) dL_law_869 (by decide) (fun _ => K σ2 h3) (fun h => absurd rfl h)
theorem lw_c22 {i : Nat} (hL : L ≤ 2560) (hi : i + 4 < L) (hI : Inv σ) (K : ∀ σ2, Inv σ2 → av_Ev l RL code 4 ret (eScr L xs) 41 1038 (lvL i) [] σ2 Q) : av_Ev l RL code 4 ret (eScr L xs) 41 874 (lvL i) [] σ Q := by
  obtain ⟨r, σ1, σ2, h1, h2, h3⟩ := q_lastDeprived (l := l) hI 
  refine ev_aload_n dL_law_874 rfl 1 rfl ?_
  refine ev_callVi (d' := 40) dL_law_875 M_L_106 Y_X5_lastDeprived [] h1 (by decide) (Nat.le_of_ble_eq_true rfl) (by decide) sh_63 rfl rfl rfl (Nat.le_of_ble_eq_true rfl) ?_
  refine ev_aload_n dL_law_878 rfl 2 rfl ?_
  refine ev_callVi (d' := 40) dL_law_879 M_L_109 Y_X6_lastDeprived [] h2 (by decide) (Nat.le_of_ble_eq_true rfl) (by decide) sh_77 rfl rfl rfl (Nat.le_of_ble_eq_true rfl) ?_
  exact ev_icmp_eq (tgt := 1038) dL_law_882 (by decide) (fun _ => K σ2 h3) (fun h => absurd rfl h)
theorem lw_c23 {i : Nat} (hL : L ≤ 2560) (hi : i + 4 < L) (hI : Inv σ) (K : ∀ σ2, Inv σ2 → av_Ev l RL code 4 ret (eScr L xs) 41 1038 (lvL i) [] σ2 Q) : av_Ev l RL code 4 ret (eScr L xs) 41 887 (lvL i) [] σ Q := by
  obtain ⟨r, σ1, σ2, h1, h2, h3⟩ := q_lastDropped (l := l) hI 
  refine ev_aload_n dL_law_887 rfl 1 rfl ?_
  refine ev_callVi (d' := 40) dL_law_888 M_L_110 Y_X5_lastDropped [] h1 (by decide) (Nat.le_of_ble_eq_true rfl) (by decide) sh_63 rfl rfl rfl (Nat.le_of_ble_eq_true rfl) ?_
  refine ev_aload_n dL_law_891 rfl 2 rfl ?_
  refine ev_callVi (d' := 40) dL_law_892 M_L_113 Y_X6_lastDropped [] h2 (by decide) (Nat.le_of_ble_eq_true rfl) (by decide) sh_77 rfl rfl rfl (Nat.le_of_ble_eq_true rfl) ?_
  exact ev_icmp_eq (tgt := 1038) dL_law_895 (by decide) (fun _ => K σ2 h3) (fun h => absurd rfl h)
theorem lw_c24 {i : Nat} (hL : L ≤ 2560) (hi : i + 4 < L) (hI : Inv σ) (K : ∀ σ2, Inv σ2 → av_Ev l RL code 4 ret (eScr L xs) 41 1038 (lvL i) [] σ2 Q) : av_Ev l RL code 4 ret (eScr L xs) 41 900 (lvL i) [] σ Q := by
  obtain ⟨r, σ1, σ2, h1, h2, h3⟩ := q_burstSize (l := l) hI (xs (i + 1)) (xs (i + 2))
  refine ev_aload_n dL_law_900 rfl 1 rfl ?_
  refine ld_arg 1 dL_law_901 dL_law_902 dL_law_903 rfl dL_law_904 dL_law_905 (by omega) hL ?_
  refine ld_arg 2 dL_law_906 dL_law_907 dL_law_908 rfl dL_law_909 dL_law_910 (by omega) hL ?_
  refine ev_callVi (d' := 40) dL_law_911 M_L_114 Y_X5_burstSize [.int (xs (i + 1)), .int (xs (i + 2))] h1 (by decide) (Nat.le_of_ble_eq_true rfl) (by decide) sh_63 rfl rfl rfl (Nat.le_of_ble_eq_true rfl) ?_
  refine ev_aload_n dL_law_914 rfl 2 rfl ?_
  refine ld_arg 1 dL_law_915 dL_law_916 dL_law_917 rfl dL_law_918 dL_law_919 (by omega) hL ?_
  refine ld_arg 2 dL_law_920 dL_law_921 dL_law_922 rfl dL_law_923 dL_law_924 (by omega) hL ?_
  refine ev_callVi (d' := 40) dL_law_925 M_L_117 Y_X6_burstSize [.int (xs (i + 1)), .int (xs (i + 2))] h2 (by decide) (Nat.le_of_ble_eq_true rfl) (by decide) sh_77 rfl rfl rfl (Nat.le_of_ble_eq_true rfl) ?_
  exact ev_icmp_eq (tgt := 1038) dL_law_928 (by decide) (fun _ => K σ2 h3) (fun h => absurd rfl h)
theorem lw_c25 {i : Nat} (hL : L ≤ 2560) (hi : i + 4 < L) (hI : Inv σ) (K : ∀ σ2, Inv σ2 → av_Ev l RL code 4 ret (eScr L xs) 41 1038 (lvL i) [] σ2 Q) : av_Ev l RL code 4 ret (eScr L xs) 41 933 (lvL i) [] σ Q := by
  obtain ⟨r, σ1, σ2, h1, h2, h3⟩ := q_killsIfConnected (l := l) hI (xs (i + 1)) (xs (i + 2))
  refine ev_aload_n dL_law_933 rfl 1 rfl ?_
  refine ld_arg 1 dL_law_934 dL_law_935 dL_law_936 rfl dL_law_937 dL_law_938 (by omega) hL ?_
  refine ld_arg 2 dL_law_939 dL_law_940 dL_law_941 rfl dL_law_942 dL_law_943 (by omega) hL ?_
  refine ev_callVi (d' := 40) dL_law_944 M_L_118 Y_X5_killsIfConnected [.int (xs (i + 1)), .int (xs (i + 2))] h1 (by decide) (Nat.le_of_ble_eq_true rfl) (by decide) sh_63 rfl rfl rfl (Nat.le_of_ble_eq_true rfl) ?_
  refine ev_aload_n dL_law_947 rfl 2 rfl ?_
  refine ld_arg 1 dL_law_948 dL_law_949 dL_law_950 rfl dL_law_951 dL_law_952 (by omega) hL ?_
  refine ld_arg 2 dL_law_953 dL_law_954 dL_law_955 rfl dL_law_956 dL_law_957 (by omega) hL ?_
  refine ev_callVi (d' := 40) dL_law_958 M_L_121 Y_X6_killsIfConnected [.int (xs (i + 1)), .int (xs (i + 2))] h2 (by decide) (Nat.le_of_ble_eq_true rfl) (by decide) sh_77 rfl rfl rfl (Nat.le_of_ble_eq_true rfl) ?_
  exact ev_icmp_eq (tgt := 1038) dL_law_961 (by decide) (fun _ => K σ2 h3) (fun h => absurd rfl h)
theorem lw_c26 {i : Nat} (hL : L ≤ 2560) (hi : i + 4 < L) (hI : Inv σ) (K : ∀ σ2, Inv σ2 → av_Ev l RL code 4 ret (eScr L xs) 41 1038 (lvL i) [] σ2 Q) : av_Ev l RL code 4 ret (eScr L xs) 41 966 (lvL i) [] σ Q := by
  obtain ⟨r, σ1, σ2, h1, h2, h3⟩ := q_lostIfDisconnected (l := l) hI (xs (i + 1)) (xs (i + 2))
  refine ev_aload_n dL_law_966 rfl 1 rfl ?_
  refine ld_arg 1 dL_law_967 dL_law_968 dL_law_969 rfl dL_law_970 dL_law_971 (by omega) hL ?_
  refine ld_arg 2 dL_law_972 dL_law_973 dL_law_974 rfl dL_law_975 dL_law_976 (by omega) hL ?_
  refine ev_callVi (d' := 40) dL_law_977 M_L_122 Y_X5_lostIfDisconnected [.int (xs (i + 1)), .int (xs (i + 2))] h1 (by decide) (Nat.le_of_ble_eq_true rfl) (by decide) sh_63 rfl rfl rfl (Nat.le_of_ble_eq_true rfl) ?_
  refine ev_aload_n dL_law_980 rfl 2 rfl ?_
  refine ld_arg 1 dL_law_981 dL_law_982 dL_law_983 rfl dL_law_984 dL_law_985 (by omega) hL ?_
  refine ld_arg 2 dL_law_986 dL_law_987 dL_law_988 rfl dL_law_989 dL_law_990 (by omega) hL ?_
  refine ev_callVi (d' := 40) dL_law_991 M_L_125 Y_X6_lostIfDisconnected [.int (xs (i + 1)), .int (xs (i + 2))] h2 (by decide) (Nat.le_of_ble_eq_true rfl) (by decide) sh_77 rfl rfl rfl (Nat.le_of_ble_eq_true rfl) ?_
  exact ev_icmp_eq (tgt := 1038) dL_law_994 (by decide) (fun _ => K σ2 h3) (fun h => absurd rfl h)
theorem lw_c27 {i : Nat} (hL : L ≤ 2560) (hi : i + 4 < L) (hI : Inv σ) (K : ∀ σ2, Inv σ2 → av_Ev l RL code 4 ret (eScr L xs) 41 1038 (lvL i) [] σ2 Q) : av_Ev l RL code 4 ret (eScr L xs) 41 999 (lvL i) [] σ Q := by
  obtain ⟨r, σ1, σ2, h1, h2, h3⟩ := q_fewestKills (l := l) hI 
  refine ev_aload_n dL_law_999 rfl 1 rfl ?_
  refine ev_callVi (d' := 40) dL_law_1000 M_L_126 Y_X5_fewestKills [] h1 (by decide) (Nat.le_of_ble_eq_true rfl) (by decide) sh_63 rfl rfl rfl (Nat.le_of_ble_eq_true rfl) ?_
  refine ev_aload_n dL_law_1003 rfl 2 rfl ?_
  refine ev_callVi (d' := 40) dL_law_1004 M_L_129 Y_X6_fewestKills [] h2 (by decide) (Nat.le_of_ble_eq_true rfl) (by decide) sh_77 rfl rfl rfl (Nat.le_of_ble_eq_true rfl) ?_
  exact ev_icmp_eq (tgt := 1038) dL_law_1007 (by decide) (fun _ => K σ2 h3) (fun h => absurd rfl h)
theorem lw_c28 {i : Nat} (hL : L ≤ 2560) (hi : i + 4 < L) (hI : Inv σ) (K : ∀ σ2, Inv σ2 → av_Ev l RL code 4 ret (eScr L xs) 41 1038 (lvL i) [] σ2 Q) : av_Ev l RL code 4 ret (eScr L xs) 41 1012 (lvL i) [] σ Q := by
  obtain ⟨r, σ1, σ2, h1, h2, h3⟩ := q_bestFirstLink (l := l) hI 
  refine ev_aload_n dL_law_1012 rfl 1 rfl ?_
  refine ev_callVi (d' := 40) dL_law_1013 M_L_130 Y_X5_bestFirstLink [] h1 (by decide) (Nat.le_of_ble_eq_true rfl) (by decide) sh_63 rfl rfl rfl (Nat.le_of_ble_eq_true rfl) ?_
  refine ev_aload_n dL_law_1016 rfl 2 rfl ?_
  refine ev_callVi (d' := 40) dL_law_1017 M_L_133 Y_X6_bestFirstLink [] h2 (by decide) (Nat.le_of_ble_eq_true rfl) (by decide) sh_77 rfl rfl rfl (Nat.le_of_ble_eq_true rfl) ?_
  exact ev_icmp_eq (tgt := 1038) dL_law_1020 (by decide) (fun _ => K σ2 h3) (fun h => absurd rfl h)
theorem lw_c29 {i : Nat} (hL : L ≤ 2560) (hi : i + 4 < L) (hI : Inv σ) (K : ∀ σ2, Inv σ2 → av_Ev l RL code 4 ret (eScr L xs) 41 1038 (lvL i) [] σ2 Q) : av_Ev l RL code 4 ret (eScr L xs) 41 1025 (lvL i) [] σ Q := by
  obtain ⟨r, σ1, σ2, h1, h2, h3⟩ := q_undo (l := l) hI 
  refine ev_aload_n dL_law_1025 rfl 1 rfl ?_
  refine ev_callVi (d' := 40) dL_law_1026 M_L_134 Y_X5_undo [] h1 (by decide) (Nat.le_of_ble_eq_true rfl) (by decide) sh_63 rfl rfl rfl (Nat.le_of_ble_eq_true rfl) ?_
  refine ev_aload_n dL_law_1029 rfl 2 rfl ?_
  refine ev_callVi (d' := 40) dL_law_1030 M_L_137 Y_X6_undo [] h2 (by decide) (Nat.le_of_ble_eq_true rfl) (by decide) sh_77 rfl rfl rfl (Nat.le_of_ble_eq_true rfl) ?_
  exact ev_icmp_eq (tgt := 1038) dL_law_1033 (by decide) (fun _ => K σ2 h3) (fun h => absurd rfl h)
theorem low5 (x : Int32) : ∃ k, k < 32 ∧ x &&& nI 31 = nI k := by
  have h31 : ∀ i, i < 32 → 5 ≤ i → tb (nI 31) i = false := by decide
  have h : lo 5 (x &&& nI 31) := fun i hi => by
    by_cases e : i < 32
    · rw [tb_and, h31 i e hi, Bool.and_false]
    · exact tb_big (by omega)
  obtain ⟨k, hk, e⟩ := lo_ofNat h (by decide)
  exact ⟨k, hk, e⟩
theorem lw_exit {i : Nat} (hL : L ≤ 2560) (hi : i ≤ 2560) : nI L - nI 5 < nI i ↔ L < i + 5 := by
  by_cases e : 5 ≤ L
  · rw [pk_sub e, nI_ltI (by omega) (by omega)]; omega
  · constructor
    · intro _; omega
    · intro _
      have h4 : ∀ L, L < 5 → nI L - nI 5 < 0 := by decide
      exact Int32.lt_of_lt_of_le (h4 L (by omega)) (Int32.not_lt.mp (nI_pos (by omega)))
/-- the loop, from its head -/
theorem lw_loop (hL : L ≤ 2560) (hQ : ∀ σ, Q (some (.int 1)) σ) : ∀ n i σ, L < i + 5 * n + 5 → i ≤ L → Inv σ → av_Ev l RL code 4 ret (eScr L xs) 41 18 (lvL i) [] σ Q := by
  intro n
  induction n with
  | zero =>
    intro i σ hn hi hI
    refine ev_iload_n dL_law_18 rfl 3 rfl ?_
    refine ev_aload_n dL_law_19 rfl 0 rfl ?_
    refine ev_slen dL_law_20 ?_
    refine ev_iconst dL_law_21 (v := nI 5) (by decide) ?_
    refine ev_isub dL_law_22 ?_
    refine ev_icmp_gt (tgt := 1044) dL_law_23 (by decide) (fun _ => ?_) (fun h => absurd ((lw_exit hL (by omega)).mpr (by omega)) h)
    refine ev_iconst dL_law_1044 (v := 1) (by decide) ?_
    exact ev_ireturn dL_law_1045 (ty := .boolean) rfl (by decide) (hQ σ)
  | succ n ih =>
    intro i σ hn hi hI
    refine ev_iload_n dL_law_18 rfl 3 rfl ?_
    refine ev_aload_n dL_law_19 rfl 0 rfl ?_
    refine ev_slen dL_law_20 ?_
    refine ev_iconst dL_law_21 (v := nI 5) (by decide) ?_
    refine ev_isub dL_law_22 ?_
    refine ev_icmp_gt (tgt := 1044) dL_law_23 (by decide) (fun _ => ?_) (fun hx => ?_)
    · refine ev_iconst dL_law_1044 (v := 1) (by decide) ?_
      exact ev_ireturn dL_law_1045 (ty := .boolean) rfl (by decide) (hQ σ)
    · have hx : ¬ L < i + 5 := fun q => hx ((lw_exit hL (by omega)).mpr q)
      have K : ∀ σ2, Inv σ2 → av_Ev l RL code 4 ret (eScr L xs) 41 1038 (lvL i) [] σ2 Q := by
        intro σ2 h2
        refine ev_iinc dL_law_1038 3 rfl (v := nI (i + 5)) (nI_inck i 5) (by decide) rfl ?_
        refine ev_goto (tgt := 18) dL_law_1041 (by decide) ?_
        exact ev_lv (lv' := lvL (i + 5)) [1, 2, 3, 0] rfl (ih (i + 5) σ2 (by omega) (by omega) h2)
      refine ev_aload_n dL_law_26 rfl 0 rfl ?_
      refine ev_iload_n dL_law_27 rfl 3 rfl ?_
      refine ev_sld dL_law_28 (by omega) hL ?_
      refine ev_bipush dL_law_29 (v := nI 31) (by decide) ?_
      refine ev_iand dL_law_31 ?_
      obtain ⟨x, hx32, ex⟩ := low5 (xs i)
      rw [ex]
      match x, hx32 with
      | 0, _ => exact ev_tabIn (tgt := 168) dL_law_32 (by decide) (by decide) (by decide) (off := 136) rfl (by decide) (lw_c0 hL (by omega) hI K)
      | 1, _ => exact ev_tabIn (tgt := 191) dL_law_32 (by decide) (by decide) (by decide) (off := 159) rfl (by decide) (lw_c1 hL (by omega) hI K)
      | 2, _ => exact ev_tabIn (tgt := 224) dL_law_32 (by decide) (by decide) (by decide) (off := 192) rfl (by decide) (lw_c2 hL (by omega) hI K)
      | 3, _ => exact ev_tabIn (tgt := 257) dL_law_32 (by decide) (by decide) (by decide) (off := 225) rfl (by decide) (lw_c3 hL (by omega) hI K)
      | 4, _ => exact ev_tabIn (tgt := 280) dL_law_32 (by decide) (by decide) (by decide) (off := 248) rfl (by decide) (lw_c4 hL (by omega) hI K)
      | 5, _ => exact ev_tabIn (tgt := 293) dL_law_32 (by decide) (by decide) (by decide) (off := 261) rfl (by decide) (lw_c5 hL (by omega) hI K)
      | 6, _ => exact ev_tabIn (tgt := 326) dL_law_32 (by decide) (by decide) (by decide) (off := 294) rfl (by decide) (lw_c6 hL (by omega) hI K)
      | 7, _ => exact ev_tabIn (tgt := 359) dL_law_32 (by decide) (by decide) (by decide) (off := 327) rfl (by decide) (lw_c7 hL (by omega) hI K)
      | 8, _ => exact ev_tabIn (tgt := 392) dL_law_32 (by decide) (by decide) (by decide) (off := 360) rfl (by decide) (lw_c8 hL (by omega) hI K)
      | 9, _ => exact ev_tabIn (tgt := 435) dL_law_32 (by decide) (by decide) (by decide) (off := 403) rfl (by decide) (lw_c9 hL (by omega) hI K)
      | 10, _ => exact ev_tabIn (tgt := 468) dL_law_32 (by decide) (by decide) (by decide) (off := 436) rfl (by decide) (lw_c10 hL (by omega) hI K)
      | 11, _ => exact ev_tabIn (tgt := 501) dL_law_32 (by decide) (by decide) (by decide) (off := 469) rfl (by decide) (lw_c11 hL (by omega) hI K)
      | 12, _ => exact ev_tabIn (tgt := 524) dL_law_32 (by decide) (by decide) (by decide) (off := 492) rfl (by decide) (lw_c12 hL (by omega) hI K)
      | 13, _ => exact ev_tabIn (tgt := 567) dL_law_32 (by decide) (by decide) (by decide) (off := 535) rfl (by decide) (lw_c13 hL (by omega) hI K)
      | 14, _ => exact ev_tabIn (tgt := 610) dL_law_32 (by decide) (by decide) (by decide) (off := 578) rfl (by decide) (lw_c14 hL (by omega) hI K)
      | 15, _ => exact ev_tabIn (tgt := 663) dL_law_32 (by decide) (by decide) (by decide) (off := 631) rfl (by decide) (lw_c15 hL (by omega) hI K)
      | 16, _ => exact ev_tabIn (tgt := 686) dL_law_32 (by decide) (by decide) (by decide) (off := 654) rfl (by decide) (lw_c16 hL (by omega) hI K)
      | 17, _ => exact ev_tabIn (tgt := 699) dL_law_32 (by decide) (by decide) (by decide) (off := 667) rfl (by decide) (lw_c17 hL (by omega) hI K)
      | 18, _ => exact ev_tabIn (tgt := 742) dL_law_32 (by decide) (by decide) (by decide) (off := 710) rfl (by decide) (lw_c18 hL (by omega) hI K)
      | 19, _ => exact ev_tabIn (tgt := 775) dL_law_32 (by decide) (by decide) (by decide) (off := 743) rfl (by decide) (lw_c19 hL (by omega) hI K)
      | 20, _ => exact ev_tabIn (tgt := 808) dL_law_32 (by decide) (by decide) (by decide) (off := 776) rfl (by decide) (lw_c20 hL (by omega) hI K)
      | 21, _ => exact ev_tabIn (tgt := 841) dL_law_32 (by decide) (by decide) (by decide) (off := 809) rfl (by decide) (lw_c21 hL (by omega) hI K)
      | 22, _ => exact ev_tabIn (tgt := 874) dL_law_32 (by decide) (by decide) (by decide) (off := 842) rfl (by decide) (lw_c22 hL (by omega) hI K)
      | 23, _ => exact ev_tabIn (tgt := 887) dL_law_32 (by decide) (by decide) (by decide) (off := 855) rfl (by decide) (lw_c23 hL (by omega) hI K)
      | 24, _ => exact ev_tabIn (tgt := 900) dL_law_32 (by decide) (by decide) (by decide) (off := 868) rfl (by decide) (lw_c24 hL (by omega) hI K)
      | 25, _ => exact ev_tabIn (tgt := 933) dL_law_32 (by decide) (by decide) (by decide) (off := 901) rfl (by decide) (lw_c25 hL (by omega) hI K)
      | 26, _ => exact ev_tabIn (tgt := 966) dL_law_32 (by decide) (by decide) (by decide) (off := 934) rfl (by decide) (lw_c26 hL (by omega) hI K)
      | 27, _ => exact ev_tabIn (tgt := 999) dL_law_32 (by decide) (by decide) (by decide) (off := 967) rfl (by decide) (lw_c27 hL (by omega) hI K)
      | 28, _ => exact ev_tabIn (tgt := 1012) dL_law_32 (by decide) (by decide) (by decide) (off := 980) rfl (by decide) (lw_c28 hL (by omega) hI K)
      | 29, _ => exact ev_tabIn (tgt := 1025) dL_law_32 (by decide) (by decide) (by decide) (off := 993) rfl (by decide) (lw_c29 hL (by omega) hI K)
      | 30, _ => exact ev_tabOut (tgt := 1038) dL_law_32 (by decide) (by decide) (by decide) (K σ hI)
      | 31, _ => exact ev_tabOut (tgt := 1038) dL_law_32 (by decide) (by decide) (by decide) (K σ hI)
      | x + 32, h => exact absurd h (by omega)
end Loop
