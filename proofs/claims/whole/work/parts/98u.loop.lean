/-! The loop of the script. -/
section LoopS
variable {d : Nat} {st : List Value} {h : lm_H} {Q : Option Value → lm_H → Prop} {xl : (Nat → Int32) × Nat}
abbrev LL (i : Nat) : lm_L := [some (.ref 1000000), some (.ref 0), some (.ref 92), some (.int (Int32.ofNat i))]
theorem sh7 (h2 : lm_r h 1000000 0 = some xl.2) : lm_sh h 1000000 = some (7, xl.2) := by
  unfold lm_sh lm_pre
  rw [if_neg (by decide), if_pos rfl, h2]
  rfl
theorem ls_iald7 {M pc n p a : Nat} {L : lm_L} (hf : lm_at M pc .iaload 1) (hs : lm_sh h a = some (7, n)) (hp : p < n) (hn : n < 2147483648) (k : lm_W d M (pc + 1) L (.int (lm_i h a p) :: st) h Q) : lm_W d M pc L (.int (Int32.ofNat p) :: .ref a :: st) h Q := ls_of hf (by
  obtain ⟨hi, _⟩ := lm_in_F (k := True) (p_inN hp hn trivial)
  show lm_o (lm_sh h a) _ _
  rw [hs]
  simp [lm_o]
  refine lm_in_of hi ?_
  rw [q_nat (by omega)]
  exact k)
theorem ls_callS {m : Nat} {av : List Value} {K : Option Value → lm_H → Prop} (hyp : lm_call d m av h K) (hl : lm_Lay h) (k : ∀ v h', lm_Lay h' → scp h h' → K v h' → Q v h') : lm_call d m av h Q := by
  cases d with
  | zero => exact hyp.elim
  | succ d =>
    obtain ⟨h1, n, v, h', h2, h3⟩ := lm_if_F (show if (lm_ent av).length ≤ lm_ml.getD m 0 then lm_C d m av h K else False from hyp)
    show if _ then _ else _
    rw [if_pos h1]
    exact ⟨n, v, h', h2, k v h' (lm_run_Lay n h2 hl) (lm_run_sc n h2) h3⟩
theorem lp_arg {pc i : Nat} {kc : Int} (c : Nat) (f0 : lm_at 273 pc (.aload_n 0) 1) (f1 : lm_at 273 (pc + 1) (.iload_n 3) 1) (f2 : lm_at 273 (pc + 2) (.iconst kc) 1) (f3 : lm_at 273 (pc + 3) .iadd 1) (f4 : lm_at 273 (pc + 4) .iaload 1) (hc : Int32.ofInt kc = Int32.ofNat c) (h1 : lm_i h 1000000 = xl.1) (h2 : lm_r h 1000000 0 = some xl.2) (hp : i + c < xl.2) (hn : xl.2 ≤ 3072) (k : lm_W d 273 (pc + 5) (LL i) (.int (xl.1 (i + c)) :: st) h Q) : lm_W d 273 pc (LL i) st h Q := by
  refine ls_aload_n f0 rfl ?_
  refine ls_iload_n f1 rfl ?_
  refine ls_iconst (Int32.ofNat c) f2 hc ?_
  refine ls_iadd (Int32.ofNat (i + c)) f3 (q_add i c) ?_
  refine ls_iald7 f4 (sh7 h2) hp (by omega) ?_
  rw [h1]
  exact k
end LoopS
section LoopC
variable {d nc i : Nat} {h : lm_H} {Q : Option Value → lm_H → Prop} {xl : (Nat → Int32) × Nat}
theorem lc_0 (hD : 200 ≤ d) (hn : nc ≤ 10000) (H : INV xl nc h) (hp : i + 6 ≤ xl.2) (hx : xl.2 ≤ 3072) (nx : ∀ h2, INV xl (nc + 1) h2 → lm_W d 273 1237 (LL i) [] h2 Q) : lm_W d 273 212 (LL i) [] h Q := by
  have hl := (INV_s H).1.1
  obtain ⟨_, s1, s2⟩ := H.1
  refine ls_aload_n f_273_212 rfl ?_
  refine lp_arg 1 f_273_213 f_273_214 f_273_215 f_273_216 f_273_217 rfl s1 s2 (by omega) hx ?_
  refine ls_invV f_273_218 q_273_13 [.int (xl.1 (i + 1))] [] rfl (Nat.le_of_ble_eq_true rfl) hl S_0 ow_98 ?_
  refine ls_callS (op_98 (by omega) hn H (xl.1 (i + 1))) hl (fun v h1 hl1 sc1 hyp => ?_)
  refine ls_retI hyp (fun r hyp => ?_)
  have s3 : lm_i h1 1000000 = xl.1 := by rw [sc1.1, s1]
  have s4 : lm_r h1 1000000 0 = some xl.2 := by rw [sc1.2, s2]
  refine ls_aload_n f_273_221 rfl ?_
  refine lp_arg 1 f_273_222 f_273_223 f_273_224 f_273_225 f_273_226 rfl s3 s4 (by omega) hx ?_
  refine ls_invV f_273_227 q_273_17 [.int (xl.1 (i + 1))] [.int r] rfl (Nat.le_of_ble_eq_true rfl) hl1 S_92 ow_164 ?_
  refine ls_callS hyp hl1 (fun v h2 hl2 sc2 hyp => ?_)
  refine ls_retI hyp (fun r2 hyp => ?_)
  obtain ⟨e, I2⟩ := hyp
  refine ls_icmp_eq_T 1237 f_273_230 rfl e ?_
  exact nx h2 I2
theorem lc_1 (hD : 200 ≤ d) (hn : nc ≤ 10000) (H : INV xl nc h) (hp : i + 6 ≤ xl.2) (hx : xl.2 ≤ 3072) (nx : ∀ h2, INV xl (nc + 1) h2 → lm_W d 273 1237 (LL i) [] h2 Q) : lm_W d 273 235 (LL i) [] h Q := by
  have hl := (INV_s H).1.1
  obtain ⟨_, s1, s2⟩ := H.1
  refine ls_aload_n f_273_235 rfl ?_
  refine lp_arg 1 f_273_236 f_273_237 f_273_238 f_273_239 f_273_240 rfl s1 s2 (by omega) hx ?_
  refine ls_invV f_273_241 q_273_18 [.int (xl.1 (i + 1))] [] rfl (Nat.le_of_ble_eq_true rfl) hl S_0 ow_99 ?_
  refine ls_callS (op_99 (by omega) hn H (xl.1 (i + 1))) hl (fun v h1 hl1 sc1 hyp => ?_)
  refine ls_retI hyp (fun r hyp => ?_)
  have s3 : lm_i h1 1000000 = xl.1 := by rw [sc1.1, s1]
  have s4 : lm_r h1 1000000 0 = some xl.2 := by rw [sc1.2, s2]
  refine ls_aload_n f_273_244 rfl ?_
  refine lp_arg 1 f_273_245 f_273_246 f_273_247 f_273_248 f_273_249 rfl s3 s4 (by omega) hx ?_
  refine ls_invV f_273_250 q_273_21 [.int (xl.1 (i + 1))] [.int r] rfl (Nat.le_of_ble_eq_true rfl) hl1 S_92 ow_165 ?_
  refine ls_callS hyp hl1 (fun v h2 hl2 sc2 hyp => ?_)
  refine ls_retI hyp (fun r2 hyp => ?_)
  obtain ⟨e, I2⟩ := hyp
  refine ls_icmp_eq_T 1237 f_273_253 rfl e ?_
  exact nx h2 I2
theorem lc_2 (hD : 200 ≤ d) (hn : nc ≤ 10000) (H : INV xl nc h) (hp : i + 6 ≤ xl.2) (hx : xl.2 ≤ 3072) (nx : ∀ h2, INV xl (nc + 1) h2 → lm_W d 273 1237 (LL i) [] h2 Q) : lm_W d 273 258 (LL i) [] h Q := by
  have hl := (INV_s H).1.1
  obtain ⟨_, s1, s2⟩ := H.1
  refine ls_aload_n f_273_258 rfl ?_
  refine lp_arg 1 f_273_259 f_273_260 f_273_261 f_273_262 f_273_263 rfl s1 s2 (by omega) hx ?_
  refine lp_arg 2 f_273_264 f_273_265 f_273_266 f_273_267 f_273_268 rfl s1 s2 (by omega) hx ?_
  refine lp_arg 3 f_273_269 f_273_270 f_273_271 f_273_272 f_273_273 rfl s1 s2 (by omega) hx ?_
  refine ls_invV f_273_274 q_273_22 [.int (xl.1 (i + 1)), .int (xl.1 (i + 2)), .int (xl.1 (i + 3))] [] rfl (Nat.le_of_ble_eq_true rfl) hl S_0 ow_100 ?_
  refine ls_callS (op_100 (by omega) hn H (xl.1 (i + 1)) (xl.1 (i + 2)) (xl.1 (i + 3))) hl (fun v h1 hl1 sc1 hyp => ?_)
  refine ls_retI hyp (fun r hyp => ?_)
  have s3 : lm_i h1 1000000 = xl.1 := by rw [sc1.1, s1]
  have s4 : lm_r h1 1000000 0 = some xl.2 := by rw [sc1.2, s2]
  refine ls_aload_n f_273_277 rfl ?_
  refine lp_arg 1 f_273_278 f_273_279 f_273_280 f_273_281 f_273_282 rfl s3 s4 (by omega) hx ?_
  refine lp_arg 2 f_273_283 f_273_284 f_273_285 f_273_286 f_273_287 rfl s3 s4 (by omega) hx ?_
  refine lp_arg 3 f_273_288 f_273_289 f_273_290 f_273_291 f_273_292 rfl s3 s4 (by omega) hx ?_
  refine ls_invV f_273_293 q_273_26 [.int (xl.1 (i + 1)), .int (xl.1 (i + 2)), .int (xl.1 (i + 3))] [.int r] rfl (Nat.le_of_ble_eq_true rfl) hl1 S_92 ow_166 ?_
  refine ls_callS hyp hl1 (fun v h2 hl2 sc2 hyp => ?_)
  refine ls_retI hyp (fun r2 hyp => ?_)
  obtain ⟨e, I2⟩ := hyp
  refine ls_icmp_eq_T 1237 f_273_296 rfl e ?_
  exact nx h2 I2
theorem lc_3 (hD : 200 ≤ d) (hn : nc ≤ 10000) (H : INV xl nc h) (hp : i + 6 ≤ xl.2) (hx : xl.2 ≤ 3072) (nx : ∀ h2, INV xl (nc + 1) h2 → lm_W d 273 1237 (LL i) [] h2 Q) : lm_W d 273 301 (LL i) [] h Q := by
  have hl := (INV_s H).1.1
  obtain ⟨_, s1, s2⟩ := H.1
  refine ls_aload_n f_273_301 rfl ?_
  refine lp_arg 1 f_273_302 f_273_303 f_273_304 f_273_305 f_273_306 rfl s1 s2 (by omega) hx ?_
  refine lp_arg 2 f_273_307 f_273_308 f_273_309 f_273_310 f_273_311 rfl s1 s2 (by omega) hx ?_
  refine lp_arg 3 f_273_312 f_273_313 f_273_314 f_273_315 f_273_316 rfl s1 s2 (by omega) hx ?_
  refine ls_invV f_273_317 q_273_27 [.int (xl.1 (i + 1)), .int (xl.1 (i + 2)), .int (xl.1 (i + 3))] [] rfl (Nat.le_of_ble_eq_true rfl) hl S_0 ow_101 ?_
  refine ls_callS (op_101 (by omega) hn H (xl.1 (i + 1)) (xl.1 (i + 2)) (xl.1 (i + 3))) hl (fun v h1 hl1 sc1 hyp => ?_)
  refine ls_retI hyp (fun r hyp => ?_)
  have s3 : lm_i h1 1000000 = xl.1 := by rw [sc1.1, s1]
  have s4 : lm_r h1 1000000 0 = some xl.2 := by rw [sc1.2, s2]
  refine ls_aload_n f_273_320 rfl ?_
  refine lp_arg 1 f_273_321 f_273_322 f_273_323 f_273_324 f_273_325 rfl s3 s4 (by omega) hx ?_
  refine lp_arg 2 f_273_326 f_273_327 f_273_328 f_273_329 f_273_330 rfl s3 s4 (by omega) hx ?_
  refine lp_arg 3 f_273_331 f_273_332 f_273_333 f_273_334 f_273_335 rfl s3 s4 (by omega) hx ?_
  refine ls_invV f_273_336 q_273_30 [.int (xl.1 (i + 1)), .int (xl.1 (i + 2)), .int (xl.1 (i + 3))] [.int r] rfl (Nat.le_of_ble_eq_true rfl) hl1 S_92 ow_209 ?_
  refine ls_callS hyp hl1 (fun v h2 hl2 sc2 hyp => ?_)
  refine ls_retI hyp (fun r2 hyp => ?_)
  obtain ⟨e, I2⟩ := hyp
  refine ls_icmp_eq_T 1237 f_273_339 rfl e ?_
  exact nx h2 I2
theorem lc_4 (hD : 200 ≤ d) (hn : nc ≤ 10000) (H : INV xl nc h) (hp : i + 6 ≤ xl.2) (hx : xl.2 ≤ 3072) (nx : ∀ h2, INV xl (nc + 1) h2 → lm_W d 273 1237 (LL i) [] h2 Q) : lm_W d 273 344 (LL i) [] h Q := by
  have hl := (INV_s H).1.1
  obtain ⟨_, s1, s2⟩ := H.1
  refine ls_aload_n f_273_344 rfl ?_
  refine lp_arg 1 f_273_345 f_273_346 f_273_347 f_273_348 f_273_349 rfl s1 s2 (by omega) hx ?_
  refine lp_arg 2 f_273_350 f_273_351 f_273_352 f_273_353 f_273_354 rfl s1 s2 (by omega) hx ?_
  refine ls_invV f_273_355 q_273_31 [.int (xl.1 (i + 1)), .int (xl.1 (i + 2))] [] rfl (Nat.le_of_ble_eq_true rfl) hl S_0 ow_102 ?_
  refine ls_callS (op_102 (by omega) hn H (xl.1 (i + 1)) (xl.1 (i + 2))) hl (fun v h1 hl1 sc1 hyp => ?_)
  refine ls_retI hyp (fun r hyp => ?_)
  have s3 : lm_i h1 1000000 = xl.1 := by rw [sc1.1, s1]
  have s4 : lm_r h1 1000000 0 = some xl.2 := by rw [sc1.2, s2]
  refine ls_aload_n f_273_358 rfl ?_
  refine lp_arg 1 f_273_359 f_273_360 f_273_361 f_273_362 f_273_363 rfl s3 s4 (by omega) hx ?_
  refine lp_arg 2 f_273_364 f_273_365 f_273_366 f_273_367 f_273_368 rfl s3 s4 (by omega) hx ?_
  refine ls_invV f_273_369 q_273_35 [.int (xl.1 (i + 1)), .int (xl.1 (i + 2))] [.int r] rfl (Nat.le_of_ble_eq_true rfl) hl1 S_92 ow_167 ?_
  refine ls_callS hyp hl1 (fun v h2 hl2 sc2 hyp => ?_)
  refine ls_retI hyp (fun r2 hyp => ?_)
  obtain ⟨e, I2⟩ := hyp
  refine ls_icmp_eq_T 1237 f_273_372 rfl e ?_
  exact nx h2 I2
theorem lc_5 (hD : 200 ≤ d) (hn : nc ≤ 10000) (H : INV xl nc h) (hp : i + 6 ≤ xl.2) (hx : xl.2 ≤ 3072) (nx : ∀ h2, INV xl (nc + 1) h2 → lm_W d 273 1237 (LL i) [] h2 Q) : lm_W d 273 377 (LL i) [] h Q := by
  have hl := (INV_s H).1.1
  obtain ⟨_, s1, s2⟩ := H.1
  refine ls_aload_n f_273_377 rfl ?_
  refine lp_arg 1 f_273_378 f_273_379 f_273_380 f_273_381 f_273_382 rfl s1 s2 (by omega) hx ?_
  refine lp_arg 2 f_273_383 f_273_384 f_273_385 f_273_386 f_273_387 rfl s1 s2 (by omega) hx ?_
  refine lp_arg 3 f_273_388 f_273_389 f_273_390 f_273_391 f_273_392 rfl s1 s2 (by omega) hx ?_
  refine lp_arg 4 f_273_393 f_273_394 f_273_395 f_273_396 f_273_397 rfl s1 s2 (by omega) hx ?_
  refine lp_arg 5 f_273_398 f_273_399 f_273_400 f_273_401 f_273_402 rfl s1 s2 (by omega) hx ?_
  refine ls_invV f_273_403 q_273_36 [.int (xl.1 (i + 1)), .int (xl.1 (i + 2)), .int (xl.1 (i + 3)), .int (xl.1 (i + 4)), .int (xl.1 (i + 5))] [] rfl (Nat.le_of_ble_eq_true rfl) hl S_0 ow_103 ?_
  refine ls_callS (op_103 (by omega) hn H (xl.1 (i + 1)) (xl.1 (i + 2)) (xl.1 (i + 3)) (xl.1 (i + 4)) (xl.1 (i + 5))) hl (fun v h1 hl1 sc1 hyp => ?_)
  refine ls_retI hyp (fun r hyp => ?_)
  have s3 : lm_i h1 1000000 = xl.1 := by rw [sc1.1, s1]
  have s4 : lm_r h1 1000000 0 = some xl.2 := by rw [sc1.2, s2]
  refine ls_aload_n f_273_406 rfl ?_
  refine lp_arg 1 f_273_407 f_273_408 f_273_409 f_273_410 f_273_411 rfl s3 s4 (by omega) hx ?_
  refine lp_arg 2 f_273_412 f_273_413 f_273_414 f_273_415 f_273_416 rfl s3 s4 (by omega) hx ?_
  refine lp_arg 3 f_273_417 f_273_418 f_273_419 f_273_420 f_273_421 rfl s3 s4 (by omega) hx ?_
  refine lp_arg 4 f_273_422 f_273_423 f_273_424 f_273_425 f_273_426 rfl s3 s4 (by omega) hx ?_
  refine lp_arg 5 f_273_427 f_273_428 f_273_429 f_273_430 f_273_431 rfl s3 s4 (by omega) hx ?_
  refine ls_invV f_273_432 q_273_40 [.int (xl.1 (i + 1)), .int (xl.1 (i + 2)), .int (xl.1 (i + 3)), .int (xl.1 (i + 4)), .int (xl.1 (i + 5))] [.int r] rfl (Nat.le_of_ble_eq_true rfl) hl1 S_92 ow_173 ?_
  refine ls_callS hyp hl1 (fun v h2 hl2 sc2 hyp => ?_)
  refine ls_retI hyp (fun r2 hyp => ?_)
  obtain ⟨e, I2⟩ := hyp
  refine ls_icmp_eq_T 1237 f_273_435 rfl e ?_
  exact nx h2 I2
theorem lc_6 (hD : 200 ≤ d) (hn : nc ≤ 10000) (H : INV xl nc h) (hp : i + 6 ≤ xl.2) (hx : xl.2 ≤ 3072) (nx : ∀ h2, INV xl (nc + 1) h2 → lm_W d 273 1237 (LL i) [] h2 Q) : lm_W d 273 440 (LL i) [] h Q := by
  have hl := (INV_s H).1.1
  obtain ⟨_, s1, s2⟩ := H.1
  refine ls_aload_n f_273_440 rfl ?_
  refine lp_arg 1 f_273_441 f_273_442 f_273_443 f_273_444 f_273_445 rfl s1 s2 (by omega) hx ?_
  refine ls_invV f_273_446 q_273_41 [.int (xl.1 (i + 1))] [] rfl (Nat.le_of_ble_eq_true rfl) hl S_0 ow_104 ?_
  refine ls_callS (op_104 (by omega) hn H (xl.1 (i + 1))) hl (fun v h1 hl1 sc1 hyp => ?_)
  refine ls_retI hyp (fun r hyp => ?_)
  have s3 : lm_i h1 1000000 = xl.1 := by rw [sc1.1, s1]
  have s4 : lm_r h1 1000000 0 = some xl.2 := by rw [sc1.2, s2]
  refine ls_aload_n f_273_449 rfl ?_
  refine lp_arg 1 f_273_450 f_273_451 f_273_452 f_273_453 f_273_454 rfl s3 s4 (by omega) hx ?_
  refine ls_invV f_273_455 q_273_44 [.int (xl.1 (i + 1))] [.int r] rfl (Nat.le_of_ble_eq_true rfl) hl1 S_92 ow_174 ?_
  refine ls_callS hyp hl1 (fun v h2 hl2 sc2 hyp => ?_)
  refine ls_retI hyp (fun r2 hyp => ?_)
  obtain ⟨e, I2⟩ := hyp
  refine ls_icmp_eq_T 1237 f_273_458 rfl e ?_
  exact nx h2 I2
theorem lc_7 (hD : 200 ≤ d) (hn : nc ≤ 10000) (H : INV xl nc h) (hp : i + 6 ≤ xl.2) (hx : xl.2 ≤ 3072) (nx : ∀ h2, INV xl (nc + 1) h2 → lm_W d 273 1237 (LL i) [] h2 Q) : lm_W d 273 463 (LL i) [] h Q := by
  have hl := (INV_s H).1.1
  obtain ⟨_, s1, s2⟩ := H.1
  refine ls_aload_n f_273_463 rfl ?_
  refine ls_invV f_273_464 q_273_45 [] [] rfl (Nat.le_of_ble_eq_true rfl) hl S_0 ow_105 ?_
  refine ls_callS (op_105 (by omega) hn H) hl (fun v h1 hl1 sc1 hyp => ?_)
  refine ls_retI hyp (fun r hyp => ?_)
  have s3 : lm_i h1 1000000 = xl.1 := by rw [sc1.1, s1]
  have s4 : lm_r h1 1000000 0 = some xl.2 := by rw [sc1.2, s2]
  refine ls_aload_n f_273_467 rfl ?_
  refine ls_invV f_273_468 q_273_49 [] [.int r] rfl (Nat.le_of_ble_eq_true rfl) hl1 S_92 ow_171 ?_
  refine ls_callS hyp hl1 (fun v h2 hl2 sc2 hyp => ?_)
  refine ls_retI hyp (fun r2 hyp => ?_)
  obtain ⟨e, I2⟩ := hyp
  refine ls_icmp_eq_T 1237 f_273_471 rfl e ?_
  exact nx h2 I2
theorem lc_8 (hD : 200 ≤ d) (hn : nc ≤ 10000) (H : INV xl nc h) (hp : i + 6 ≤ xl.2) (hx : xl.2 ≤ 3072) (nx : ∀ h2, INV xl (nc + 1) h2 → lm_W d 273 1237 (LL i) [] h2 Q) : lm_W d 273 476 (LL i) [] h Q := by
  have hl := (INV_s H).1.1
  obtain ⟨_, s1, s2⟩ := H.1
  refine ls_aload_n f_273_476 rfl ?_
  refine ls_invV f_273_477 q_273_50 [] [] rfl (Nat.le_of_ble_eq_true rfl) hl S_0 ow_106 ?_
  refine ls_callS (op_106 (by omega) hn H) hl (fun v h1 hl1 sc1 hyp => ?_)
  refine ls_retI hyp (fun r hyp => ?_)
  have s3 : lm_i h1 1000000 = xl.1 := by rw [sc1.1, s1]
  have s4 : lm_r h1 1000000 0 = some xl.2 := by rw [sc1.2, s2]
  refine ls_aload_n f_273_480 rfl ?_
  refine ls_invV f_273_481 q_273_53 [] [.int r] rfl (Nat.le_of_ble_eq_true rfl) hl1 S_92 ow_172 ?_
  refine ls_callS hyp hl1 (fun v h2 hl2 sc2 hyp => ?_)
  refine ls_retI hyp (fun r2 hyp => ?_)
  obtain ⟨e, I2⟩ := hyp
  refine ls_icmp_eq_T 1237 f_273_484 rfl e ?_
  exact nx h2 I2
theorem lc_9 (hD : 200 ≤ d) (hn : nc ≤ 10000) (H : INV xl nc h) (hp : i + 6 ≤ xl.2) (hx : xl.2 ≤ 3072) (nx : ∀ h2, INV xl (nc + 1) h2 → lm_W d 273 1237 (LL i) [] h2 Q) : lm_W d 273 489 (LL i) [] h Q := by
  have hl := (INV_s H).1.1
  obtain ⟨_, s1, s2⟩ := H.1
  refine ls_aload_n f_273_489 rfl ?_
  refine ls_invV f_273_490 q_273_54 [] [] rfl (Nat.le_of_ble_eq_true rfl) hl S_0 ow_107 ?_
  refine ls_callS (op_107 (by omega) hn H) hl (fun v h1 hl1 sc1 hyp => ?_)
  refine ls_retI hyp (fun r hyp => ?_)
  have s3 : lm_i h1 1000000 = xl.1 := by rw [sc1.1, s1]
  have s4 : lm_r h1 1000000 0 = some xl.2 := by rw [sc1.2, s2]
  refine ls_aload_n f_273_493 rfl ?_
  refine ls_invV f_273_494 q_273_57 [] [.int r] rfl (Nat.le_of_ble_eq_true rfl) hl1 S_92 ow_193 ?_
  refine ls_callS hyp hl1 (fun v h2 hl2 sc2 hyp => ?_)
  refine ls_retI hyp (fun r2 hyp => ?_)
  obtain ⟨e, I2⟩ := hyp
  refine ls_icmp_eq_T 1237 f_273_497 rfl e ?_
  exact nx h2 I2
theorem lc_10 (hD : 200 ≤ d) (hn : nc ≤ 10000) (H : INV xl nc h) (hp : i + 6 ≤ xl.2) (hx : xl.2 ≤ 3072) (nx : ∀ h2, INV xl (nc + 1) h2 → lm_W d 273 1237 (LL i) [] h2 Q) : lm_W d 273 502 (LL i) [] h Q := by
  have hl := (INV_s H).1.1
  obtain ⟨_, s1, s2⟩ := H.1
  refine ls_aload_n f_273_502 rfl ?_
  refine ls_invV f_273_503 q_273_58 [] [] rfl (Nat.le_of_ble_eq_true rfl) hl S_0 ow_108 ?_
  refine ls_callS (op_108 (by omega) hn H) hl (fun v h1 hl1 sc1 hyp => ?_)
  refine ls_retI hyp (fun r hyp => ?_)
  have s3 : lm_i h1 1000000 = xl.1 := by rw [sc1.1, s1]
  have s4 : lm_r h1 1000000 0 = some xl.2 := by rw [sc1.2, s2]
  refine ls_aload_n f_273_506 rfl ?_
  refine ls_invV f_273_507 q_273_61 [] [.int r] rfl (Nat.le_of_ble_eq_true rfl) hl1 S_92 ow_194 ?_
  refine ls_callS hyp hl1 (fun v h2 hl2 sc2 hyp => ?_)
  refine ls_retI hyp (fun r2 hyp => ?_)
  obtain ⟨e, I2⟩ := hyp
  refine ls_icmp_eq_T 1237 f_273_510 rfl e ?_
  exact nx h2 I2
theorem lc_11 (hD : 200 ≤ d) (hn : nc ≤ 10000) (H : INV xl nc h) (hp : i + 6 ≤ xl.2) (hx : xl.2 ≤ 3072) (nx : ∀ h2, INV xl (nc + 1) h2 → lm_W d 273 1237 (LL i) [] h2 Q) : lm_W d 273 515 (LL i) [] h Q := by
  have hl := (INV_s H).1.1
  obtain ⟨_, s1, s2⟩ := H.1
  refine ls_aload_n f_273_515 rfl ?_
  refine lp_arg 1 f_273_516 f_273_517 f_273_518 f_273_519 f_273_520 rfl s1 s2 (by omega) hx ?_
  refine ls_invV f_273_521 q_273_62 [.int (xl.1 (i + 1))] [] rfl (Nat.le_of_ble_eq_true rfl) hl S_0 ow_109 ?_
  refine ls_callS (op_109 (by omega) hn H (xl.1 (i + 1))) hl (fun v h1 hl1 sc1 hyp => ?_)
  refine ls_retI hyp (fun r hyp => ?_)
  have s3 : lm_i h1 1000000 = xl.1 := by rw [sc1.1, s1]
  have s4 : lm_r h1 1000000 0 = some xl.2 := by rw [sc1.2, s2]
  refine ls_aload_n f_273_524 rfl ?_
  refine lp_arg 1 f_273_525 f_273_526 f_273_527 f_273_528 f_273_529 rfl s3 s4 (by omega) hx ?_
  refine ls_invV f_273_530 q_273_65 [.int (xl.1 (i + 1))] [.int r] rfl (Nat.le_of_ble_eq_true rfl) hl1 S_92 ow_195 ?_
  refine ls_callS hyp hl1 (fun v h2 hl2 sc2 hyp => ?_)
  refine ls_retI hyp (fun r2 hyp => ?_)
  obtain ⟨e, I2⟩ := hyp
  refine ls_icmp_eq_T 1237 f_273_533 rfl e ?_
  exact nx h2 I2
theorem lc_12 (hD : 200 ≤ d) (hn : nc ≤ 10000) (H : INV xl nc h) (hp : i + 6 ≤ xl.2) (hx : xl.2 ≤ 3072) (nx : ∀ h2, INV xl (nc + 1) h2 → lm_W d 273 1237 (LL i) [] h2 Q) : lm_W d 273 538 (LL i) [] h Q := by
  have hl := (INV_s H).1.1
  obtain ⟨_, s1, s2⟩ := H.1
  refine ls_aload_n f_273_538 rfl ?_
  refine lp_arg 1 f_273_539 f_273_540 f_273_541 f_273_542 f_273_543 rfl s1 s2 (by omega) hx ?_
  refine lp_arg 2 f_273_544 f_273_545 f_273_546 f_273_547 f_273_548 rfl s1 s2 (by omega) hx ?_
  refine ls_invV f_273_549 q_273_66 [.int (xl.1 (i + 1)), .int (xl.1 (i + 2))] [] rfl (Nat.le_of_ble_eq_true rfl) hl S_0 ow_110 ?_
  refine ls_callS (op_110 (by omega) hn H (xl.1 (i + 1)) (xl.1 (i + 2))) hl (fun v h1 hl1 sc1 hyp => ?_)
  refine ls_retI hyp (fun r hyp => ?_)
  have s3 : lm_i h1 1000000 = xl.1 := by rw [sc1.1, s1]
  have s4 : lm_r h1 1000000 0 = some xl.2 := by rw [sc1.2, s2]
  refine ls_aload_n f_273_552 rfl ?_
  refine lp_arg 1 f_273_553 f_273_554 f_273_555 f_273_556 f_273_557 rfl s3 s4 (by omega) hx ?_
  refine lp_arg 2 f_273_558 f_273_559 f_273_560 f_273_561 f_273_562 rfl s3 s4 (by omega) hx ?_
  refine ls_invV f_273_563 q_273_69 [.int (xl.1 (i + 1)), .int (xl.1 (i + 2))] [.int r] rfl (Nat.le_of_ble_eq_true rfl) hl1 S_92 ow_168 ?_
  refine ls_callS hyp hl1 (fun v h2 hl2 sc2 hyp => ?_)
  refine ls_retI hyp (fun r2 hyp => ?_)
  obtain ⟨e, I2⟩ := hyp
  refine ls_icmp_eq_T 1237 f_273_566 rfl e ?_
  exact nx h2 I2
theorem lc_13 (hD : 200 ≤ d) (hn : nc ≤ 10000) (H : INV xl nc h) (hp : i + 6 ≤ xl.2) (hx : xl.2 ≤ 3072) (nx : ∀ h2, INV xl (nc + 1) h2 → lm_W d 273 1237 (LL i) [] h2 Q) : lm_W d 273 571 (LL i) [] h Q := by
  have hl := (INV_s H).1.1
  obtain ⟨_, s1, s2⟩ := H.1
  refine ls_aload_n f_273_571 rfl ?_
  refine lp_arg 1 f_273_572 f_273_573 f_273_574 f_273_575 f_273_576 rfl s1 s2 (by omega) hx ?_
  refine ls_invV f_273_577 q_273_70 [.int (xl.1 (i + 1))] [] rfl (Nat.le_of_ble_eq_true rfl) hl S_0 ow_111 ?_
  refine ls_callS (op_111 (by omega) hn H (xl.1 (i + 1))) hl (fun v h1 hl1 sc1 hyp => ?_)
  refine ls_retI hyp (fun r hyp => ?_)
  have s3 : lm_i h1 1000000 = xl.1 := by rw [sc1.1, s1]
  have s4 : lm_r h1 1000000 0 = some xl.2 := by rw [sc1.2, s2]
  refine ls_aload_n f_273_580 rfl ?_
  refine lp_arg 1 f_273_581 f_273_582 f_273_583 f_273_584 f_273_585 rfl s3 s4 (by omega) hx ?_
  refine ls_invV f_273_586 q_273_73 [.int (xl.1 (i + 1))] [.int r] rfl (Nat.le_of_ble_eq_true rfl) hl1 S_92 ow_216 ?_
  refine ls_callS hyp hl1 (fun v h2 hl2 sc2 hyp => ?_)
  refine ls_retI hyp (fun r2 hyp => ?_)
  obtain ⟨e, I2⟩ := hyp
  refine ls_icmp_eq_T 1237 f_273_589 rfl e ?_
  exact nx h2 I2
theorem lc_14 (hD : 200 ≤ d) (hn : nc ≤ 10000) (H : INV xl nc h) (hp : i + 6 ≤ xl.2) (hx : xl.2 ≤ 3072) (nx : ∀ h2, INV xl (nc + 1) h2 → lm_W d 273 1237 (LL i) [] h2 Q) : lm_W d 273 594 (LL i) [] h Q := by
  have hl := (INV_s H).1.1
  obtain ⟨_, s1, s2⟩ := H.1
  refine ls_aload_n f_273_594 rfl ?_
  refine lp_arg 1 f_273_595 f_273_596 f_273_597 f_273_598 f_273_599 rfl s1 s2 (by omega) hx ?_
  refine ls_invV f_273_600 q_273_74 [.int (xl.1 (i + 1))] [] rfl (Nat.le_of_ble_eq_true rfl) hl S_0 ow_112 ?_
  refine ls_callS (op_112 (by omega) hn H (xl.1 (i + 1))) hl (fun v h1 hl1 sc1 hyp => ?_)
  refine ls_retI hyp (fun r hyp => ?_)
  have s3 : lm_i h1 1000000 = xl.1 := by rw [sc1.1, s1]
  have s4 : lm_r h1 1000000 0 = some xl.2 := by rw [sc1.2, s2]
  refine ls_aload_n f_273_603 rfl ?_
  refine lp_arg 1 f_273_604 f_273_605 f_273_606 f_273_607 f_273_608 rfl s3 s4 (by omega) hx ?_
  refine ls_invV f_273_609 q_273_77 [.int (xl.1 (i + 1))] [.int r] rfl (Nat.le_of_ble_eq_true rfl) hl1 S_92 ow_217 ?_
  refine ls_callS hyp hl1 (fun v h2 hl2 sc2 hyp => ?_)
  refine ls_retI hyp (fun r2 hyp => ?_)
  obtain ⟨e, I2⟩ := hyp
  refine ls_icmp_eq_T 1237 f_273_612 rfl e ?_
  exact nx h2 I2
theorem lc_15 (hD : 200 ≤ d) (hn : nc ≤ 10000) (H : INV xl nc h) (hp : i + 6 ≤ xl.2) (hx : xl.2 ≤ 3072) (nx : ∀ h2, INV xl (nc + 1) h2 → lm_W d 273 1237 (LL i) [] h2 Q) : lm_W d 273 617 (LL i) [] h Q := by
  have hl := (INV_s H).1.1
  obtain ⟨_, s1, s2⟩ := H.1
  refine ls_aload_n f_273_617 rfl ?_
  refine lp_arg 1 f_273_618 f_273_619 f_273_620 f_273_621 f_273_622 rfl s1 s2 (by omega) hx ?_
  refine ls_invV f_273_623 q_273_78 [.int (xl.1 (i + 1))] [] rfl (Nat.le_of_ble_eq_true rfl) hl S_0 ow_113 ?_
  refine ls_callS (op_113 (by omega) hn H (xl.1 (i + 1))) hl (fun v h1 hl1 sc1 hyp => ?_)
  refine ls_retI hyp (fun r hyp => ?_)
  have s3 : lm_i h1 1000000 = xl.1 := by rw [sc1.1, s1]
  have s4 : lm_r h1 1000000 0 = some xl.2 := by rw [sc1.2, s2]
  refine ls_aload_n f_273_626 rfl ?_
  refine lp_arg 1 f_273_627 f_273_628 f_273_629 f_273_630 f_273_631 rfl s3 s4 (by omega) hx ?_
  refine ls_invV f_273_632 q_273_81 [.int (xl.1 (i + 1))] [.int r] rfl (Nat.le_of_ble_eq_true rfl) hl1 S_92 ow_218 ?_
  refine ls_callS hyp hl1 (fun v h2 hl2 sc2 hyp => ?_)
  refine ls_retI hyp (fun r2 hyp => ?_)
  obtain ⟨e, I2⟩ := hyp
  refine ls_icmp_eq_T 1237 f_273_635 rfl e ?_
  exact nx h2 I2
theorem lc_16 (hD : 200 ≤ d) (hn : nc ≤ 10000) (H : INV xl nc h) (hp : i + 6 ≤ xl.2) (hx : xl.2 ≤ 3072) (nx : ∀ h2, INV xl (nc + 1) h2 → lm_W d 273 1237 (LL i) [] h2 Q) : lm_W d 273 640 (LL i) [] h Q := by
  have hl := (INV_s H).1.1
  obtain ⟨_, s1, s2⟩ := H.1
  refine ls_aload_n f_273_640 rfl ?_
  refine lp_arg 1 f_273_641 f_273_642 f_273_643 f_273_644 f_273_645 rfl s1 s2 (by omega) hx ?_
  refine ls_invV f_273_646 q_273_82 [.int (xl.1 (i + 1))] [] rfl (Nat.le_of_ble_eq_true rfl) hl S_0 ow_114 ?_
  refine ls_callS (op_114 (by omega) hn H (xl.1 (i + 1))) hl (fun v h1 hl1 sc1 hyp => ?_)
  refine ls_retI hyp (fun r hyp => ?_)
  have s3 : lm_i h1 1000000 = xl.1 := by rw [sc1.1, s1]
  have s4 : lm_r h1 1000000 0 = some xl.2 := by rw [sc1.2, s2]
  refine ls_aload_n f_273_649 rfl ?_
  refine lp_arg 1 f_273_650 f_273_651 f_273_652 f_273_653 f_273_654 rfl s3 s4 (by omega) hx ?_
  refine ls_invV f_273_655 q_273_85 [.int (xl.1 (i + 1))] [.int r] rfl (Nat.le_of_ble_eq_true rfl) hl1 S_92 ow_225 ?_
  refine ls_callS hyp hl1 (fun v h2 hl2 sc2 hyp => ?_)
  refine ls_retI hyp (fun r2 hyp => ?_)
  obtain ⟨e, I2⟩ := hyp
  refine ls_icmp_eq_T 1237 f_273_658 rfl e ?_
  exact nx h2 I2
theorem lc_17 (hD : 200 ≤ d) (hn : nc ≤ 10000) (H : INV xl nc h) (hp : i + 6 ≤ xl.2) (hx : xl.2 ≤ 3072) (nx : ∀ h2, INV xl (nc + 1) h2 → lm_W d 273 1237 (LL i) [] h2 Q) : lm_W d 273 663 (LL i) [] h Q := by
  have hl := (INV_s H).1.1
  obtain ⟨_, s1, s2⟩ := H.1
  refine ls_aload_n f_273_663 rfl ?_
  refine lp_arg 1 f_273_664 f_273_665 f_273_666 f_273_667 f_273_668 rfl s1 s2 (by omega) hx ?_
  refine ls_invV f_273_669 q_273_86 [.int (xl.1 (i + 1))] [] rfl (Nat.le_of_ble_eq_true rfl) hl S_0 ow_115 ?_
  refine ls_callS (op_115 (by omega) hn H (xl.1 (i + 1))) hl (fun v h1 hl1 sc1 hyp => ?_)
  refine ls_retI hyp (fun r hyp => ?_)
  have s3 : lm_i h1 1000000 = xl.1 := by rw [sc1.1, s1]
  have s4 : lm_r h1 1000000 0 = some xl.2 := by rw [sc1.2, s2]
  refine ls_aload_n f_273_672 rfl ?_
  refine lp_arg 1 f_273_673 f_273_674 f_273_675 f_273_676 f_273_677 rfl s3 s4 (by omega) hx ?_
  refine ls_invV f_273_678 q_273_89 [.int (xl.1 (i + 1))] [.int r] rfl (Nat.le_of_ble_eq_true rfl) hl1 S_92 ow_226 ?_
  refine ls_callS hyp hl1 (fun v h2 hl2 sc2 hyp => ?_)
  refine ls_retI hyp (fun r2 hyp => ?_)
  obtain ⟨e, I2⟩ := hyp
  refine ls_icmp_eq_T 1237 f_273_681 rfl e ?_
  exact nx h2 I2
theorem lc_18 (hD : 200 ≤ d) (hn : nc ≤ 10000) (H : INV xl nc h) (hp : i + 6 ≤ xl.2) (hx : xl.2 ≤ 3072) (nx : ∀ h2, INV xl (nc + 1) h2 → lm_W d 273 1237 (LL i) [] h2 Q) : lm_W d 273 686 (LL i) [] h Q := by
  have hl := (INV_s H).1.1
  obtain ⟨_, s1, s2⟩ := H.1
  refine ls_aload_n f_273_686 rfl ?_
  refine lp_arg 1 f_273_687 f_273_688 f_273_689 f_273_690 f_273_691 rfl s1 s2 (by omega) hx ?_
  refine ls_invV f_273_692 q_273_90 [.int (xl.1 (i + 1))] [] rfl (Nat.le_of_ble_eq_true rfl) hl S_0 ow_116 ?_
  refine ls_callS (op_116 (by omega) hn H (xl.1 (i + 1))) hl (fun v h1 hl1 sc1 hyp => ?_)
  refine ls_retI hyp (fun r hyp => ?_)
  have s3 : lm_i h1 1000000 = xl.1 := by rw [sc1.1, s1]
  have s4 : lm_r h1 1000000 0 = some xl.2 := by rw [sc1.2, s2]
  refine ls_aload_n f_273_695 rfl ?_
  refine lp_arg 1 f_273_696 f_273_697 f_273_698 f_273_699 f_273_700 rfl s3 s4 (by omega) hx ?_
  refine ls_invV f_273_701 q_273_93 [.int (xl.1 (i + 1))] [.int r] rfl (Nat.le_of_ble_eq_true rfl) hl1 S_92 ow_227 ?_
  refine ls_callS hyp hl1 (fun v h2 hl2 sc2 hyp => ?_)
  refine ls_retI hyp (fun r2 hyp => ?_)
  obtain ⟨e, I2⟩ := hyp
  refine ls_icmp_eq_T 1237 f_273_704 rfl e ?_
  exact nx h2 I2
theorem lc_19 (hD : 200 ≤ d) (hn : nc ≤ 10000) (H : INV xl nc h) (hp : i + 6 ≤ xl.2) (hx : xl.2 ≤ 3072) (nx : ∀ h2, INV xl (nc + 1) h2 → lm_W d 273 1237 (LL i) [] h2 Q) : lm_W d 273 709 (LL i) [] h Q := by
  have hl := (INV_s H).1.1
  obtain ⟨_, s1, s2⟩ := H.1
  refine ls_aload_n f_273_709 rfl ?_
  refine ls_invV f_273_710 q_273_94 [] [] rfl (Nat.le_of_ble_eq_true rfl) hl S_0 ow_117 ?_
  refine ls_callS (op_117 (by omega) hn H) hl (fun v h1 hl1 sc1 hyp => ?_)
  refine ls_retI hyp (fun r hyp => ?_)
  have s3 : lm_i h1 1000000 = xl.1 := by rw [sc1.1, s1]
  have s4 : lm_r h1 1000000 0 = some xl.2 := by rw [sc1.2, s2]
  refine ls_aload_n f_273_713 rfl ?_
  refine ls_invV f_273_714 q_273_97 [] [.int r] rfl (Nat.le_of_ble_eq_true rfl) hl1 S_92 ow_228 ?_
  refine ls_callS hyp hl1 (fun v h2 hl2 sc2 hyp => ?_)
  refine ls_retI hyp (fun r2 hyp => ?_)
  obtain ⟨e, I2⟩ := hyp
  refine ls_icmp_eq_T 1237 f_273_717 rfl e ?_
  exact nx h2 I2
theorem lc_20 (hD : 200 ≤ d) (hn : nc ≤ 10000) (H : INV xl nc h) (hp : i + 6 ≤ xl.2) (hx : xl.2 ≤ 3072) (nx : ∀ h2, INV xl (nc + 1) h2 → lm_W d 273 1237 (LL i) [] h2 Q) : lm_W d 273 722 (LL i) [] h Q := by
  have hl := (INV_s H).1.1
  obtain ⟨_, s1, s2⟩ := H.1
  refine ls_aload_n f_273_722 rfl ?_
  refine lp_arg 1 f_273_723 f_273_724 f_273_725 f_273_726 f_273_727 rfl s1 s2 (by omega) hx ?_
  refine lp_arg 2 f_273_728 f_273_729 f_273_730 f_273_731 f_273_732 rfl s1 s2 (by omega) hx ?_
  refine ls_invV f_273_733 q_273_98 [.int (xl.1 (i + 1)), .int (xl.1 (i + 2))] [] rfl (Nat.le_of_ble_eq_true rfl) hl S_0 ow_118 ?_
  refine ls_callS (op_118 (by omega) hn H (xl.1 (i + 1)) (xl.1 (i + 2))) hl (fun v h1 hl1 sc1 hyp => ?_)
  refine ls_retI hyp (fun r hyp => ?_)
  have s3 : lm_i h1 1000000 = xl.1 := by rw [sc1.1, s1]
  have s4 : lm_r h1 1000000 0 = some xl.2 := by rw [sc1.2, s2]
  refine ls_aload_n f_273_736 rfl ?_
  refine lp_arg 1 f_273_737 f_273_738 f_273_739 f_273_740 f_273_741 rfl s3 s4 (by omega) hx ?_
  refine lp_arg 2 f_273_742 f_273_743 f_273_744 f_273_745 f_273_746 rfl s3 s4 (by omega) hx ?_
  refine ls_invV f_273_747 q_273_101 [.int (xl.1 (i + 1)), .int (xl.1 (i + 2))] [.int r] rfl (Nat.le_of_ble_eq_true rfl) hl1 S_92 ow_229 ?_
  refine ls_callS hyp hl1 (fun v h2 hl2 sc2 hyp => ?_)
  refine ls_retI hyp (fun r2 hyp => ?_)
  obtain ⟨e, I2⟩ := hyp
  refine ls_icmp_eq_T 1237 f_273_750 rfl e ?_
  exact nx h2 I2
theorem lc_21 (hD : 200 ≤ d) (hn : nc ≤ 10000) (H : INV xl nc h) (hp : i + 6 ≤ xl.2) (hx : xl.2 ≤ 3072) (nx : ∀ h2, INV xl (nc + 1) h2 → lm_W d 273 1237 (LL i) [] h2 Q) : lm_W d 273 755 (LL i) [] h Q := by
  have hl := (INV_s H).1.1
  obtain ⟨_, s1, s2⟩ := H.1
  refine ls_aload_n f_273_755 rfl ?_
  refine lp_arg 1 f_273_756 f_273_757 f_273_758 f_273_759 f_273_760 rfl s1 s2 (by omega) hx ?_
  refine ls_invV f_273_761 q_273_102 [.int (xl.1 (i + 1))] [] rfl (Nat.le_of_ble_eq_true rfl) hl S_0 ow_119 ?_
  refine ls_callS (op_119 (by omega) hn H (xl.1 (i + 1))) hl (fun v h1 hl1 sc1 hyp => ?_)
  refine ls_retI hyp (fun r hyp => ?_)
  have s3 : lm_i h1 1000000 = xl.1 := by rw [sc1.1, s1]
  have s4 : lm_r h1 1000000 0 = some xl.2 := by rw [sc1.2, s2]
  refine ls_aload_n f_273_764 rfl ?_
  refine lp_arg 1 f_273_765 f_273_766 f_273_767 f_273_768 f_273_769 rfl s3 s4 (by omega) hx ?_
  refine ls_invV f_273_770 q_273_105 [.int (xl.1 (i + 1))] [.int r] rfl (Nat.le_of_ble_eq_true rfl) hl1 S_92 ow_230 ?_
  refine ls_callS hyp hl1 (fun v h2 hl2 sc2 hyp => ?_)
  refine ls_retI hyp (fun r2 hyp => ?_)
  obtain ⟨e, I2⟩ := hyp
  refine ls_icmp_eq_T 1237 f_273_773 rfl e ?_
  exact nx h2 I2
theorem lc_22 (hD : 200 ≤ d) (hn : nc ≤ 10000) (H : INV xl nc h) (hp : i + 6 ≤ xl.2) (hx : xl.2 ≤ 3072) (nx : ∀ h2, INV xl (nc + 1) h2 → lm_W d 273 1237 (LL i) [] h2 Q) : lm_W d 273 778 (LL i) [] h Q := by
  have hl := (INV_s H).1.1
  obtain ⟨_, s1, s2⟩ := H.1
  refine ls_aload_n f_273_778 rfl ?_
  refine lp_arg 1 f_273_779 f_273_780 f_273_781 f_273_782 f_273_783 rfl s1 s2 (by omega) hx ?_
  refine ls_invV f_273_784 q_273_106 [.int (xl.1 (i + 1))] [] rfl (Nat.le_of_ble_eq_true rfl) hl S_0 ow_120 ?_
  refine ls_callS (op_120 (by omega) hn H (xl.1 (i + 1))) hl (fun v h1 hl1 sc1 hyp => ?_)
  refine ls_retI hyp (fun r hyp => ?_)
  have s3 : lm_i h1 1000000 = xl.1 := by rw [sc1.1, s1]
  have s4 : lm_r h1 1000000 0 = some xl.2 := by rw [sc1.2, s2]
  refine ls_aload_n f_273_787 rfl ?_
  refine lp_arg 1 f_273_788 f_273_789 f_273_790 f_273_791 f_273_792 rfl s3 s4 (by omega) hx ?_
  refine ls_invV f_273_793 q_273_109 [.int (xl.1 (i + 1))] [.int r] rfl (Nat.le_of_ble_eq_true rfl) hl1 S_92 ow_233 ?_
  refine ls_callS hyp hl1 (fun v h2 hl2 sc2 hyp => ?_)
  refine ls_retI hyp (fun r2 hyp => ?_)
  obtain ⟨e, I2⟩ := hyp
  refine ls_icmp_eq_T 1237 f_273_796 rfl e ?_
  exact nx h2 I2
theorem lc_23 (hD : 200 ≤ d) (hn : nc ≤ 10000) (H : INV xl nc h) (hp : i + 6 ≤ xl.2) (hx : xl.2 ≤ 3072) (nx : ∀ h2, INV xl (nc + 1) h2 → lm_W d 273 1237 (LL i) [] h2 Q) : lm_W d 273 801 (LL i) [] h Q := by
  have hl := (INV_s H).1.1
  obtain ⟨_, s1, s2⟩ := H.1
  refine ls_aload_n f_273_801 rfl ?_
  refine lp_arg 1 f_273_802 f_273_803 f_273_804 f_273_805 f_273_806 rfl s1 s2 (by omega) hx ?_
  refine ls_invV f_273_807 q_273_110 [.int (xl.1 (i + 1))] [] rfl (Nat.le_of_ble_eq_true rfl) hl S_0 ow_121 ?_
  refine ls_callS (op_121 (by omega) hn H (xl.1 (i + 1))) hl (fun v h1 hl1 sc1 hyp => ?_)
  refine ls_retI hyp (fun r hyp => ?_)
  have s3 : lm_i h1 1000000 = xl.1 := by rw [sc1.1, s1]
  have s4 : lm_r h1 1000000 0 = some xl.2 := by rw [sc1.2, s2]
  refine ls_aload_n f_273_810 rfl ?_
  refine lp_arg 1 f_273_811 f_273_812 f_273_813 f_273_814 f_273_815 rfl s3 s4 (by omega) hx ?_
  refine ls_invV f_273_816 q_273_113 [.int (xl.1 (i + 1))] [.int r] rfl (Nat.le_of_ble_eq_true rfl) hl1 S_92 ow_235 ?_
  refine ls_callS hyp hl1 (fun v h2 hl2 sc2 hyp => ?_)
  refine ls_retI hyp (fun r2 hyp => ?_)
  obtain ⟨e, I2⟩ := hyp
  refine ls_icmp_eq_T 1237 f_273_819 rfl e ?_
  exact nx h2 I2
theorem lc_24 (hD : 200 ≤ d) (hn : nc ≤ 10000) (H : INV xl nc h) (hp : i + 6 ≤ xl.2) (hx : xl.2 ≤ 3072) (nx : ∀ h2, INV xl (nc + 1) h2 → lm_W d 273 1237 (LL i) [] h2 Q) : lm_W d 273 824 (LL i) [] h Q := by
  have hl := (INV_s H).1.1
  obtain ⟨_, s1, s2⟩ := H.1
  refine ls_aload_n f_273_824 rfl ?_
  refine lp_arg 1 f_273_825 f_273_826 f_273_827 f_273_828 f_273_829 rfl s1 s2 (by omega) hx ?_
  refine ls_invV f_273_830 q_273_114 [.int (xl.1 (i + 1))] [] rfl (Nat.le_of_ble_eq_true rfl) hl S_0 ow_122 ?_
  refine ls_callS (op_122 (by omega) hn H (xl.1 (i + 1))) hl (fun v h1 hl1 sc1 hyp => ?_)
  refine ls_retI hyp (fun r hyp => ?_)
  have s3 : lm_i h1 1000000 = xl.1 := by rw [sc1.1, s1]
  have s4 : lm_r h1 1000000 0 = some xl.2 := by rw [sc1.2, s2]
  refine ls_aload_n f_273_833 rfl ?_
  refine lp_arg 1 f_273_834 f_273_835 f_273_836 f_273_837 f_273_838 rfl s3 s4 (by omega) hx ?_
  refine ls_invV f_273_839 q_273_117 [.int (xl.1 (i + 1))] [.int r] rfl (Nat.le_of_ble_eq_true rfl) hl1 S_92 ow_236 ?_
  refine ls_callS hyp hl1 (fun v h2 hl2 sc2 hyp => ?_)
  refine ls_retI hyp (fun r2 hyp => ?_)
  obtain ⟨e, I2⟩ := hyp
  refine ls_icmp_eq_T 1237 f_273_842 rfl e ?_
  exact nx h2 I2
theorem lc_25 (hD : 200 ≤ d) (hn : nc ≤ 10000) (H : INV xl nc h) (hp : i + 6 ≤ xl.2) (hx : xl.2 ≤ 3072) (nx : ∀ h2, INV xl (nc + 1) h2 → lm_W d 273 1237 (LL i) [] h2 Q) : lm_W d 273 847 (LL i) [] h Q := by
  have hl := (INV_s H).1.1
  obtain ⟨_, s1, s2⟩ := H.1
  refine ls_aload_n f_273_847 rfl ?_
  refine lp_arg 1 f_273_848 f_273_849 f_273_850 f_273_851 f_273_852 rfl s1 s2 (by omega) hx ?_
  refine ls_invV f_273_853 q_273_118 [.int (xl.1 (i + 1))] [] rfl (Nat.le_of_ble_eq_true rfl) hl S_0 ow_123 ?_
  refine ls_callS (op_123 (by omega) hn H (xl.1 (i + 1))) hl (fun v h1 hl1 sc1 hyp => ?_)
  refine ls_retI hyp (fun r hyp => ?_)
  have s3 : lm_i h1 1000000 = xl.1 := by rw [sc1.1, s1]
  have s4 : lm_r h1 1000000 0 = some xl.2 := by rw [sc1.2, s2]
  refine ls_aload_n f_273_856 rfl ?_
  refine lp_arg 1 f_273_857 f_273_858 f_273_859 f_273_860 f_273_861 rfl s3 s4 (by omega) hx ?_
  refine ls_invV f_273_862 q_273_121 [.int (xl.1 (i + 1))] [.int r] rfl (Nat.le_of_ble_eq_true rfl) hl1 S_92 ow_238 ?_
  refine ls_callS hyp hl1 (fun v h2 hl2 sc2 hyp => ?_)
  refine ls_retI hyp (fun r2 hyp => ?_)
  obtain ⟨e, I2⟩ := hyp
  refine ls_icmp_eq_T 1237 f_273_865 rfl e ?_
  exact nx h2 I2
theorem lc_26 (hD : 200 ≤ d) (hn : nc ≤ 10000) (H : INV xl nc h) (hp : i + 6 ≤ xl.2) (hx : xl.2 ≤ 3072) (nx : ∀ h2, INV xl (nc + 1) h2 → lm_W d 273 1237 (LL i) [] h2 Q) : lm_W d 273 870 (LL i) [] h Q := by
  have hl := (INV_s H).1.1
  obtain ⟨_, s1, s2⟩ := H.1
  refine ls_aload_n f_273_870 rfl ?_
  refine ls_invV f_273_871 q_273_122 [] [] rfl (Nat.le_of_ble_eq_true rfl) hl S_0 ow_124 ?_
  refine ls_callS (op_124 (by omega) hn H) hl (fun v h1 hl1 sc1 hyp => ?_)
  refine ls_retI hyp (fun r hyp => ?_)
  have s3 : lm_i h1 1000000 = xl.1 := by rw [sc1.1, s1]
  have s4 : lm_r h1 1000000 0 = some xl.2 := by rw [sc1.2, s2]
  refine ls_aload_n f_273_874 rfl ?_
  refine ls_invV f_273_875 q_273_125 [] [.int r] rfl (Nat.le_of_ble_eq_true rfl) hl1 S_92 ow_239 ?_
  refine ls_callS hyp hl1 (fun v h2 hl2 sc2 hyp => ?_)
  refine ls_retI hyp (fun r2 hyp => ?_)
  obtain ⟨e, I2⟩ := hyp
  refine ls_icmp_eq_T 1237 f_273_878 rfl e ?_
  exact nx h2 I2
theorem lc_27 (hD : 200 ≤ d) (hn : nc ≤ 10000) (H : INV xl nc h) (hp : i + 6 ≤ xl.2) (hx : xl.2 ≤ 3072) (nx : ∀ h2, INV xl (nc + 1) h2 → lm_W d 273 1237 (LL i) [] h2 Q) : lm_W d 273 883 (LL i) [] h Q := by
  have hl := (INV_s H).1.1
  obtain ⟨_, s1, s2⟩ := H.1
  refine ls_aload_n f_273_883 rfl ?_
  refine lp_arg 1 f_273_884 f_273_885 f_273_886 f_273_887 f_273_888 rfl s1 s2 (by omega) hx ?_
  refine lp_arg 2 f_273_889 f_273_890 f_273_891 f_273_892 f_273_893 rfl s1 s2 (by omega) hx ?_
  refine lp_arg 3 f_273_894 f_273_895 f_273_896 f_273_897 f_273_898 rfl s1 s2 (by omega) hx ?_
  refine ls_invV f_273_899 q_273_126 [.int (xl.1 (i + 1)), .int (xl.1 (i + 2)), .int (xl.1 (i + 3))] [] rfl (Nat.le_of_ble_eq_true rfl) hl S_0 ow_125 ?_
  refine ls_callS (op_125 (by omega) hn H (xl.1 (i + 1)) (xl.1 (i + 2)) (xl.1 (i + 3))) hl (fun v h1 hl1 sc1 hyp => ?_)
  refine ls_retI hyp (fun r hyp => ?_)
  have s3 : lm_i h1 1000000 = xl.1 := by rw [sc1.1, s1]
  have s4 : lm_r h1 1000000 0 = some xl.2 := by rw [sc1.2, s2]
  refine ls_aload_n f_273_902 rfl ?_
  refine lp_arg 1 f_273_903 f_273_904 f_273_905 f_273_906 f_273_907 rfl s3 s4 (by omega) hx ?_
  refine lp_arg 2 f_273_908 f_273_909 f_273_910 f_273_911 f_273_912 rfl s3 s4 (by omega) hx ?_
  refine lp_arg 3 f_273_913 f_273_914 f_273_915 f_273_916 f_273_917 rfl s3 s4 (by omega) hx ?_
  refine ls_invV f_273_918 q_273_129 [.int (xl.1 (i + 1)), .int (xl.1 (i + 2)), .int (xl.1 (i + 3))] [.int r] rfl (Nat.le_of_ble_eq_true rfl) hl1 S_92 ow_170 ?_
  refine ls_callS hyp hl1 (fun v h2 hl2 sc2 hyp => ?_)
  refine ls_retI hyp (fun r2 hyp => ?_)
  obtain ⟨e, I2⟩ := hyp
  refine ls_icmp_eq_T 1237 f_273_921 rfl e ?_
  exact nx h2 I2
theorem lc_28 (hD : 200 ≤ d) (hn : nc ≤ 10000) (H : INV xl nc h) (hp : i + 6 ≤ xl.2) (hx : xl.2 ≤ 3072) (nx : ∀ h2, INV xl (nc + 1) h2 → lm_W d 273 1237 (LL i) [] h2 Q) : lm_W d 273 926 (LL i) [] h Q := by
  have hl := (INV_s H).1.1
  obtain ⟨_, s1, s2⟩ := H.1
  refine ls_aload_n f_273_926 rfl ?_
  refine lp_arg 1 f_273_927 f_273_928 f_273_929 f_273_930 f_273_931 rfl s1 s2 (by omega) hx ?_
  refine ls_invV f_273_932 q_273_130 [.int (xl.1 (i + 1))] [] rfl (Nat.le_of_ble_eq_true rfl) hl S_0 ow_126 ?_
  refine ls_callS (op_126 (by omega) hn H (xl.1 (i + 1))) hl (fun v h1 hl1 sc1 hyp => ?_)
  refine ls_retL hyp (fun r hyp => ?_)
  have s3 : lm_i h1 1000000 = xl.1 := by rw [sc1.1, s1]
  have s4 : lm_r h1 1000000 0 = some xl.2 := by rw [sc1.2, s2]
  refine ls_aload_n f_273_935 rfl ?_
  refine lp_arg 1 f_273_936 f_273_937 f_273_938 f_273_939 f_273_940 rfl s3 s4 (by omega) hx ?_
  refine ls_invV f_273_941 q_273_134 [.int (xl.1 (i + 1))] [.long r] rfl (Nat.le_of_ble_eq_true rfl) hl1 S_92 ow_245 ?_
  refine ls_callS hyp hl1 (fun v h2 hl2 sc2 hyp => ?_)
  refine ls_retL hyp (fun r2 hyp => ?_)
  obtain ⟨e, I2⟩ := hyp
  refine ls_lcmp f_273_944 ?_
  refine ls_if_eq_T 1237 f_273_945 rfl (by subst e; unfold lg_cmp; simp) ?_
  exact nx h2 I2
theorem lc_29 (hD : 200 ≤ d) (hn : nc ≤ 10000) (H : INV xl nc h) (hp : i + 6 ≤ xl.2) (hx : xl.2 ≤ 3072) (nx : ∀ h2, INV xl (nc + 1) h2 → lm_W d 273 1237 (LL i) [] h2 Q) : lm_W d 273 950 (LL i) [] h Q := by
  have hl := (INV_s H).1.1
  obtain ⟨_, s1, s2⟩ := H.1
  refine ls_aload_n f_273_950 rfl ?_
  refine ls_invV f_273_951 q_273_135 [] [] rfl (Nat.le_of_ble_eq_true rfl) hl S_0 ow_127 ?_
  refine ls_callS (op_127 (by omega) hn H) hl (fun v h1 hl1 sc1 hyp => ?_)
  refine ls_retI hyp (fun r hyp => ?_)
  have s3 : lm_i h1 1000000 = xl.1 := by rw [sc1.1, s1]
  have s4 : lm_r h1 1000000 0 = some xl.2 := by rw [sc1.2, s2]
  refine ls_aload_n f_273_954 rfl ?_
  refine ls_invV f_273_955 q_273_138 [] [.int r] rfl (Nat.le_of_ble_eq_true rfl) hl1 S_92 ow_246 ?_
  refine ls_callS hyp hl1 (fun v h2 hl2 sc2 hyp => ?_)
  refine ls_retI hyp (fun r2 hyp => ?_)
  obtain ⟨e, I2⟩ := hyp
  refine ls_icmp_eq_T 1237 f_273_958 rfl e ?_
  exact nx h2 I2
theorem lc_30 (hD : 200 ≤ d) (hn : nc ≤ 10000) (H : INV xl nc h) (hp : i + 6 ≤ xl.2) (hx : xl.2 ≤ 3072) (nx : ∀ h2, INV xl (nc + 1) h2 → lm_W d 273 1237 (LL i) [] h2 Q) : lm_W d 273 963 (LL i) [] h Q := by
  have hl := (INV_s H).1.1
  obtain ⟨_, s1, s2⟩ := H.1
  refine ls_aload_n f_273_963 rfl ?_
  refine lp_arg 1 f_273_964 f_273_965 f_273_966 f_273_967 f_273_968 rfl s1 s2 (by omega) hx ?_
  refine ls_invV f_273_969 q_273_139 [.int (xl.1 (i + 1))] [] rfl (Nat.le_of_ble_eq_true rfl) hl S_0 ow_128 ?_
  refine ls_callS (op_128 (by omega) hn H (xl.1 (i + 1))) hl (fun v h1 hl1 sc1 hyp => ?_)
  refine ls_retL hyp (fun r hyp => ?_)
  have s3 : lm_i h1 1000000 = xl.1 := by rw [sc1.1, s1]
  have s4 : lm_r h1 1000000 0 = some xl.2 := by rw [sc1.2, s2]
  refine ls_aload_n f_273_972 rfl ?_
  refine lp_arg 1 f_273_973 f_273_974 f_273_975 f_273_976 f_273_977 rfl s3 s4 (by omega) hx ?_
  refine ls_invV f_273_978 q_273_142 [.int (xl.1 (i + 1))] [.long r] rfl (Nat.le_of_ble_eq_true rfl) hl1 S_92 ow_250 ?_
  refine ls_callS hyp hl1 (fun v h2 hl2 sc2 hyp => ?_)
  refine ls_retL hyp (fun r2 hyp => ?_)
  obtain ⟨e, I2⟩ := hyp
  refine ls_lcmp f_273_981 ?_
  refine ls_if_eq_T 1237 f_273_982 rfl (by subst e; unfold lg_cmp; simp) ?_
  exact nx h2 I2
theorem lc_31 (hD : 200 ≤ d) (hn : nc ≤ 10000) (H : INV xl nc h) (hp : i + 6 ≤ xl.2) (hx : xl.2 ≤ 3072) (nx : ∀ h2, INV xl (nc + 1) h2 → lm_W d 273 1237 (LL i) [] h2 Q) : lm_W d 273 987 (LL i) [] h Q := by
  have hl := (INV_s H).1.1
  obtain ⟨_, s1, s2⟩ := H.1
  refine ls_aload_n f_273_987 rfl ?_
  refine lp_arg 1 f_273_988 f_273_989 f_273_990 f_273_991 f_273_992 rfl s1 s2 (by omega) hx ?_
  refine ls_invV f_273_993 q_273_143 [.int (xl.1 (i + 1))] [] rfl (Nat.le_of_ble_eq_true rfl) hl S_0 ow_129 ?_
  refine ls_callS (op_129 (by omega) hn H (xl.1 (i + 1))) hl (fun v h1 hl1 sc1 hyp => ?_)
  refine ls_retI hyp (fun r hyp => ?_)
  have s3 : lm_i h1 1000000 = xl.1 := by rw [sc1.1, s1]
  have s4 : lm_r h1 1000000 0 = some xl.2 := by rw [sc1.2, s2]
  refine ls_aload_n f_273_996 rfl ?_
  refine lp_arg 1 f_273_997 f_273_998 f_273_999 f_273_1000 f_273_1001 rfl s3 s4 (by omega) hx ?_
  refine ls_invV f_273_1002 q_273_146 [.int (xl.1 (i + 1))] [.int r] rfl (Nat.le_of_ble_eq_true rfl) hl1 S_92 ow_251 ?_
  refine ls_callS hyp hl1 (fun v h2 hl2 sc2 hyp => ?_)
  refine ls_retI hyp (fun r2 hyp => ?_)
  obtain ⟨e, I2⟩ := hyp
  refine ls_icmp_eq_T 1237 f_273_1005 rfl e ?_
  exact nx h2 I2
theorem lc_32 (hD : 200 ≤ d) (hn : nc ≤ 10000) (H : INV xl nc h) (hp : i + 6 ≤ xl.2) (hx : xl.2 ≤ 3072) (nx : ∀ h2, INV xl (nc + 1) h2 → lm_W d 273 1237 (LL i) [] h2 Q) : lm_W d 273 1010 (LL i) [] h Q := by
  have hl := (INV_s H).1.1
  obtain ⟨_, s1, s2⟩ := H.1
  refine ls_aload_n f_273_1010 rfl ?_
  refine lp_arg 1 f_273_1011 f_273_1012 f_273_1013 f_273_1014 f_273_1015 rfl s1 s2 (by omega) hx ?_
  refine lp_arg 2 f_273_1016 f_273_1017 f_273_1018 f_273_1019 f_273_1020 rfl s1 s2 (by omega) hx ?_
  refine ls_invV f_273_1021 q_273_147 [.int (xl.1 (i + 1)), .int (xl.1 (i + 2))] [] rfl (Nat.le_of_ble_eq_true rfl) hl S_0 ow_130 ?_
  refine ls_callS (op_130 (by omega) hn H (xl.1 (i + 1)) (xl.1 (i + 2))) hl (fun v h1 hl1 sc1 hyp => ?_)
  refine ls_retI hyp (fun r hyp => ?_)
  have s3 : lm_i h1 1000000 = xl.1 := by rw [sc1.1, s1]
  have s4 : lm_r h1 1000000 0 = some xl.2 := by rw [sc1.2, s2]
  refine ls_aload_n f_273_1024 rfl ?_
  refine lp_arg 1 f_273_1025 f_273_1026 f_273_1027 f_273_1028 f_273_1029 rfl s3 s4 (by omega) hx ?_
  refine lp_arg 2 f_273_1030 f_273_1031 f_273_1032 f_273_1033 f_273_1034 rfl s3 s4 (by omega) hx ?_
  refine ls_invV f_273_1035 q_273_150 [.int (xl.1 (i + 1)), .int (xl.1 (i + 2))] [.int r] rfl (Nat.le_of_ble_eq_true rfl) hl1 S_92 ow_169 ?_
  refine ls_callS hyp hl1 (fun v h2 hl2 sc2 hyp => ?_)
  refine ls_retI hyp (fun r2 hyp => ?_)
  obtain ⟨e, I2⟩ := hyp
  refine ls_icmp_eq_T 1237 f_273_1038 rfl e ?_
  exact nx h2 I2
theorem lc_33 (hD : 200 ≤ d) (hn : nc ≤ 10000) (H : INV xl nc h) (hp : i + 6 ≤ xl.2) (hx : xl.2 ≤ 3072) (nx : ∀ h2, INV xl (nc + 1) h2 → lm_W d 273 1237 (LL i) [] h2 Q) : lm_W d 273 1043 (LL i) [] h Q := by
  have hl := (INV_s H).1.1
  obtain ⟨_, s1, s2⟩ := H.1
  refine ls_aload_n f_273_1043 rfl ?_
  refine lp_arg 1 f_273_1044 f_273_1045 f_273_1046 f_273_1047 f_273_1048 rfl s1 s2 (by omega) hx ?_
  refine lp_arg 2 f_273_1049 f_273_1050 f_273_1051 f_273_1052 f_273_1053 rfl s1 s2 (by omega) hx ?_
  refine ls_invV f_273_1054 q_273_151 [.int (xl.1 (i + 1)), .int (xl.1 (i + 2))] [] rfl (Nat.le_of_ble_eq_true rfl) hl S_0 ow_131 ?_
  refine ls_callS (op_131 (by omega) hn H (xl.1 (i + 1)) (xl.1 (i + 2))) hl (fun v h1 hl1 sc1 hyp => ?_)
  refine ls_retI hyp (fun r hyp => ?_)
  have s3 : lm_i h1 1000000 = xl.1 := by rw [sc1.1, s1]
  have s4 : lm_r h1 1000000 0 = some xl.2 := by rw [sc1.2, s2]
  refine ls_aload_n f_273_1057 rfl ?_
  refine lp_arg 1 f_273_1058 f_273_1059 f_273_1060 f_273_1061 f_273_1062 rfl s3 s4 (by omega) hx ?_
  refine lp_arg 2 f_273_1063 f_273_1064 f_273_1065 f_273_1066 f_273_1067 rfl s3 s4 (by omega) hx ?_
  refine ls_invV f_273_1068 q_273_154 [.int (xl.1 (i + 1)), .int (xl.1 (i + 2))] [.int r] rfl (Nat.le_of_ble_eq_true rfl) hl1 S_92 ow_256 ?_
  refine ls_callS hyp hl1 (fun v h2 hl2 sc2 hyp => ?_)
  refine ls_retI hyp (fun r2 hyp => ?_)
  obtain ⟨e, I2⟩ := hyp
  refine ls_icmp_eq_T 1237 f_273_1071 rfl e ?_
  exact nx h2 I2
theorem lc_34 (hD : 200 ≤ d) (hn : nc ≤ 10000) (H : INV xl nc h) (hp : i + 6 ≤ xl.2) (hx : xl.2 ≤ 3072) (nx : ∀ h2, INV xl (nc + 1) h2 → lm_W d 273 1237 (LL i) [] h2 Q) : lm_W d 273 1076 (LL i) [] h Q := by
  have hl := (INV_s H).1.1
  obtain ⟨_, s1, s2⟩ := H.1
  refine ls_aload_n f_273_1076 rfl ?_
  refine lp_arg 1 f_273_1077 f_273_1078 f_273_1079 f_273_1080 f_273_1081 rfl s1 s2 (by omega) hx ?_
  refine lp_arg 2 f_273_1082 f_273_1083 f_273_1084 f_273_1085 f_273_1086 rfl s1 s2 (by omega) hx ?_
  refine lp_arg 3 f_273_1087 f_273_1088 f_273_1089 f_273_1090 f_273_1091 rfl s1 s2 (by omega) hx ?_
  refine ls_invV f_273_1092 q_273_155 [.int (xl.1 (i + 1)), .int (xl.1 (i + 2)), .int (xl.1 (i + 3))] [] rfl (Nat.le_of_ble_eq_true rfl) hl S_0 ow_132 ?_
  refine ls_callS (op_132 (by omega) hn H (xl.1 (i + 1)) (xl.1 (i + 2)) (xl.1 (i + 3))) hl (fun v h1 hl1 sc1 hyp => ?_)
  refine ls_retI hyp (fun r hyp => ?_)
  have s3 : lm_i h1 1000000 = xl.1 := by rw [sc1.1, s1]
  have s4 : lm_r h1 1000000 0 = some xl.2 := by rw [sc1.2, s2]
  refine ls_aload_n f_273_1095 rfl ?_
  refine lp_arg 1 f_273_1096 f_273_1097 f_273_1098 f_273_1099 f_273_1100 rfl s3 s4 (by omega) hx ?_
  refine lp_arg 2 f_273_1101 f_273_1102 f_273_1103 f_273_1104 f_273_1105 rfl s3 s4 (by omega) hx ?_
  refine lp_arg 3 f_273_1106 f_273_1107 f_273_1108 f_273_1109 f_273_1110 rfl s3 s4 (by omega) hx ?_
  refine ls_invV f_273_1111 q_273_158 [.int (xl.1 (i + 1)), .int (xl.1 (i + 2)), .int (xl.1 (i + 3))] [.int r] rfl (Nat.le_of_ble_eq_true rfl) hl1 S_92 ow_257 ?_
  refine ls_callS hyp hl1 (fun v h2 hl2 sc2 hyp => ?_)
  refine ls_retI hyp (fun r2 hyp => ?_)
  obtain ⟨e, I2⟩ := hyp
  refine ls_icmp_eq_T 1237 f_273_1114 rfl e ?_
  exact nx h2 I2
theorem lc_35 (hD : 200 ≤ d) (hn : nc ≤ 10000) (H : INV xl nc h) (hp : i + 6 ≤ xl.2) (hx : xl.2 ≤ 3072) (nx : ∀ h2, INV xl (nc + 1) h2 → lm_W d 273 1237 (LL i) [] h2 Q) : lm_W d 273 1119 (LL i) [] h Q := by
  have hl := (INV_s H).1.1
  obtain ⟨_, s1, s2⟩ := H.1
  refine ls_aload_n f_273_1119 rfl ?_
  refine lp_arg 1 f_273_1120 f_273_1121 f_273_1122 f_273_1123 f_273_1124 rfl s1 s2 (by omega) hx ?_
  refine ls_invV f_273_1125 q_273_159 [.int (xl.1 (i + 1))] [] rfl (Nat.le_of_ble_eq_true rfl) hl S_0 ow_133 ?_
  refine ls_callS (op_133 (by omega) hn H (xl.1 (i + 1))) hl (fun v h1 hl1 sc1 hyp => ?_)
  refine ls_retI hyp (fun r hyp => ?_)
  have s3 : lm_i h1 1000000 = xl.1 := by rw [sc1.1, s1]
  have s4 : lm_r h1 1000000 0 = some xl.2 := by rw [sc1.2, s2]
  refine ls_aload_n f_273_1128 rfl ?_
  refine lp_arg 1 f_273_1129 f_273_1130 f_273_1131 f_273_1132 f_273_1133 rfl s3 s4 (by omega) hx ?_
  refine ls_invV f_273_1134 q_273_162 [.int (xl.1 (i + 1))] [.int r] rfl (Nat.le_of_ble_eq_true rfl) hl1 S_92 ow_258 ?_
  refine ls_callS hyp hl1 (fun v h2 hl2 sc2 hyp => ?_)
  refine ls_retI hyp (fun r2 hyp => ?_)
  obtain ⟨e, I2⟩ := hyp
  refine ls_icmp_eq_T 1237 f_273_1137 rfl e ?_
  exact nx h2 I2
theorem lc_36 (hD : 200 ≤ d) (hn : nc ≤ 10000) (H : INV xl nc h) (hp : i + 6 ≤ xl.2) (hx : xl.2 ≤ 3072) (nx : ∀ h2, INV xl (nc + 1) h2 → lm_W d 273 1237 (LL i) [] h2 Q) : lm_W d 273 1142 (LL i) [] h Q := by
  have hl := (INV_s H).1.1
  obtain ⟨_, s1, s2⟩ := H.1
  refine ls_aload_n f_273_1142 rfl ?_
  refine ls_invV f_273_1143 q_273_163 [] [] rfl (Nat.le_of_ble_eq_true rfl) hl S_0 ow_134 ?_
  refine ls_callS (op_134 (by omega) hn H) hl (fun v h1 hl1 sc1 hyp => ?_)
  refine ls_retI hyp (fun r hyp => ?_)
  have s3 : lm_i h1 1000000 = xl.1 := by rw [sc1.1, s1]
  have s4 : lm_r h1 1000000 0 = some xl.2 := by rw [sc1.2, s2]
  refine ls_aload_n f_273_1146 rfl ?_
  refine ls_invV f_273_1147 q_273_166 [] [.int r] rfl (Nat.le_of_ble_eq_true rfl) hl1 S_92 ow_259 ?_
  refine ls_callS hyp hl1 (fun v h2 hl2 sc2 hyp => ?_)
  refine ls_retI hyp (fun r2 hyp => ?_)
  obtain ⟨e, I2⟩ := hyp
  refine ls_icmp_eq_T 1237 f_273_1150 rfl e ?_
  exact nx h2 I2
theorem lc_37 (hD : 200 ≤ d) (hn : nc ≤ 10000) (H : INV xl nc h) (hp : i + 6 ≤ xl.2) (hx : xl.2 ≤ 3072) (nx : ∀ h2, INV xl (nc + 1) h2 → lm_W d 273 1237 (LL i) [] h2 Q) : lm_W d 273 1155 (LL i) [] h Q := by
  have hl := (INV_s H).1.1
  obtain ⟨_, s1, s2⟩ := H.1
  refine ls_aload_n f_273_1155 rfl ?_
  refine lp_arg 1 f_273_1156 f_273_1157 f_273_1158 f_273_1159 f_273_1160 rfl s1 s2 (by omega) hx ?_
  refine ls_invV f_273_1161 q_273_167 [.int (xl.1 (i + 1))] [] rfl (Nat.le_of_ble_eq_true rfl) hl S_0 ow_135 ?_
  refine ls_callS (op_135 (by omega) hn H (xl.1 (i + 1))) hl (fun v h1 hl1 sc1 hyp => ?_)
  refine ls_retI hyp (fun r hyp => ?_)
  have s3 : lm_i h1 1000000 = xl.1 := by rw [sc1.1, s1]
  have s4 : lm_r h1 1000000 0 = some xl.2 := by rw [sc1.2, s2]
  refine ls_aload_n f_273_1164 rfl ?_
  refine lp_arg 1 f_273_1165 f_273_1166 f_273_1167 f_273_1168 f_273_1169 rfl s3 s4 (by omega) hx ?_
  refine ls_invV f_273_1170 q_273_170 [.int (xl.1 (i + 1))] [.int r] rfl (Nat.le_of_ble_eq_true rfl) hl1 S_92 ow_158 ?_
  refine ls_callS hyp hl1 (fun v h2 hl2 sc2 hyp => ?_)
  refine ls_retI hyp (fun r2 hyp => ?_)
  obtain ⟨e, I2⟩ := hyp
  refine ls_icmp_eq_T 1237 f_273_1173 rfl e ?_
  exact nx h2 I2
theorem lc_38 (hD : 200 ≤ d) (hn : nc ≤ 10000) (H : INV xl nc h) (hp : i + 6 ≤ xl.2) (hx : xl.2 ≤ 3072) (nx : ∀ h2, INV xl (nc + 1) h2 → lm_W d 273 1237 (LL i) [] h2 Q) : lm_W d 273 1178 (LL i) [] h Q := by
  have hl := (INV_s H).1.1
  obtain ⟨_, s1, s2⟩ := H.1
  refine ls_aload_n f_273_1178 rfl ?_
  refine lp_arg 1 f_273_1179 f_273_1180 f_273_1181 f_273_1182 f_273_1183 rfl s1 s2 (by omega) hx ?_
  refine ls_invV f_273_1184 q_273_171 [.int (xl.1 (i + 1))] [] rfl (Nat.le_of_ble_eq_true rfl) hl S_0 ow_136 ?_
  refine ls_callS (op_136 (by omega) hn H (xl.1 (i + 1))) hl (fun v h1 hl1 sc1 hyp => ?_)
  refine ls_retI hyp (fun r hyp => ?_)
  have s3 : lm_i h1 1000000 = xl.1 := by rw [sc1.1, s1]
  have s4 : lm_r h1 1000000 0 = some xl.2 := by rw [sc1.2, s2]
  refine ls_aload_n f_273_1187 rfl ?_
  refine lp_arg 1 f_273_1188 f_273_1189 f_273_1190 f_273_1191 f_273_1192 rfl s3 s4 (by omega) hx ?_
  refine ls_invV f_273_1193 q_273_174 [.int (xl.1 (i + 1))] [.int r] rfl (Nat.le_of_ble_eq_true rfl) hl1 S_92 ow_159 ?_
  refine ls_callS hyp hl1 (fun v h2 hl2 sc2 hyp => ?_)
  refine ls_retI hyp (fun r2 hyp => ?_)
  obtain ⟨e, I2⟩ := hyp
  refine ls_icmp_eq_T 1237 f_273_1196 rfl e ?_
  exact nx h2 I2
theorem lc_39 (hD : 200 ≤ d) (hn : nc ≤ 10000) (H : INV xl nc h) (hp : i + 6 ≤ xl.2) (hx : xl.2 ≤ 3072) (nx : ∀ h2, INV xl (nc + 1) h2 → lm_W d 273 1237 (LL i) [] h2 Q) : lm_W d 273 1201 (LL i) [] h Q := by
  have hl := (INV_s H).1.1
  obtain ⟨_, s1, s2⟩ := H.1
  refine ls_aload_n f_273_1201 rfl ?_
  refine lp_arg 1 f_273_1202 f_273_1203 f_273_1204 f_273_1205 f_273_1206 rfl s1 s2 (by omega) hx ?_
  refine ls_invV f_273_1207 q_273_175 [.int (xl.1 (i + 1))] [] rfl (Nat.le_of_ble_eq_true rfl) hl S_0 ow_137 ?_
  refine ls_callS (op_137 (by omega) hn H (xl.1 (i + 1))) hl (fun v h1 hl1 sc1 hyp => ?_)
  refine ls_retI hyp (fun r hyp => ?_)
  have s3 : lm_i h1 1000000 = xl.1 := by rw [sc1.1, s1]
  have s4 : lm_r h1 1000000 0 = some xl.2 := by rw [sc1.2, s2]
  refine ls_aload_n f_273_1210 rfl ?_
  refine lp_arg 1 f_273_1211 f_273_1212 f_273_1213 f_273_1214 f_273_1215 rfl s3 s4 (by omega) hx ?_
  refine ls_invV f_273_1216 q_273_178 [.int (xl.1 (i + 1))] [.int r] rfl (Nat.le_of_ble_eq_true rfl) hl1 S_92 ow_260 ?_
  refine ls_callS hyp hl1 (fun v h2 hl2 sc2 hyp => ?_)
  refine ls_retI hyp (fun r2 hyp => ?_)
  obtain ⟨e, I2⟩ := hyp
  refine ls_icmp_eq_T 1237 f_273_1219 rfl e ?_
  exact nx h2 I2
theorem lc_40 (hD : 200 ≤ d) (hn : nc ≤ 10000) (H : INV xl nc h) (hp : i + 6 ≤ xl.2) (hx : xl.2 ≤ 3072) (nx : ∀ h2, INV xl (nc + 1) h2 → lm_W d 273 1237 (LL i) [] h2 Q) : lm_W d 273 1224 (LL i) [] h Q := by
  have hl := (INV_s H).1.1
  obtain ⟨_, s1, s2⟩ := H.1
  refine ls_aload_n f_273_1224 rfl ?_
  refine ls_invV f_273_1225 q_273_179 [] [] rfl (Nat.le_of_ble_eq_true rfl) hl S_0 ow_138 ?_
  refine ls_callS (op_138 (by omega) hn H) hl (fun v h1 hl1 sc1 hyp => ?_)
  refine ls_retI hyp (fun r hyp => ?_)
  have s3 : lm_i h1 1000000 = xl.1 := by rw [sc1.1, s1]
  have s4 : lm_r h1 1000000 0 = some xl.2 := by rw [sc1.2, s2]
  refine ls_aload_n f_273_1228 rfl ?_
  refine ls_invV f_273_1229 q_273_182 [] [.int r] rfl (Nat.le_of_ble_eq_true rfl) hl1 S_92 ow_261 ?_
  refine ls_callS hyp hl1 (fun v h2 hl2 sc2 hyp => ?_)
  refine ls_retI hyp (fun r2 hyp => ?_)
  obtain ⟨e, I2⟩ := hyp
  refine ls_icmp_eq_T 1237 f_273_1232 rfl e ?_
  exact nx h2 I2
end LoopC
section LoopR
theorem ls_alen7 {d M pc n a : Nat} {L : lm_L} {st : List Value} {h : lm_H} {Q : Option Value → lm_H → Prop} (hf : lm_at M pc .arraylength 1) (hs : lm_sh h a = some (7, n)) (k : lm_W d M (pc + 1) L (.int (Int32.ofNat n) :: st) h Q) : lm_W d M pc L (.ref a :: st) h Q := ls_of hf (by
  show lm_o (lm_sh h a) _ _
  rw [hs]
  exact k)
theorem lp_273 {d : Nat} {Q : Option Value → lm_H → Prop} {xl : (Nat → Int32) × Nat} (hD : 200 ≤ d) (hx : xl.2 ≤ 3072) (hQ : ∀ m h', m ≤ 4000 → INV xl m h' → Q (some (.int 1)) h') : ∀ r i nc h, xl.2 + 6 ≤ r + i → i ≤ xl.2 + 6 → nc ≤ i → INV xl nc h → lm_W d 273 18 (LL i) [] h Q := by
  intro r
  induction r with
  | zero =>
    intro i nc h hr hi hn H
    have hl := (INV_s H).1.1
    obtain ⟨_, s1, s2⟩ := H.1
    refine ls_iload_n f_273_18 rfl ?_
    refine ls_aload_n f_273_19 rfl ?_
    refine ls_alen7 f_273_20 (sh7 s2) ?_
    refine ls_bipush 6 f_273_21 rfl ?_
    refine ls_isub _ f_273_23 rfl ?_
    refine ls_icmp_gt_T 1243 f_273_24 rfl (by
      rw [p_lt, p_tI_sub (by rw [p_onI (by omega)]; simp only [Int32.reduceToInt]; omega) (by rw [p_onI (by omega)]; simp only [Int32.reduceToInt]; omega), p_onI (by omega), p_onI (by omega)]
      simp only [Int32.reduceToInt]
      omega) ?_
    refine ls_iconst 1 f_273_1243 rfl ?_
    exact ls_zreturn f_273_1244 rZ_273 nar1 (hQ nc h (by omega) H)
  | succ r ih =>
    intro i nc h hr hi hn H
    have hl := (INV_s H).1.1
    obtain ⟨_, s1, s2⟩ := H.1
    refine ls_iload_n f_273_18 rfl ?_
    refine ls_aload_n f_273_19 rfl ?_
    refine ls_alen7 f_273_20 (sh7 s2) ?_
    refine ls_bipush 6 f_273_21 rfl ?_
    refine ls_isub _ f_273_23 rfl ?_
    have cmp : (Int32.ofNat xl.2 - 6 < Int32.ofNat i) = (xl.2 < i + 6) := by
      rw [p_lt, p_tI_sub (by rw [p_onI (by omega)]; simp only [Int32.reduceToInt]; omega) (by rw [p_onI (by omega)]; simp only [Int32.reduceToInt]; omega), p_onI (by omega), p_onI (by omega)]
      simp only [Int32.reduceToInt]
      exact propext ⟨fun q => by omega, fun q => by omega⟩
    by_cases c : xl.2 < i + 6
    · refine ls_icmp_gt_T 1243 f_273_24 rfl (by rw [cmp]; exact c) ?_
      refine ls_iconst 1 f_273_1243 rfl ?_
      exact ls_zreturn f_273_1244 rZ_273 nar1 (hQ nc h (by omega) H)
    refine ls_icmp_gt_F 1243 f_273_24 rfl (by rw [cmp]; exact c) ?_
    have nx : ∀ h2, INV xl (nc + 1) h2 → lm_W d 273 1237 (LL i) [] h2 Q := by
      intro h2 I2
      refine ls_iinc (Int32.ofNat (i + 6)) (LL (i + 6)) f_273_1237 rfl (by show 3 < 4; omega) (q_add i 6) rfl ?_
      refine ls_goto 18 f_273_1240 rfl ?_
      exact ih (i + 6) (nc + 1) h2 (by omega) (by omega) (by omega) I2
    refine ls_aload_n f_273_27 rfl ?_
    refine ls_iload_n f_273_28 rfl ?_
    refine ls_iald7 f_273_29 (sh7 s2) (by omega) (by omega) ?_
    refine ls_bipush 63 f_273_30 rfl ?_
    refine ls_iand _ f_273_32 rfl ?_
    generalize lm_i h 1000000 i &&& 63 = y
    refine ls_table f_273_33 (by decide) ?_
    by_cases e0 : y = 0
    · refine ls_swT (by rw [e0]; rfl) ?_
      refine lm_tg_of (t := 212) rfl ?_
      exact lc_0 hD (by omega) H (by omega) hx nx
    refine ls_swF (by intro q; exact e0 (by rw [q]; rfl)) ?_
    by_cases e1 : y = 1
    · refine ls_swT (by rw [e1]; rfl) ?_
      refine lm_tg_of (t := 235) rfl ?_
      exact lc_1 hD (by omega) H (by omega) hx nx
    refine ls_swF (by intro q; exact e1 (by rw [q]; rfl)) ?_
    by_cases e2 : y = 2
    · refine ls_swT (by rw [e2]; rfl) ?_
      refine lm_tg_of (t := 258) rfl ?_
      exact lc_2 hD (by omega) H (by omega) hx nx
    refine ls_swF (by intro q; exact e2 (by rw [q]; rfl)) ?_
    by_cases e3 : y = 3
    · refine ls_swT (by rw [e3]; rfl) ?_
      refine lm_tg_of (t := 301) rfl ?_
      exact lc_3 hD (by omega) H (by omega) hx nx
    refine ls_swF (by intro q; exact e3 (by rw [q]; rfl)) ?_
    by_cases e4 : y = 4
    · refine ls_swT (by rw [e4]; rfl) ?_
      refine lm_tg_of (t := 344) rfl ?_
      exact lc_4 hD (by omega) H (by omega) hx nx
    refine ls_swF (by intro q; exact e4 (by rw [q]; rfl)) ?_
    by_cases e5 : y = 5
    · refine ls_swT (by rw [e5]; rfl) ?_
      refine lm_tg_of (t := 377) rfl ?_
      exact lc_5 hD (by omega) H (by omega) hx nx
    refine ls_swF (by intro q; exact e5 (by rw [q]; rfl)) ?_
    by_cases e6 : y = 6
    · refine ls_swT (by rw [e6]; rfl) ?_
      refine lm_tg_of (t := 440) rfl ?_
      exact lc_6 hD (by omega) H (by omega) hx nx
    refine ls_swF (by intro q; exact e6 (by rw [q]; rfl)) ?_
    by_cases e7 : y = 7
    · refine ls_swT (by rw [e7]; rfl) ?_
      refine lm_tg_of (t := 463) rfl ?_
      exact lc_7 hD (by omega) H (by omega) hx nx
    refine ls_swF (by intro q; exact e7 (by rw [q]; rfl)) ?_
    by_cases e8 : y = 8
    · refine ls_swT (by rw [e8]; rfl) ?_
      refine lm_tg_of (t := 476) rfl ?_
      exact lc_8 hD (by omega) H (by omega) hx nx
    refine ls_swF (by intro q; exact e8 (by rw [q]; rfl)) ?_
    by_cases e9 : y = 9
    · refine ls_swT (by rw [e9]; rfl) ?_
      refine lm_tg_of (t := 489) rfl ?_
      exact lc_9 hD (by omega) H (by omega) hx nx
    refine ls_swF (by intro q; exact e9 (by rw [q]; rfl)) ?_
    by_cases e10 : y = 10
    · refine ls_swT (by rw [e10]; rfl) ?_
      refine lm_tg_of (t := 502) rfl ?_
      exact lc_10 hD (by omega) H (by omega) hx nx
    refine ls_swF (by intro q; exact e10 (by rw [q]; rfl)) ?_
    by_cases e11 : y = 11
    · refine ls_swT (by rw [e11]; rfl) ?_
      refine lm_tg_of (t := 515) rfl ?_
      exact lc_11 hD (by omega) H (by omega) hx nx
    refine ls_swF (by intro q; exact e11 (by rw [q]; rfl)) ?_
    by_cases e12 : y = 12
    · refine ls_swT (by rw [e12]; rfl) ?_
      refine lm_tg_of (t := 538) rfl ?_
      exact lc_12 hD (by omega) H (by omega) hx nx
    refine ls_swF (by intro q; exact e12 (by rw [q]; rfl)) ?_
    by_cases e13 : y = 13
    · refine ls_swT (by rw [e13]; rfl) ?_
      refine lm_tg_of (t := 571) rfl ?_
      exact lc_13 hD (by omega) H (by omega) hx nx
    refine ls_swF (by intro q; exact e13 (by rw [q]; rfl)) ?_
    by_cases e14 : y = 14
    · refine ls_swT (by rw [e14]; rfl) ?_
      refine lm_tg_of (t := 594) rfl ?_
      exact lc_14 hD (by omega) H (by omega) hx nx
    refine ls_swF (by intro q; exact e14 (by rw [q]; rfl)) ?_
    by_cases e15 : y = 15
    · refine ls_swT (by rw [e15]; rfl) ?_
      refine lm_tg_of (t := 617) rfl ?_
      exact lc_15 hD (by omega) H (by omega) hx nx
    refine ls_swF (by intro q; exact e15 (by rw [q]; rfl)) ?_
    by_cases e16 : y = 16
    · refine ls_swT (by rw [e16]; rfl) ?_
      refine lm_tg_of (t := 640) rfl ?_
      exact lc_16 hD (by omega) H (by omega) hx nx
    refine ls_swF (by intro q; exact e16 (by rw [q]; rfl)) ?_
    by_cases e17 : y = 17
    · refine ls_swT (by rw [e17]; rfl) ?_
      refine lm_tg_of (t := 663) rfl ?_
      exact lc_17 hD (by omega) H (by omega) hx nx
    refine ls_swF (by intro q; exact e17 (by rw [q]; rfl)) ?_
    by_cases e18 : y = 18
    · refine ls_swT (by rw [e18]; rfl) ?_
      refine lm_tg_of (t := 686) rfl ?_
      exact lc_18 hD (by omega) H (by omega) hx nx
    refine ls_swF (by intro q; exact e18 (by rw [q]; rfl)) ?_
    by_cases e19 : y = 19
    · refine ls_swT (by rw [e19]; rfl) ?_
      refine lm_tg_of (t := 709) rfl ?_
      exact lc_19 hD (by omega) H (by omega) hx nx
    refine ls_swF (by intro q; exact e19 (by rw [q]; rfl)) ?_
    by_cases e20 : y = 20
    · refine ls_swT (by rw [e20]; rfl) ?_
      refine lm_tg_of (t := 722) rfl ?_
      exact lc_20 hD (by omega) H (by omega) hx nx
    refine ls_swF (by intro q; exact e20 (by rw [q]; rfl)) ?_
    by_cases e21 : y = 21
    · refine ls_swT (by rw [e21]; rfl) ?_
      refine lm_tg_of (t := 755) rfl ?_
      exact lc_21 hD (by omega) H (by omega) hx nx
    refine ls_swF (by intro q; exact e21 (by rw [q]; rfl)) ?_
    by_cases e22 : y = 22
    · refine ls_swT (by rw [e22]; rfl) ?_
      refine lm_tg_of (t := 778) rfl ?_
      exact lc_22 hD (by omega) H (by omega) hx nx
    refine ls_swF (by intro q; exact e22 (by rw [q]; rfl)) ?_
    by_cases e23 : y = 23
    · refine ls_swT (by rw [e23]; rfl) ?_
      refine lm_tg_of (t := 801) rfl ?_
      exact lc_23 hD (by omega) H (by omega) hx nx
    refine ls_swF (by intro q; exact e23 (by rw [q]; rfl)) ?_
    by_cases e24 : y = 24
    · refine ls_swT (by rw [e24]; rfl) ?_
      refine lm_tg_of (t := 824) rfl ?_
      exact lc_24 hD (by omega) H (by omega) hx nx
    refine ls_swF (by intro q; exact e24 (by rw [q]; rfl)) ?_
    by_cases e25 : y = 25
    · refine ls_swT (by rw [e25]; rfl) ?_
      refine lm_tg_of (t := 847) rfl ?_
      exact lc_25 hD (by omega) H (by omega) hx nx
    refine ls_swF (by intro q; exact e25 (by rw [q]; rfl)) ?_
    by_cases e26 : y = 26
    · refine ls_swT (by rw [e26]; rfl) ?_
      refine lm_tg_of (t := 870) rfl ?_
      exact lc_26 hD (by omega) H (by omega) hx nx
    refine ls_swF (by intro q; exact e26 (by rw [q]; rfl)) ?_
    by_cases e27 : y = 27
    · refine ls_swT (by rw [e27]; rfl) ?_
      refine lm_tg_of (t := 883) rfl ?_
      exact lc_27 hD (by omega) H (by omega) hx nx
    refine ls_swF (by intro q; exact e27 (by rw [q]; rfl)) ?_
    by_cases e28 : y = 28
    · refine ls_swT (by rw [e28]; rfl) ?_
      refine lm_tg_of (t := 926) rfl ?_
      exact lc_28 hD (by omega) H (by omega) hx nx
    refine ls_swF (by intro q; exact e28 (by rw [q]; rfl)) ?_
    by_cases e29 : y = 29
    · refine ls_swT (by rw [e29]; rfl) ?_
      refine lm_tg_of (t := 950) rfl ?_
      exact lc_29 hD (by omega) H (by omega) hx nx
    refine ls_swF (by intro q; exact e29 (by rw [q]; rfl)) ?_
    by_cases e30 : y = 30
    · refine ls_swT (by rw [e30]; rfl) ?_
      refine lm_tg_of (t := 963) rfl ?_
      exact lc_30 hD (by omega) H (by omega) hx nx
    refine ls_swF (by intro q; exact e30 (by rw [q]; rfl)) ?_
    by_cases e31 : y = 31
    · refine ls_swT (by rw [e31]; rfl) ?_
      refine lm_tg_of (t := 987) rfl ?_
      exact lc_31 hD (by omega) H (by omega) hx nx
    refine ls_swF (by intro q; exact e31 (by rw [q]; rfl)) ?_
    by_cases e32 : y = 32
    · refine ls_swT (by rw [e32]; rfl) ?_
      refine lm_tg_of (t := 1010) rfl ?_
      exact lc_32 hD (by omega) H (by omega) hx nx
    refine ls_swF (by intro q; exact e32 (by rw [q]; rfl)) ?_
    by_cases e33 : y = 33
    · refine ls_swT (by rw [e33]; rfl) ?_
      refine lm_tg_of (t := 1043) rfl ?_
      exact lc_33 hD (by omega) H (by omega) hx nx
    refine ls_swF (by intro q; exact e33 (by rw [q]; rfl)) ?_
    by_cases e34 : y = 34
    · refine ls_swT (by rw [e34]; rfl) ?_
      refine lm_tg_of (t := 1076) rfl ?_
      exact lc_34 hD (by omega) H (by omega) hx nx
    refine ls_swF (by intro q; exact e34 (by rw [q]; rfl)) ?_
    by_cases e35 : y = 35
    · refine ls_swT (by rw [e35]; rfl) ?_
      refine lm_tg_of (t := 1119) rfl ?_
      exact lc_35 hD (by omega) H (by omega) hx nx
    refine ls_swF (by intro q; exact e35 (by rw [q]; rfl)) ?_
    by_cases e36 : y = 36
    · refine ls_swT (by rw [e36]; rfl) ?_
      refine lm_tg_of (t := 1142) rfl ?_
      exact lc_36 hD (by omega) H (by omega) hx nx
    refine ls_swF (by intro q; exact e36 (by rw [q]; rfl)) ?_
    by_cases e37 : y = 37
    · refine ls_swT (by rw [e37]; rfl) ?_
      refine lm_tg_of (t := 1155) rfl ?_
      exact lc_37 hD (by omega) H (by omega) hx nx
    refine ls_swF (by intro q; exact e37 (by rw [q]; rfl)) ?_
    by_cases e38 : y = 38
    · refine ls_swT (by rw [e38]; rfl) ?_
      refine lm_tg_of (t := 1178) rfl ?_
      exact lc_38 hD (by omega) H (by omega) hx nx
    refine ls_swF (by intro q; exact e38 (by rw [q]; rfl)) ?_
    by_cases e39 : y = 39
    · refine ls_swT (by rw [e39]; rfl) ?_
      refine lm_tg_of (t := 1201) rfl ?_
      exact lc_39 hD (by omega) H (by omega) hx nx
    refine ls_swF (by intro q; exact e39 (by rw [q]; rfl)) ?_
    by_cases e40 : y = 40
    · refine ls_swT (by rw [e40]; rfl) ?_
      refine lm_tg_of (t := 1224) rfl ?_
      exact lc_40 hD (by omega) H (by omega) hx nx
    refine ls_swF (by intro q; exact e40 (by rw [q]; rfl)) ?_
    refine ls_swD ?_
    refine lm_tg_of (t := 1237) rfl ?_
    exact nx h (INV_mono H)
end LoopR
