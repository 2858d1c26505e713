/-! The loop of the script. -/
section LoopS
variable {d : Nat} {st : List Value} {h : lm_H} {Q : Option Value → lm_H → Prop} {xl : (Nat → Int32) × Nat}
abbrev LL (i : Nat) : lm_L := [some (.ref 1000000), some (.ref 0), some (.ref 92), some (.int (Int32.ofNat i))]
theorem sh7 (h2 : lm_r h 1000000 0 = some xl.2) : lm_sh h 1000000 = some (7, xl.2) := by
  unfold lm_sh lm_pre
  rw [if_neg (by decide), if_pos rfl, h2]
  rfl
theorem ls_iald7 {M pc n p a : Nat} {L : lm_L} (hf : lm_at M pc .iaload 1) (hs : lm_sh h a = some (7, n)) (hp : p < n) (hn : n < 2147483648) (k : lm_W d M (pc + 1) L (.int (lm_i h a p) :: st) h Q) : lm_W d M pc L (.int (Int32.ofNat p) :: .ref a :: st) h Q := ls_of hf (by
  obtain ⟨hi, _⟩ := lm_in_F (k := True) (p_inN hp hn trivial)
  show lm_o (lm_sh h a) _ _
  rw [hs]
  simp [lm_o]
  refine lm_in_of hi ?_
  rw [q_nat (by omega)]
  exact k)
theorem ls_callS {m : Nat} {av : List Value} {K : Option Value → lm_H → Prop} (hyp : lm_call d m av h K) (hl : lm_Lay h) (k : ∀ v h', lm_Lay h' → scp h h' → K v h' → Q v h') : lm_call d m av h Q := by
  cases d with
  | zero => exact hyp.elim
  | succ d =>
    obtain ⟨h1, n, v, h', h2, h3⟩ := lm_if_F (show if (lm_ent av).length ≤ lm_ml.getD m 0 then lm_C d m av h K else False from hyp)
    show if _ then _ else _
    rw [if_pos h1]
    exact ⟨n, v, h', h2, k v h' (lm_run_Lay n h2 hl) (lm_run_sc n h2) h3⟩
theorem lp_arg {pc i : Nat} {kc : Int} (c : Nat) (f0 : lm_at 278 pc (.aload_n 0) 1) (f1 : lm_at 278 (pc + 1) (.iload_n 3) 1) (f2 : lm_at 278 (pc + 2) (.iconst kc) 1) (f3 : lm_at 278 (pc + 3) .iadd 1) (f4 : lm_at 278 (pc + 4) .iaload 1) (hc : Int32.ofInt kc = Int32.ofNat c) (h1 : lm_i h 1000000 = xl.1) (h2 : lm_r h 1000000 0 = some xl.2) (hp : i + c < xl.2) (hn : xl.2 ≤ 3072) (k : lm_W d 278 (pc + 5) (LL i) (.int (xl.1 (i + c)) :: st) h Q) : lm_W d 278 pc (LL i) st h Q := by
  refine ls_aload_n f0 rfl ?_
  refine ls_iload_n f1 rfl ?_
  refine ls_iconst (Int32.ofNat c) f2 hc ?_
  refine ls_iadd (Int32.ofNat (i + c)) f3 (q_add i c) ?_
  refine ls_iald7 f4 (sh7 h2) hp (by omega) ?_
  rw [h1]
  exact k
end LoopS
section LoopC
variable {d nc i : Nat} {h : lm_H} {Q : Option Value → lm_H → Prop} {xl : (Nat → Int32) × Nat}
theorem lc_0 (hD : 200 ≤ d) (hn : nc ≤ 10000) (H : INV xl nc h) (hp : i + 6 ≤ xl.2) (hx : xl.2 ≤ 3072) (nx : ∀ h2, INV xl (nc + 1) h2 → lm_W d 278 1237 (LL i) [] h2 Q) : lm_W d 278 212 (LL i) [] h Q := by
  have hl := (INV_s H).1.1
  obtain ⟨_, s1, s2⟩ := H.1
  refine ls_aload_n f_278_212 rfl ?_
  refine lp_arg 1 f_278_213 f_278_214 f_278_215 f_278_216 f_278_217 rfl s1 s2 (by omega) hx ?_
  refine ls_invV f_278_218 q_278_13 [.int (xl.1 (i + 1))] [] rfl (Nat.le_of_ble_eq_true rfl) hl S_0 ow_98 ?_
  refine ls_callS (op_98 (by omega) hn H (xl.1 (i + 1))) hl (fun v h1 hl1 sc1 hyp => ?_)
  refine ls_retI hyp (fun r hyp => ?_)
  have s3 : lm_i h1 1000000 = xl.1 := by rw [sc1.1, s1]
  have s4 : lm_r h1 1000000 0 = some xl.2 := by rw [sc1.2, s2]
  refine ls_aload_n f_278_221 rfl ?_
  refine lp_arg 1 f_278_222 f_278_223 f_278_224 f_278_225 f_278_226 rfl s3 s4 (by omega) hx ?_
  refine ls_invV f_278_227 q_278_17 [.int (xl.1 (i + 1))] [.int r] rfl (Nat.le_of_ble_eq_true rfl) hl1 S_92 ow_164 ?_
  refine ls_callS hyp hl1 (fun v h2 hl2 sc2 hyp => ?_)
  refine ls_retI hyp (fun r2 hyp => ?_)
  obtain ⟨e, I2⟩ := hyp
  refine ls_icmp_eq_T 1237 f_278_230 rfl e ?_
  exact nx h2 I2
theorem lc_1 (hD : 200 ≤ d) (hn : nc ≤ 10000) (H : INV xl nc h) (hp : i + 6 ≤ xl.2) (hx : xl.2 ≤ 3072) (nx : ∀ h2, INV xl (nc + 1) h2 → lm_W d 278 1237 (LL i) [] h2 Q) : lm_W d 278 235 (LL i) [] h Q := by
  have hl := (INV_s H).1.1
  obtain ⟨_, s1, s2⟩ := H.1
  refine ls_aload_n f_278_235 rfl ?_
  refine lp_arg 1 f_278_236 f_278_237 f_278_238 f_278_239 f_278_240 rfl s1 s2 (by omega) hx ?_
  refine ls_invV f_278_241 q_278_18 [.int (xl.1 (i + 1))] [] rfl (Nat.le_of_ble_eq_true rfl) hl S_0 ow_99 ?_
  refine ls_callS (op_99 (by omega) hn H (xl.1 (i + 1))) hl (fun v h1 hl1 sc1 hyp => ?_)
  refine ls_retI hyp (fun r hyp => ?_)
  have s3 : lm_i h1 1000000 = xl.1 := by rw [sc1.1, s1]
  have s4 : lm_r h1 1000000 0 = some xl.2 := by rw [sc1.2, s2]
  refine ls_aload_n f_278_244 rfl ?_
  refine lp_arg 1 f_278_245 f_278_246 f_278_247 f_278_248 f_278_249 rfl s3 s4 (by omega) hx ?_
  refine ls_invV f_278_250 q_278_21 [.int (xl.1 (i + 1))] [.int r] rfl (Nat.le_of_ble_eq_true rfl) hl1 S_92 ow_165 ?_
  refine ls_callS hyp hl1 (fun v h2 hl2 sc2 hyp => ?_)
  refine ls_retI hyp (fun r2 hyp => ?_)
  obtain ⟨e, I2⟩ := hyp
  refine ls_icmp_eq_T 1237 f_278_253 rfl e ?_
  exact nx h2 I2
theorem lc_2 (hD : 200 ≤ d) (hn : nc ≤ 10000) (H : INV xl nc h) (hp : i + 6 ≤ xl.2) (hx : xl.2 ≤ 3072) (nx : ∀ h2, INV xl (nc + 1) h2 → lm_W d 278 1237 (LL i) [] h2 Q) : lm_W d 278 258 (LL i) [] h Q := by
  have hl := (INV_s H).1.1
  obtain ⟨_, s1, s2⟩ := H.1
  refine ls_aload_n f_278_258 rfl ?_
  refine lp_arg 1 f_278_259 f_278_260 f_278_261 f_278_262 f_278_263 rfl s1 s2 (by omega) hx ?_
  refine lp_arg 2 f_278_264 f_278_265 f_278_266 f_278_267 f_278_268 rfl s1 s2 (by omega) hx ?_
  refine lp_arg 3 f_278_269 f_278_270 f_278_271 f_278_272 f_278_273 rfl s1 s2 (by omega) hx ?_
  refine ls_invV f_278_274 q_278_22 [.int (xl.1 (i + 1)), .int (xl.1 (i + 2)), .int (xl.1 (i + 3))] [] rfl (Nat.le_of_ble_eq_true rfl) hl S_0 ow_100 ?_
  refine ls_callS (op_100 (by omega) hn H (xl.1 (i + 1)) (xl.1 (i + 2)) (xl.1 (i + 3))) hl (fun v h1 hl1 sc1 hyp => ?_)
  refine ls_retI hyp (fun r hyp => ?_)
  have s3 : lm_i h1 1000000 = xl.1 := by rw [sc1.1, s1]
  have s4 : lm_r h1 1000000 0 = some xl.2 := by rw [sc1.2, s2]
  refine ls_aload_n f_278_277 rfl ?_
  refine lp_arg 1 f_278_278 f_278_279 f_278_280 f_278_281 f_278_282 rfl s3 s4 (by omega) hx ?_
  refine lp_arg 2 f_278_283 f_278_284 f_278_285 f_278_286 f_278_287 rfl s3 s4 (by omega) hx ?_
  refine lp_arg 3 f_278_288 f_278_289 f_278_290 f_278_291 f_278_292 rfl s3 s4 (by omega) hx ?_
  refine ls_invV f_278_293 q_278_26 [.int (xl.1 (i + 1)), .int (xl.1 (i + 2)), .int (xl.1 (i + 3))] [.int r] rfl (Nat.le_of_ble_eq_true rfl) hl1 S_92 ow_166 ?_
  refine ls_callS hyp hl1 (fun v h2 hl2 sc2 hyp => ?_)
  refine ls_retI hyp (fun r2 hyp => ?_)
  obtain ⟨e, I2⟩ := hyp
  refine ls_icmp_eq_T 1237 f_278_296 rfl e ?_
  exact nx h2 I2
theorem lc_3 (hD : 200 ≤ d) (hn : nc ≤ 10000) (H : INV xl nc h) (hp : i + 6 ≤ xl.2) (hx : xl.2 ≤ 3072) (nx : ∀ h2, INV xl (nc + 1) h2 → lm_W d 278 1237 (LL i) [] h2 Q) : lm_W d 278 301 (LL i) [] h Q := by
  have hl := (INV_s H).1.1
  obtain ⟨_, s1, s2⟩ := H.1
  refine ls_aload_n f_278_301 rfl ?_
  refine lp_arg 1 f_278_302 f_278_303 f_278_304 f_278_305 f_278_306 rfl s1 s2 (by omega) hx ?_
  refine lp_arg 2 f_278_307 f_278_308 f_278_309 f_278_310 f_278_311 rfl s1 s2 (by omega) hx ?_
  refine lp_arg 3 f_278_312 f_278_313 f_278_314 f_278_315 f_278_316 rfl s1 s2 (by omega) hx ?_
  refine ls_invV f_278_317 q_278_27 [.int (xl.1 (i + 1)), .int (xl.1 (i + 2)), .int (xl.1 (i + 3))] [] rfl (Nat.le_of_ble_eq_true rfl) hl S_0 ow_101 ?_
  refine ls_callS (op_101 (by omega) hn H (xl.1 (i + 1)) (xl.1 (i + 2)) (xl.1 (i + 3))) hl (fun v h1 hl1 sc1 hyp => ?_)
  refine ls_retI hyp (fun r hyp => ?_)
  have s3 : lm_i h1 1000000 = xl.1 := by rw [sc1.1, s1]
  have s4 : lm_r h1 1000000 0 = some xl.2 := by rw [sc1.2, s2]
  refine ls_aload_n f_278_320 rfl ?_
  refine lp_arg 1 f_278_321 f_278_322 f_278_323 f_278_324 f_278_325 rfl s3 s4 (by omega) hx ?_
  refine lp_arg 2 f_278_326 f_278_327 f_278_328 f_278_329 f_278_330 rfl s3 s4 (by omega) hx ?_
  refine lp_arg 3 f_278_331 f_278_332 f_278_333 f_278_334 f_278_335 rfl s3 s4 (by omega) hx ?_
  refine ls_invV f_278_336 q_278_30 [.int (xl.1 (i + 1)), .int (xl.1 (i + 2)), .int (xl.1 (i + 3))] [.int r] rfl (Nat.le_of_ble_eq_true rfl) hl1 S_92 ow_209 ?_
  refine ls_callS hyp hl1 (fun v h2 hl2 sc2 hyp => ?_)
  refine ls_retI hyp (fun r2 hyp => ?_)
  obtain ⟨e, I2⟩ := hyp
  refine ls_icmp_eq_T 1237 f_278_339 rfl e ?_
  exact nx h2 I2
theorem lc_4 (hD : 200 ≤ d) (hn : nc ≤ 10000) (H : INV xl nc h) (hp : i + 6 ≤ xl.2) (hx : xl.2 ≤ 3072) (nx : ∀ h2, INV xl (nc + 1) h2 → lm_W d 278 1237 (LL i) [] h2 Q) : lm_W d 278 344 (LL i) [] h Q := by
  have hl := (INV_s H).1.1
  obtain ⟨_, s1, s2⟩ := H.1
  refine ls_aload_n f_278_344 rfl ?_
  refine lp_arg 1 f_278_345 f_278_346 f_278_347 f_278_348 f_278_349 rfl s1 s2 (by omega) hx ?_
  refine lp_arg 2 f_278_350 f_278_351 f_278_352 f_278_353 f_278_354 rfl s1 s2 (by omega) hx ?_
  refine ls_invV f_278_355 q_278_31 [.int (xl.1 (i + 1)), .int (xl.1 (i + 2))] [] rfl (Nat.le_of_ble_eq_true rfl) hl S_0 ow_102 ?_
  refine ls_callS (op_102 (by omega) hn H (xl.1 (i + 1)) (xl.1 (i + 2))) hl (fun v h1 hl1 sc1 hyp => ?_)
  refine ls_retI hyp (fun r hyp => ?_)
  have s3 : lm_i h1 1000000 = xl.1 := by rw [sc1.1, s1]
  have s4 : lm_r h1 1000000 0 = some xl.2 := by rw [sc1.2, s2]
  refine ls_aload_n f_278_358 rfl ?_
  refine lp_arg 1 f_278_359 f_278_360 f_278_361 f_278_362 f_278_363 rfl s3 s4 (by omega) hx ?_
  refine lp_arg 2 f_278_364 f_278_365 f_278_366 f_278_367 f_278_368 rfl s3 s4 (by omega) hx ?_
  refine ls_invV f_278_369 q_278_35 [.int (xl.1 (i + 1)), .int (xl.1 (i + 2))] [.int r] rfl (Nat.le_of_ble_eq_true rfl) hl1 S_92 ow_167 ?_
  refine ls_callS hyp hl1 (fun v h2 hl2 sc2 hyp => ?_)
  refine ls_retI hyp (fun r2 hyp => ?_)
  obtain ⟨e, I2⟩ := hyp
  refine ls_icmp_eq_T 1237 f_278_372 rfl e ?_
  exact nx h2 I2
theorem lc_5 (hD : 200 ≤ d) (hn : nc ≤ 10000) (H : INV xl nc h) (hp : i + 6 ≤ xl.2) (hx : xl.2 ≤ 3072) (nx : ∀ h2, INV xl (nc + 1) h2 → lm_W d 278 1237 (LL i) [] h2 Q) : lm_W d 278 377 (LL i) [] h Q := by
  have hl := (INV_s H).1.1
  obtain ⟨_, s1, s2⟩ := H.1
  refine ls_aload_n f_278_377 rfl ?_
  refine lp_arg 1 f_278_378 f_278_379 f_278_380 f_278_381 f_278_382 rfl s1 s2 (by omega) hx ?_
  refine lp_arg 2 f_278_383 f_278_384 f_278_385 f_278_386 f_278_387 rfl s1 s2 (by omega) hx ?_
  refine lp_arg 3 f_278_388 f_278_389 f_278_390 f_278_391 f_278_392 rfl s1 s2 (by omega) hx ?_
  refine lp_arg 4 f_278_393 f_278_394 f_278_395 f_278_396 f_278_397 rfl s1 s2 (by omega) hx ?_
  refine lp_arg 5 f_278_398 f_278_399 f_278_400 f_278_401 f_278_402 rfl s1 s2 (by omega) hx ?_
  refine ls_invV f_278_403 q_278_36 [.int (xl.1 (i + 1)), .int (xl.1 (i + 2)), .int (xl.1 (i + 3)), .int (xl.1 (i + 4)), .int (xl.1 (i + 5))] [] rfl (Nat.le_of_ble_eq_true rfl) hl S_0 ow_103 ?_
  refine ls_callS (op_103 (by omega) hn H (xl.1 (i + 1)) (xl.1 (i + 2)) (xl.1 (i + 3)) (xl.1 (i + 4)) (xl.1 (i + 5))) hl (fun v h1 hl1 sc1 hyp => ?_)
  refine ls_retI hyp (fun r hyp => ?_)
  have s3 : lm_i h1 1000000 = xl.1 := by rw [sc1.1, s1]
  have s4 : lm_r h1 1000000 0 = some xl.2 := by rw [sc1.2, s2]
  refine ls_aload_n f_278_406 rfl ?_
  refine lp_arg 1 f_278_407 f_278_408 f_278_409 f_278_410 f_278_411 rfl s3 s4 (by omega) hx ?_
  refine lp_arg 2 f_278_412 f_278_413 f_278_414 f_278_415 f_278_416 rfl s3 s4 (by omega) hx ?_
  refine lp_arg 3 f_278_417 f_278_418 f_278_419 f_278_420 f_278_421 rfl s3 s4 (by omega) hx ?_
  refine lp_arg 4 f_278_422 f_278_423 f_278_424 f_278_425 f_278_426 rfl s3 s4 (by omega) hx ?_
  refine lp_arg 5 f_278_427 f_278_428 f_278_429 f_278_430 f_278_431 rfl s3 s4 (by omega) hx ?_
  refine ls_invV f_278_432 q_278_40 [.int (xl.1 (i + 1)), .int (xl.1 (i + 2)), .int (xl.1 (i + 3)), .int (xl.1 (i + 4)), .int (xl.1 (i + 5))] [.int r] rfl (Nat.le_of_ble_eq_true rfl) hl1 S_92 ow_173 ?_
  refine ls_callS hyp hl1 (fun v h2 hl2 sc2 hyp => ?_)
  refine ls_retI hyp (fun r2 hyp => ?_)
  obtain ⟨e, I2⟩ := hyp
  refine ls_icmp_eq_T 1237 f_278_435 rfl e ?_
  exact nx h2 I2
theorem lc_6 (hD : 200 ≤ d) (hn : nc ≤ 10000) (H : INV xl nc h) (hp : i + 6 ≤ xl.2) (hx : xl.2 ≤ 3072) (nx : ∀ h2, INV xl (nc + 1) h2 → lm_W d 278 1237 (LL i) [] h2 Q) : lm_W d 278 440 (LL i) [] h Q := by
  have hl := (INV_s H).1.1
  obtain ⟨_, s1, s2⟩ := H.1
  refine ls_aload_n f_278_440 rfl ?_
  refine lp_arg 1 f_278_441 f_278_442 f_278_443 f_278_444 f_278_445 rfl s1 s2 (by omega) hx ?_
  refine ls_invV f_278_446 q_278_41 [.int (xl.1 (i + 1))] [] rfl (Nat.le_of_ble_eq_true rfl) hl S_0 ow_104 ?_
  refine ls_callS (op_104 (by omega) hn H (xl.1 (i + 1))) hl (fun v h1 hl1 sc1 hyp => ?_)
  refine ls_retI hyp (fun r hyp => ?_)
  have s3 : lm_i h1 1000000 = xl.1 := by rw [sc1.1, s1]
  have s4 : lm_r h1 1000000 0 = some xl.2 := by rw [sc1.2, s2]
  refine ls_aload_n f_278_449 rfl ?_
  refine lp_arg 1 f_278_450 f_278_451 f_278_452 f_278_453 f_278_454 rfl s3 s4 (by omega) hx ?_
  refine ls_invV f_278_455 q_278_44 [.int (xl.1 (i + 1))] [.int r] rfl (Nat.le_of_ble_eq_true rfl) hl1 S_92 ow_174 ?_
  refine ls_callS hyp hl1 (fun v h2 hl2 sc2 hyp => ?_)
  refine ls_retI hyp (fun r2 hyp => ?_)
  obtain ⟨e, I2⟩ := hyp
  refine ls_icmp_eq_T 1237 f_278_458 rfl e ?_
  exact nx h2 I2
theorem lc_7 (hD : 200 ≤ d) (hn : nc ≤ 10000) (H : INV xl nc h) (hp : i + 6 ≤ xl.2) (hx : xl.2 ≤ 3072) (nx : ∀ h2, INV xl (nc + 1) h2 → lm_W d 278 1237 (LL i) [] h2 Q) : lm_W d 278 463 (LL i) [] h Q := by
  have hl := (INV_s H).1.1
  obtain ⟨_, s1, s2⟩ := H.1
  refine ls_aload_n f_278_463 rfl ?_
  refine ls_invV f_278_464 q_278_45 [] [] rfl (Nat.le_of_ble_eq_true rfl) hl S_0 ow_105 ?_
  refine ls_callS (op_105 (by omega) hn H) hl (fun v h1 hl1 sc1 hyp => ?_)
  refine ls_retI hyp (fun r hyp => ?_)
  have s3 : lm_i h1 1000000 = xl.1 := by rw [sc1.1, s1]
  have s4 : lm_r h1 1000000 0 = some xl.2 := by rw [sc1.2, s2]
  refine ls_aload_n f_278_467 rfl ?_
  refine ls_invV f_278_468 q_278_49 [] [.int r] rfl (Nat.le_of_ble_eq_true rfl) hl1 S_92 ow_171 ?_
  refine ls_callS hyp hl1 (fun v h2 hl2 sc2 hyp => ?_)
  refine ls_retI hyp (fun r2 hyp => ?_)
  obtain ⟨e, I2⟩ := hyp
  refine ls_icmp_eq_T 1237 f_278_471 rfl e ?_
  exact nx h2 I2
theorem lc_8 (hD : 200 ≤ d) (hn : nc ≤ 10000) (H : INV xl nc h) (hp : i + 6 ≤ xl.2) (hx : xl.2 ≤ 3072) (nx : ∀ h2, INV xl (nc + 1) h2 → lm_W d 278 1237 (LL i) [] h2 Q) : lm_W d 278 476 (LL i) [] h Q := by
  have hl := (INV_s H).1.1
  obtain ⟨_, s1, s2⟩ := H.1
  refine ls_aload_n f_278_476 rfl ?_
  refine ls_invV f_278_477 q_278_50 [] [] rfl (Nat.le_of_ble_eq_true rfl) hl S_0 ow_106 ?_
  refine ls_callS (op_106 (by omega) hn H) hl (fun v h1 hl1 sc1 hyp => ?_)
  refine ls_retI hyp (fun r hyp => ?_)
  have s3 : lm_i h1 1000000 = xl.1 := by rw [sc1.1, s1]
  have s4 : lm_r h1 1000000 0 = some xl.2 := by rw [sc1.2, s2]
  refine ls_aload_n f_278_480 rfl ?_
  refine ls_invV f_278_481 q_278_53 [] [.int r] rfl (Nat.le_of_ble_eq_true rfl) hl1 S_92 ow_172 ?_
  refine ls_callS hyp hl1 (fun v h2 hl2 sc2 hyp => ?_)
  refine ls_retI hyp (fun r2 hyp => ?_)
  obtain ⟨e, I2⟩ := hyp
  refine ls_icmp_eq_T 1237 f_278_484 rfl e ?_
  exact nx h2 I2
theorem lc_9 (hD : 200 ≤ d) (hn : nc ≤ 10000) (H : INV xl nc h) (hp : i + 6 ≤ xl.2) (hx : xl.2 ≤ 3072) (nx : ∀ h2, INV xl (nc + 1) h2 → lm_W d 278 1237 (LL i) [] h2 Q) : lm_W d 278 489 (LL i) [] h Q := by
  have hl := (INV_s H).1.1
  obtain ⟨_, s1, s2⟩ := H.1
  refine ls_aload_n f_278_489 rfl ?_
  refine ls_invV f_278_490 q_278_54 [] [] rfl (Nat.le_of_ble_eq_true rfl) hl S_0 ow_107 ?_
  refine ls_callS (op_107 (by omega) hn H) hl (fun v h1 hl1 sc1 hyp => ?_)
  refine ls_retI hyp (fun r hyp => ?_)
  have s3 : lm_i h1 1000000 = xl.1 := by rw [sc1.1, s1]
  have s4 : lm_r h1 1000000 0 = some xl.2 := by rw [sc1.2, s2]
  refine ls_aload_n f_278_493 rfl ?_
  refine ls_invV f_278_494 q_278_57 [] [.int r] rfl (Nat.le_of_ble_eq_true rfl) hl1 S_92 ow_193 ?_
  refine ls_callS hyp hl1 (fun v h2 hl2 sc2 hyp => ?_)
  refine ls_retI hyp (fun r2 hyp => ?_)
  obtain ⟨e, I2⟩ := hyp
  refine ls_icmp_eq_T 1237 f_278_497 rfl e ?_
  exact nx h2 I2
theorem lc_10 (hD : 200 ≤ d) (hn : nc ≤ 10000) (H : INV xl nc h) (hp : i + 6 ≤ xl.2) (hx : xl.2 ≤ 3072) (nx : ∀ h2, INV xl (nc + 1) h2 → lm_W d 278 1237 (LL i) [] h2 Q) : lm_W d 278 502 (LL i) [] h Q := by
  have hl := (INV_s H).1.1
  obtain ⟨_, s1, s2⟩ := H.1
  refine ls_aload_n f_278_502 rfl ?_
  refine ls_invV f_278_503 q_278_58 [] [] rfl (Nat.le_of_ble_eq_true rfl) hl S_0 ow_108 ?_
  refine ls_callS (op_108 (by omega) hn H) hl (fun v h1 hl1 sc1 hyp => ?_)
  refine ls_retI hyp (fun r hyp => ?_)
  have s3 : lm_i h1 1000000 = xl.1 := by rw [sc1.1, s1]
  have s4 : lm_r h1 1000000 0 = some xl.2 := by rw [sc1.2, s2]
  refine ls_aload_n f_278_506 rfl ?_
  refine ls_invV f_278_507 q_278_61 [] [.int r] rfl (Nat.le_of_ble_eq_true rfl) hl1 S_92 ow_194 ?_
  refine ls_callS hyp hl1 (fun v h2 hl2 sc2 hyp => ?_)
  refine ls_retI hyp (fun r2 hyp => ?_)
  obtain ⟨e, I2⟩ := hyp
  refine ls_icmp_eq_T 1237 f_278_510 rfl e ?_
  exact nx h2 I2
theorem lc_11 (hD : 200 ≤ d) (hn : nc ≤ 10000) (H : INV xl nc h) (hp : i + 6 ≤ xl.2) (hx : xl.2 ≤ 3072) (nx : ∀ h2, INV xl (nc + 1) h2 → lm_W d 278 1237 (LL i) [] h2 Q) : lm_W d 278 515 (LL i) [] h Q := by
  have hl := (INV_s H).1.1
  obtain ⟨_, s1, s2⟩ := H.1
  refine ls_aload_n f_278_515 rfl ?_
  refine lp_arg 1 f_278_516 f_278_517 f_278_518 f_278_519 f_278_520 rfl s1 s2 (by omega) hx ?_
  refine ls_invV f_278_521 q_278_62 [.int (xl.1 (i + 1))] [] rfl (Nat.le_of_ble_eq_true rfl) hl S_0 ow_109 ?_
  refine ls_callS (op_109 (by omega) hn H (xl.1 (i + 1))) hl (fun v h1 hl1 sc1 hyp => ?_)
  refine ls_retI hyp (fun r hyp => ?_)
  have s3 : lm_i h1 1000000 = xl.1 := by rw [sc1.1, s1]
  have s4 : lm_r h1 1000000 0 = some xl.2 := by rw [sc1.2, s2]
  refine ls_aload_n f_278_524 rfl ?_
  refine lp_arg 1 f_278_525 f_278_526 f_278_527 f_278_528 f_278_529 rfl s3 s4 (by omega) hx ?_
  refine ls_invV f_278_530 q_278_65 [.int (xl.1 (i + 1))] [.int r] rfl (Nat.le_of_ble_eq_true rfl) hl1 S_92 ow_195 ?_
  refine ls_callS hyp hl1 (fun v h2 hl2 sc2 hyp => ?_)
  refine ls_retI hyp (fun r2 hyp => ?_)
  obtain ⟨e, I2⟩ := hyp
  refine ls_icmp_eq_T 1237 f_278_533 rfl e ?_
  exact nx h2 I2
theorem lc_12 (hD : 200 ≤ d) (hn : nc ≤ 10000) (H : INV xl nc h) (hp : i + 6 ≤ xl.2) (hx : xl.2 ≤ 3072) (nx : ∀ h2, INV xl (nc + 1) h2 → lm_W d 278 1237 (LL i) [] h2 Q) : lm_W d 278 538 (LL i) [] h Q := by
  have hl := (INV_s H).1.1
  obtain ⟨_, s1, s2⟩ := H.1
  refine ls_aload_n f_278_538 rfl ?_
  refine lp_arg 1 f_278_539 f_278_540 f_278_541 f_278_542 f_278_543 rfl s1 s2 (by omega) hx ?_
  refine lp_arg 2 f_278_544 f_278_545 f_278_546 f_278_547 f_278_548 rfl s1 s2 (by omega) hx ?_
  refine ls_invV f_278_549 q_278_66 [.int (xl.1 (i + 1)), .int (xl.1 (i + 2))] [] rfl (Nat.le_of_ble_eq_true rfl) hl S_0 ow_110 ?_
  refine ls_callS (op_110 (by omega) hn H (xl.1 (i + 1)) (xl.1 (i + 2))) hl (fun v h1 hl1 sc1 hyp => ?_)
  refine ls_retI hyp (fun r hyp => ?_)
  have s3 : lm_i h1 1000000 = xl.1 := by rw [sc1.1, s1]
  have s4 : lm_r h1 1000000 0 = some xl.2 := by rw [sc1.2, s2]
  refine ls_aload_n f_278_552 rfl ?_
  refine lp_arg 1 f_278_553 f_278_554 f_278_555 f_278_556 f_278_557 rfl s3 s4 (by omega) hx ?_
  refine lp_arg 2 f_278_558 f_278_559 f_278_560 f_278_561 f_278_562 rfl s3 s4 (by omega) hx ?_
  refine ls_invV f_278_563 q_278_69 [.int (xl.1 (i + 1)), .int (xl.1 (i + 2))] [.int r] rfl (Nat.le_of_ble_eq_true rfl) hl1 S_92 ow_168 ?_
  refine ls_callS hyp hl1 (fun v h2 hl2 sc2 hyp => ?_)
  refine ls_retI hyp (fun r2 hyp => ?_)
  obtain ⟨e, I2⟩ := hyp
  refine ls_icmp_eq_T 1237 f_278_566 rfl e ?_
  exact nx h2 I2
theorem lc_13 (hD : 200 ≤ d) (hn : nc ≤ 10000) (H : INV xl nc h) (hp : i + 6 ≤ xl.2) (hx : xl.2 ≤ 3072) (nx : ∀ h2, INV xl (nc + 1) h2 → lm_W d 278 1237 (LL i) [] h2 Q) : lm_W d 278 571 (LL i) [] h Q := by
  have hl := (INV_s H).1.1
  obtain ⟨_, s1, s2⟩ := H.1
  refine ls_aload_n f_278_571 rfl ?_
  refine lp_arg 1 f_278_572 f_278_573 f_278_574 f_278_575 f_278_576 rfl s1 s2 (by omega) hx ?_
  refine ls_invV f_278_577 q_278_70 [.int (xl.1 (i + 1))] [] rfl (Nat.le_of_ble_eq_true rfl) hl S_0 ow_111 ?_
  refine ls_callS (op_111 (by omega) hn H (xl.1 (i + 1))) hl (fun v h1 hl1 sc1 hyp => ?_)
  refine ls_retI hyp (fun r hyp => ?_)
  have s3 : lm_i h1 1000000 = xl.1 := by rw [sc1.1, s1]
  have s4 : lm_r h1 1000000 0 = some xl.2 := by rw [sc1.2, s2]
  refine ls_aload_n f_278_580 rfl ?_
  refine lp_arg 1 f_278_581 f_278_582 f_278_583 f_278_584 f_278_585 rfl s3 s4 (by omega) hx ?_
  refine ls_invV f_278_586 q_278_73 [.int (xl.1 (i + 1))] [.int r] rfl (Nat.le_of_ble_eq_true rfl) hl1 S_92 ow_216 ?_
  refine ls_callS hyp hl1 (fun v h2 hl2 sc2 hyp => ?_)
  refine ls_retI hyp (fun r2 hyp => ?_)
  obtain ⟨e, I2⟩ := hyp
  refine ls_icmp_eq_T 1237 f_278_589 rfl e ?_
  exact nx h2 I2
theorem lc_14 (hD : 200 ≤ d) (hn : nc ≤ 10000) (H : INV xl nc h) (hp : i + 6 ≤ xl.2) (hx : xl.2 ≤ 3072) (nx : ∀ h2, INV xl (nc + 1) h2 → lm_W d 278 1237 (LL i) [] h2 Q) : lm_W d 278 594 (LL i) [] h Q := by
  have hl := (INV_s H).1.1
  obtain ⟨_, s1, s2⟩ := H.1
  refine ls_aload_n f_278_594 rfl ?_
  refine lp_arg 1 f_278_595 f_278_596 f_278_597 f_278_598 f_278_599 rfl s1 s2 (by omega) hx ?_
  refine ls_invV f_278_600 q_278_74 [.int (xl.1 (i + 1))] [] rfl (Nat.le_of_ble_eq_true rfl) hl S_0 ow_112 ?_
  refine ls_callS (op_112 (by omega) hn H (xl.1 (i + 1))) hl (fun v h1 hl1 sc1 hyp => ?_)
  refine ls_retI hyp (fun r hyp => ?_)
  have s3 : lm_i h1 1000000 = xl.1 := by rw [sc1.1, s1]
  have s4 : lm_r h1 1000000 0 = some xl.2 := by rw [sc1.2, s2]
  refine ls_aload_n f_278_603 rfl ?_
  refine lp_arg 1 f_278_604 f_278_605 f_278_606 f_278_607 f_278_608 rfl s3 s4 (by omega) hx ?_
  refine ls_invV f_278_609 q_278_77 [.int (xl.1 (i + 1))] [.int r] rfl (Nat.le_of_ble_eq_true rfl) hl1 S_92 ow_217 ?_
  refine ls_callS hyp hl1 (fun v h2 hl2 sc2 hyp => ?_)
  refine ls_retI hyp (fun r2 hyp => ?_)
  obtain ⟨e, I2⟩ := hyp
  refine ls_icmp_eq_T 1237 f_278_612 rfl e ?_
  exact nx h2 I2
theorem lc_15 (hD : 200 ≤ d) (hn : nc ≤ 10000) (H : INV xl nc h) (hp : i + 6 ≤ xl.2) (hx : xl.2 ≤ 3072) (nx : ∀ h2, INV xl (nc + 1) h2 → lm_W d 278 1237 (LL i) [] h2 Q) : lm_W d 278 617 (LL i) [] h Q := by
  have hl := (INV_s H).1.1
  obtain ⟨_, s1, s2⟩ := H.1
  refine ls_aload_n f_278_617 rfl ?_
  refine lp_arg 1 f_278_618 f_278_619 f_278_620 f_278_621 f_278_622 rfl s1 s2 (by omega) hx ?_
  refine ls_invV f_278_623 q_278_78 [.int (xl.1 (i + 1))] [] rfl (Nat.le_of_ble_eq_true rfl) hl S_0 ow_113 ?_
  refine ls_callS (op_113 (by omega) hn H (xl.1 (i + 1))) hl (fun v h1 hl1 sc1 hyp => ?_)
  refine ls_retI hyp (fun r hyp => ?_)
  have s3 : lm_i h1 1000000 = xl.1 := by rw [sc1.1, s1]
  have s4 : lm_r h1 1000000 0 = some xl.2 := by rw [sc1.2, s2]
  refine ls_aload_n f_278_626 rfl ?_
  refine lp_arg 1 f_278_627 f_278_628 f_278_629 f_278_630 f_278_631 rfl s3 s4 (by omega) hx ?_
  refine ls_invV f_278_632 q_278_81 [.int (xl.1 (i + 1))] [.int r] rfl (Nat.le_of_ble_eq_true rfl) hl1 S_92 ow_218 ?_
  refine ls_callS hyp hl1 (fun v h2 hl2 sc2 hyp => ?_)
  refine ls_retI hyp (fun r2 hyp => ?_)
  obtain ⟨e, I2⟩ := hyp
  refine ls_icmp_eq_T 1237 f_278_635 rfl e ?_
  exact nx h2 I2
theorem lc_16 (hD : 200 ≤ d) (hn : nc ≤ 10000) (H : INV xl nc h) (hp : i + 6 ≤ xl.2) (hx : xl.2 ≤ 3072) (nx : ∀ h2, INV xl (nc + 1) h2 → lm_W d 278 1237 (LL i) [] h2 Q) : lm_W d 278 640 (LL i) [] h Q := by
  have hl := (INV_s H).1.1
  obtain ⟨_, s1, s2⟩ := H.1
  refine ls_aload_n f_278_640 rfl ?_
  refine lp_arg 1 f_278_641 f_278_642 f_278_643 f_278_644 f_278_645 rfl s1 s2 (by omega) hx ?_
  refine ls_invV f_278_646 q_278_82 [.int (xl.1 (i + 1))] [] rfl (Nat.le_of_ble_eq_true rfl) hl S_0 ow_114 ?_
  refine ls_callS (op_114 (by omega) hn H (xl.1 (i + 1))) hl (fun v h1 hl1 sc1 hyp => ?_)
  refine ls_retI hyp (fun r hyp => ?_)
  have s3 : lm_i h1 1000000 = xl.1 := by rw [sc1.1, s1]
  have s4 : lm_r h1 1000000 0 = some xl.2 := by rw [sc1.2, s2]
  refine ls_aload_n f_278_649 rfl ?_
  refine lp_arg 1 f_278_650 f_278_651 f_278_652 f_278_653 f_278_654 rfl s3 s4 (by omega) hx ?_
  refine ls_invV f_278_655 q_278_85 [.int (xl.1 (i + 1))] [.int r] rfl (Nat.le_of_ble_eq_true rfl) hl1 S_92 ow_225 ?_
  refine ls_callS hyp hl1 (fun v h2 hl2 sc2 hyp => ?_)
  refine ls_retI hyp (fun r2 hyp => ?_)
  obtain ⟨e, I2⟩ := hyp
  refine ls_icmp_eq_T 1237 f_278_658 rfl e ?_
  exact nx h2 I2
theorem lc_17 (hD : 200 ≤ d) (hn : nc ≤ 10000) (H : INV xl nc h) (hp : i + 6 ≤ xl.2) (hx : xl.2 ≤ 3072) (nx : ∀ h2, INV xl (nc + 1) h2 → lm_W d 278 1237 (LL i) [] h2 Q) : lm_W d 278 663 (LL i) [] h Q := by
  have hl := (INV_s H).1.1
  obtain ⟨_, s1, s2⟩ := H.1
  refine ls_aload_n f_278_663 rfl ?_
  refine lp_arg 1 f_278_664 f_278_665 f_278_666 f_278_667 f_278_668 rfl s1 s2 (by omega) hx ?_
  refine ls_invV f_278_669 q_278_86 [.int (xl.1 (i + 1))] [] rfl (Nat.le_of_ble_eq_true rfl) hl S_0 ow_115 ?_
  refine ls_callS (op_115 (by omega) hn H (xl.1 (i + 1))) hl (fun v h1 hl1 sc1 hyp => ?_)
  refine ls_retI hyp (fun r hyp => ?_)
  have s3 : lm_i h1 1000000 = xl.1 := by rw [sc1.1, s1]
  have s4 : lm_r h1 1000000 0 = some xl.2 := by rw [sc1.2, s2]
  refine ls_aload_n f_278_672 rfl ?_
  refine lp_arg 1 f_278_673 f_278_674 f_278_675 f_278_676 f_278_677 rfl s3 s4 (by omega) hx ?_
  refine ls_invV f_278_678 q_278_89 [.int (xl.1 (i + 1))] [.int r] rfl (Nat.le_of_ble_eq_true rfl) hl1 S_92 ow_226 ?_
  refine ls_callS hyp hl1 (fun v h2 hl2 sc2 hyp => ?_)
  refine ls_retI hyp (fun r2 hyp => ?_)
  obtain ⟨e, I2⟩ := hyp
  refine ls_icmp_eq_T 1237 f_278_681 rfl e ?_
  exact nx h2 I2
theorem lc_18 (hD : 200 ≤ d) (hn : nc ≤ 10000) (H : INV xl nc h) (hp : i + 6 ≤ xl.2) (hx : xl.2 ≤ 3072) (nx : ∀ h2, INV xl (nc + 1) h2 → lm_W d 278 1237 (LL i) [] h2 Q) : lm_W d 278 686 (LL i) [] h Q := by
  have hl := (INV_s H).1.1
  obtain ⟨_, s1, s2⟩ := H.1
  refine ls_aload_n f_278_686 rfl ?_
  refine lp_arg 1 f_278_687 f_278_688 f_278_689 f_278_690 f_278_691 rfl s1 s2 (by omega) hx ?_
  refine ls_invV f_278_692 q_278_90 [.int (xl.1 (i + 1))] [] rfl (Nat.le_of_ble_eq_true rfl) hl S_0 ow_116 ?_
  refine ls_callS (op_116 (by omega) hn H (xl.1 (i + 1))) hl (fun v h1 hl1 sc1 hyp => ?_)
  refine ls_retI hyp (fun r hyp => ?_)
  have s3 : lm_i h1 1000000 = xl.1 := by rw [sc1.1, s1]
  have s4 : lm_r h1 1000000 0 = some xl.2 := by rw [sc1.2, s2]
  refine ls_aload_n f_278_695 rfl ?_
  refine lp_arg 1 f_278_696 f_278_697 f_278_698 f_278_699 f_278_700 rfl s3 s4 (by omega) hx ?_
  refine ls_invV f_278_701 q_278_93 [.int (xl.1 (i + 1))] [.int r] rfl (Nat.le_of_ble_eq_true rfl) hl1 S_92 ow_227 ?_
  refine ls_callS hyp hl1 (fun v h2 hl2 sc2 hyp => ?_)
  refine ls_retI hyp (fun r2 hyp => ?_)
  obtain ⟨e, I2⟩ := hyp
  refine ls_icmp_eq_T 1237 f_278_704 rfl e ?_
  exact nx h2 I2
theorem lc_19 (hD : 200 ≤ d) (hn : nc ≤ 10000) (H : INV xl nc h) (hp : i + 6 ≤ xl.2) (hx : xl.2 ≤ 3072) (nx : ∀ h2, INV xl (nc + 1) h2 → lm_W d 278 1237 (LL i) [] h2 Q) : lm_W d 278 709 (LL i) [] h Q := by
  have hl := (INV_s H).1.1
  obtain ⟨_, s1, s2⟩ := H.1
  refine ls_aload_n f_278_709 rfl ?_
  refine ls_invV f_278_710 q_278_94 [] [] rfl (Nat.le_of_ble_eq_true rfl) hl S_0 ow_117 ?_
  refine ls_callS (op_117 (by omega) hn H) hl (fun v h1 hl1 sc1 hyp => ?_)
  refine ls_retI hyp (fun r hyp => ?_)
  have s3 : lm_i h1 1000000 = xl.1 := by rw [sc1.1, s1]
  have s4 : lm_r h1 1000000 0 = some xl.2 := by rw [sc1.2, s2]
  refine ls_aload_n f_278_713 rfl ?_
  refine ls_invV f_278_714 q_278_97 [] [.int r] rfl (Nat.le_of_ble_eq_true rfl) hl1 S_92 ow_228 ?_
  refine ls_callS hyp hl1 (fun v h2 hl2 sc2 hyp => ?_)
  refine ls_retI hyp (fun r2 hyp => ?_)
  obtain ⟨e, I2⟩ := hyp
  refine ls_icmp_eq_T 1237 f_278_717 rfl e ?_
  exact nx h2 I2
theorem lc_20 (hD : 200 ≤ d) (hn : nc ≤ 10000) (H : INV xl nc h) (hp : i + 6 ≤ xl.2) (hx : xl.2 ≤ 3072) (nx : ∀ h2, INV xl (nc + 1) h2 → lm_W d 278 1237 (LL i) [] h2 Q) : lm_W d 278 722 (LL i) [] h Q := by
  have hl := (INV_s H).1.1
  obtain ⟨_, s1, s2⟩ := H.1
  refine ls_aload_n f_278_722 rfl ?_
  refine lp_arg 1 f_278_723 f_278_724 f_278_725 f_278_726 f_278_727 rfl s1 s2 (by omega) hx ?_
  refine lp_arg 2 f_278_728 f_278_729 f_278_730 f_278_731 f_278_732 rfl s1 s2 (by omega) hx ?_
  refine ls_invV f_278_733 q_278_98 [.int (xl.1 (i + 1)), .int (xl.1 (i + 2))] [] rfl (Nat.le_of_ble_eq_true rfl) hl S_0 ow_118 ?_
  refine ls_callS (op_118 (by omega) hn H (xl.1 (i + 1)) (xl.1 (i + 2))) hl (fun v h1 hl1 sc1 hyp => ?_)
  refine ls_retI hyp (fun r hyp => ?_)
  have s3 : lm_i h1 1000000 = xl.1 := by rw [sc1.1, s1]
  have s4 : lm_r h1 1000000 0 = some xl.2 := by rw [sc1.2, s2]
  refine ls_aload_n f_278_736 rfl ?_
  refine lp_arg 1 f_278_737 f_278_738 f_278_739 f_278_740 f_278_741 rfl s3 s4 (by omega) hx ?_
  refine lp_arg 2 f_278_742 f_278_743 f_278_744 f_278_745 f_278_746 rfl s3 s4 (by omega) hx ?_
  refine ls_invV f_278_747 q_278_101 [.int (xl.1 (i + 1)), .int (xl.1 (i + 2))] [.int r] rfl (Nat.le_of_ble_eq_true rfl) hl1 S_92 ow_229 ?_
  refine ls_callS hyp hl1 (fun v h2 hl2 sc2 hyp => ?_)
  refine ls_retI hyp (fun r2 hyp => ?_)
  obtain ⟨e, I2⟩ := hyp
  refine ls_icmp_eq_T 1237 f_278_750 rfl e ?_
  exact nx h2 I2
theorem lc_21 (hD : 200 ≤ d) (hn : nc ≤ 10000) (H : INV xl nc h) (hp : i + 6 ≤ xl.2) (hx : xl.2 ≤ 3072) (nx : ∀ h2, INV xl (nc + 1) h2 → lm_W d 278 1237 (LL i) [] h2 Q) : lm_W d 278 755 (LL i) [] h Q := by
  have hl := (INV_s H).1.1
  obtain ⟨_, s1, s2⟩ := H.1
  refine ls_aload_n f_278_755 rfl ?_
  refine lp_arg 1 f_278_756 f_278_757 f_278_758 f_278_759 f_278_760 rfl s1 s2 (by omega) hx ?_
  refine ls_invV f_278_761 q_278_102 [.int (xl.1 (i + 1))] [] rfl (Nat.le_of_ble_eq_true rfl) hl S_0 ow_119 ?_
  refine ls_callS (op_119 (by omega) hn H (xl.1 (i + 1))) hl (fun v h1 hl1 sc1 hyp => ?_)
  refine ls_retI hyp (fun r hyp => ?_)
  have s3 : lm_i h1 1000000 = xl.1 := by rw [sc1.1, s1]
  have s4 : lm_r h1 1000000 0 = some xl.2 := by rw [sc1.2, s2]
  refine ls_aload_n f_278_764 rfl ?_
  refine lp_arg 1 f_278_765 f_278_766 f_278_767 f_278_768 f_278_769 rfl s3 s4 (by omega) hx ?_
  refine ls_invV f_278_770 q_278_105 [.int (xl.1 (i + 1))] [.int r] rfl (Nat.le_of_ble_eq_true rfl) hl1 S_92 ow_230 ?_
  refine ls_callS hyp hl1 (fun v h2 hl2 sc2 hyp => ?_)
  refine ls_retI hyp (fun r2 hyp => ?_)
  obtain ⟨e, I2⟩ := hyp
  refine ls_icmp_eq_T 1237 f_278_773 rfl e ?_
  exact nx h2 I2
theorem lc_22 (hD : 200 ≤ d) (hn : nc ≤ 10000) (H : INV xl nc h) (hp : i + 6 ≤ xl.2) (hx : xl.2 ≤ 3072) (nx : ∀ h2, INV xl (nc + 1) h2 → lm_W d 278 1237 (LL i) [] h2 Q) : lm_W d 278 778 (LL i) [] h Q := by
  have hl := (INV_s H).1.1
  obtain ⟨_, s1, s2⟩ := H.1
  refine ls_aload_n f_278_778 rfl ?_
  refine lp_arg 1 f_278_779 f_278_780 f_278_781 f_278_782 f_278_783 rfl s1 s2 (by omega) hx ?_
  refine ls_invV f_278_784 q_278_106 [.int (xl.1 (i + 1))] [] rfl (Nat.le_of_ble_eq_true rfl) hl S_0 ow_120 ?_
  refine ls_callS (op_120 (by omega) hn H (xl.1 (i + 1))) hl (fun v h1 hl1 sc1 hyp => ?_)
  refine ls_retI hyp (fun r hyp => ?_)
  have s3 : lm_i h1 1000000 = xl.1 := by rw [sc1.1, s1]
  have s4 : lm_r h1 1000000 0 = some xl.2 := by rw [sc1.2, s2]
  refine ls_aload_n f_278_787 rfl ?_
  refine lp_arg 1 f_278_788 f_278_789 f_278_790 f_278_791 f_278_792 rfl s3 s4 (by omega) hx ?_
  refine ls_invV f_278_793 q_278_109 [.int (xl.1 (i + 1))] [.int r] rfl (Nat.le_of_ble_eq_true rfl) hl1 S_92 ow_233 ?_
  refine ls_callS hyp hl1 (fun v h2 hl2 sc2 hyp => ?_)
  refine ls_retI hyp (fun r2 hyp => ?_)
  obtain ⟨e, I2⟩ := hyp
  refine ls_icmp_eq_T 1237 f_278_796 rfl e ?_
  exact nx h2 I2
theorem lc_23 (hD : 200 ≤ d) (hn : nc ≤ 10000) (H : INV xl nc h) (hp : i + 6 ≤ xl.2) (hx : xl.2 ≤ 3072) (nx : ∀ h2, INV xl (nc + 1) h2 → lm_W d 278 1237 (LL i) [] h2 Q) : lm_W d 278 801 (LL i) [] h Q := by
  have hl := (INV_s H).1.1
  obtain ⟨_, s1, s2⟩ := H.1
  refine ls_aload_n f_278_801 rfl ?_
  refine lp_arg 1 f_278_802 f_278_803 f_278_804 f_278_805 f_278_806 rfl s1 s2 (by omega) hx ?_
  refine ls_invV f_278_807 q_278_110 [.int (xl.1 (i + 1))] [] rfl (Nat.le_of_ble_eq_true rfl) hl S_0 ow_121 ?_
  refine ls_callS (op_121 (by omega) hn H (xl.1 (i + 1))) hl (fun v h1 hl1 sc1 hyp => ?_)
  refine ls_retI hyp (fun r hyp => ?_)
  have s3 : lm_i h1 1000000 = xl.1 := by rw [sc1.1, s1]
  have s4 : lm_r h1 1000000 0 = some xl.2 := by rw [sc1.2, s2]
  refine ls_aload_n f_278_810 rfl ?_
  refine lp_arg 1 f_278_811 f_278_812 f_278_813 f_278_814 f_278_815 rfl s3 s4 (by omega) hx ?_
  refine ls_invV f_278_816 q_278_113 [.int (xl.1 (i + 1))] [.int r] rfl (Nat.le_of_ble_eq_true rfl) hl1 S_92 ow_235 ?_
  refine ls_callS hyp hl1 (fun v h2 hl2 sc2 hyp => ?_)
  refine ls_retI hyp (fun r2 hyp => ?_)
  obtain ⟨e, I2⟩ := hyp
  refine ls_icmp_eq_T 1237 f_278_819 rfl e ?_
  exact nx h2 I2
theorem lc_24 (hD : 200 ≤ d) (hn : nc ≤ 10000) (H : INV xl nc h) (hp : i + 6 ≤ xl.2) (hx : xl.2 ≤ 3072) (nx : ∀ h2, INV xl (nc + 1) h2 → lm_W d 278 1237 (LL i) [] h2 Q) : lm_W d 278 824 (LL i) [] h Q := by
  have hl := (INV_s H).1.1
  obtain ⟨_, s1, s2⟩ := H.1
  refine ls_aload_n f_278_824 rfl ?_
  refine lp_arg 1 f_278_825 f_278_826 f_278_827 f_278_828 f_278_829 rfl s1 s2 (by omega) hx ?_
  refine ls_invV f_278_830 q_278_114 [.int (xl.1 (i + 1))] [] rfl (Nat.le_of_ble_eq_true rfl) hl S_0 ow_122 ?_
  refine ls_callS (op_122 (by omega) hn H (xl.1 (i + 1))) hl (fun v h1 hl1 sc1 hyp => ?_)
  refine ls_retI hyp (fun r hyp => ?_)
  have s3 : lm_i h1 1000000 = xl.1 := by rw [sc1.1, s1]
  have s4 : lm_r h1 1000000 0 = some xl.2 := by rw [sc1.2, s2]
  refine ls_aload_n f_278_833 rfl ?_
  refine lp_arg 1 f_278_834 f_278_835 f_278_836 f_278_837 f_278_838 rfl s3 s4 (by omega) hx ?_
  refine ls_invV f_278_839 q_278_117 [.int (xl.1 (i + 1))] [.int r] rfl (Nat.le_of_ble_eq_true rfl) hl1 S_92 ow_236 ?_
  refine ls_callS hyp hl1 (fun v h2 hl2 sc2 hyp => ?_)
  refine ls_retI hyp (fun r2 hyp => ?_)
  obtain ⟨e, I2⟩ := hyp
  refine ls_icmp_eq_T 1237 f_278_842 rfl e ?_
  exact nx h2 I2
theorem lc_25 (hD : 200 ≤ d) (hn : nc ≤ 10000) (H : INV xl nc h) (hp : i + 6 ≤ xl.2) (hx : xl.2 ≤ 3072) (nx : ∀ h2, INV xl (nc + 1) h2 → lm_W d 278 1237 (LL i) [] h2 Q) : lm_W d 278 847 (LL i) [] h Q := by
  have hl := (INV_s H).1.1
  obtain ⟨_, s1, s2⟩ := H.1
  refine ls_aload_n f_278_847 rfl ?_
  refine lp_arg 1 f_278_848 f_278_849 f_278_850 f_278_851 f_278_852 rfl s1 s2 (by omega) hx ?_
  refine ls_invV f_278_853 q_278_118 [.int (xl.1 (i + 1))] [] rfl (Nat.le_of_ble_eq_true rfl) hl S_0 ow_123 ?_
  refine ls_callS (op_123 (by omega) hn H (xl.1 (i + 1))) hl (fun v h1 hl1 sc1 hyp => ?_)
  refine ls_retI hyp (fun r hyp => ?_)
  have s3 : lm_i h1 1000000 = xl.1 := by rw [sc1.1, s1]
  have s4 : lm_r h1 1000000 0 = some xl.2 := by rw [sc1.2, s2]
  refine ls_aload_n f_278_856 rfl ?_
  refine lp_arg 1 f_278_857 f_278_858 f_278_859 f_278_860 f_278_861 rfl s3 s4 (by omega) hx ?_
  refine ls_invV f_278_862 q_278_121 [.int (xl.1 (i + 1))] [.int r] rfl (Nat.le_of_ble_eq_true rfl) hl1 S_92 ow_238 ?_
  refine ls_callS hyp hl1 (fun v h2 hl2 sc2 hyp => ?_)
  refine ls_retI hyp (fun r2 hyp => ?_)
  obtain ⟨e, I2⟩ := hyp
  refine ls_icmp_eq_T 1237 f_278_865 rfl e ?_
  exact nx h2 I2
theorem lc_26 (hD : 200 ≤ d) (hn : nc ≤ 10000) (H : INV xl nc h) (hp : i + 6 ≤ xl.2) (hx : xl.2 ≤ 3072) (nx : ∀ h2, INV xl (nc + 1) h2 → lm_W d 278 1237 (LL i) [] h2 Q) : lm_W d 278 870 (LL i) [] h Q := by
  have hl := (INV_s H).1.1
  obtain ⟨_, s1, s2⟩ := H.1
  refine ls_aload_n f_278_870 rfl ?_
  refine ls_invV f_278_871 q_278_122 [] [] rfl (Nat.le_of_ble_eq_true rfl) hl S_0 ow_124 ?_
  refine ls_callS (op_124 (by omega) hn H) hl (fun v h1 hl1 sc1 hyp => ?_)
  refine ls_retI hyp (fun r hyp => ?_)
  have s3 : lm_i h1 1000000 = xl.1 := by rw [sc1.1, s1]
  have s4 : lm_r h1 1000000 0 = some xl.2 := by rw [sc1.2, s2]
  refine ls_aload_n f_278_874 rfl ?_
  refine ls_invV f_278_875 q_278_125 [] [.int r] rfl (Nat.le_of_ble_eq_true rfl) hl1 S_92 ow_239 ?_
  refine ls_callS hyp hl1 (fun v h2 hl2 sc2 hyp => ?_)
  refine ls_retI hyp (fun r2 hyp => ?_)
  obtain ⟨e, I2⟩ := hyp
  refine ls_icmp_eq_T 1237 f_278_878 rfl e ?_
  exact nx h2 I2
theorem lc_27 (hD : 200 ≤ d) (hn : nc ≤ 10000) (H : INV xl nc h) (hp : i + 6 ≤ xl.2) (hx : xl.2 ≤ 3072) (nx : ∀ h2, INV xl (nc + 1) h2 → lm_W d 278 1237 (LL i) [] h2 Q) : lm_W d 278 883 (LL i) [] h Q := by
  have hl := (INV_s H).1.1
  obtain ⟨_, s1, s2⟩ := H.1
  refine ls_aload_n f_278_883 rfl ?_
  refine lp_arg 1 f_278_884 f_278_885 f_278_886 f_278_887 f_278_888 rfl s1 s2 (by omega) hx ?_
  refine lp_arg 2 f_278_889 f_278_890 f_278_891 f_278_892 f_278_893 rfl s1 s2 (by omega) hx ?_
  refine lp_arg 3 f_278_894 f_278_895 f_278_896 f_278_897 f_278_898 rfl s1 s2 (by omega) hx ?_
  refine ls_invV f_278_899 q_278_126 [.int (xl.1 (i + 1)), .int (xl.1 (i + 2)), .int (xl.1 (i + 3))] [] rfl (Nat.le_of_ble_eq_true rfl) hl S_0 ow_125 ?_
  refine ls_callS (op_125 (by omega) hn H (xl.1 (i + 1)) (xl.1 (i + 2)) (xl.1 (i + 3))) hl (fun v h1 hl1 sc1 hyp => ?_)
  refine ls_retI hyp (fun r hyp => ?_)
  have s3 : lm_i h1 1000000 = xl.1 := by rw [sc1.1, s1]
  have s4 : lm_r h1 1000000 0 = some xl.2 := by rw [sc1.2, s2]
  refine ls_aload_n f_278_902 rfl ?_
  refine lp_arg 1 f_278_903 f_278_904 f_278_905 f_278_906 f_278_907 rfl s3 s4 (by omega) hx ?_
  refine lp_arg 2 f_278_908 f_278_909 f_278_910 f_278_911 f_278_912 rfl s3 s4 (by omega) hx ?_
  refine lp_arg 3 f_278_913 f_278_914 f_278_915 f_278_916 f_278_917 rfl s3 s4 (by omega) hx ?_
  refine ls_invV f_278_918 q_278_129 [.int (xl.1 (i + 1)), .int (xl.1 (i + 2)), .int (xl.1 (i + 3))] [.int r] rfl (Nat.le_of_ble_eq_true rfl) hl1 S_92 ow_170 ?_
  refine ls_callS hyp hl1 (fun v h2 hl2 sc2 hyp => ?_)
  refine ls_retI hyp (fun r2 hyp => ?_)
  obtain ⟨e, I2⟩ := hyp
  refine ls_icmp_eq_T 1237 f_278_921 rfl e ?_
  exact nx h2 I2
theorem lc_28 (hD : 200 ≤ d) (hn : nc ≤ 10000) (H : INV xl nc h) (hp : i + 6 ≤ xl.2) (hx : xl.2 ≤ 3072) (nx : ∀ h2, INV xl (nc + 1) h2 → lm_W d 278 1237 (LL i) [] h2 Q) : lm_W d 278 926 (LL i) [] h Q := by
  have hl := (INV_s H).1.1
  obtain ⟨_, s1, s2⟩ := H.1
  refine ls_aload_n f_278_926 rfl ?_
  refine lp_arg 1 f_278_927 f_278_928 f_278_929 f_278_930 f_278_931 rfl s1 s2 (by omega) hx ?_
  refine ls_invV f_278_932 q_278_130 [.int (xl.1 (i + 1))] [] rfl (Nat.le_of_ble_eq_true rfl) hl S_0 ow_126 ?_
  refine ls_callS (op_126 (by omega) hn H (xl.1 (i + 1))) hl (fun v h1 hl1 sc1 hyp => ?_)
  refine ls_retL hyp (fun r hyp => ?_)
  have s3 : lm_i h1 1000000 = xl.1 := by rw [sc1.1, s1]
  have s4 : lm_r h1 1000000 0 = some xl.2 := by rw [sc1.2, s2]
  refine ls_aload_n f_278_935 rfl ?_
  refine lp_arg 1 f_278_936 f_278_937 f_278_938 f_278_939 f_278_940 rfl s3 s4 (by omega) hx ?_
  refine ls_invV f_278_941 q_278_134 [.int (xl.1 (i + 1))] [.long r] rfl (Nat.le_of_ble_eq_true rfl) hl1 S_92 ow_245 ?_
  refine ls_callS hyp hl1 (fun v h2 hl2 sc2 hyp => ?_)
  refine ls_retL hyp (fun r2 hyp => ?_)
  obtain ⟨e, I2⟩ := hyp
  refine ls_lcmp f_278_944 ?_
  refine ls_if_eq_T 1237 f_278_945 rfl (by subst e; unfold lg_cmp; simp) ?_
  exact nx h2 I2
theorem lc_29 (hD : 200 ≤ d) (hn : nc ≤ 10000) (H : INV xl nc h) (hp : i + 6 ≤ xl.2) (hx : xl.2 ≤ 3072) (nx : ∀ h2, INV xl (nc + 1) h2 → lm_W d 278 1237 (LL i) [] h2 Q) : lm_W d 278 950 (LL i) [] h Q := by
  have hl := (INV_s H).1.1
  obtain ⟨_, s1, s2⟩ := H.1
  refine ls_aload_n f_278_950 rfl ?_
  refine ls_invV f_278_951 q_278_135 [] [] rfl (Nat.le_of_ble_eq_true rfl) hl S_0 ow_127 ?_
  refine ls_callS (op_127 (by omega) hn H) hl (fun v h1 hl1 sc1 hyp => ?_)
  refine ls_retI hyp (fun r hyp => ?_)
  have s3 : lm_i h1 1000000 = xl.1 := by rw [sc1.1, s1]
  have s4 : lm_r h1 1000000 0 = some xl.2 := by rw [sc1.2, s2]
  refine ls_aload_n f_278_954 rfl ?_
  refine ls_invV f_278_955 q_278_138 [] [.int r] rfl (Nat.le_of_ble_eq_true rfl) hl1 S_92 ow_246 ?_
  refine ls_callS hyp hl1 (fun v h2 hl2 sc2 hyp => ?_)
  refine ls_retI hyp (fun r2 hyp => ?_)
  obtain ⟨e, I2⟩ := hyp
  refine ls_icmp_eq_T 1237 f_278_958 rfl e ?_
  exact nx h2 I2
theorem lc_30 (hD : 200 ≤ d) (hn : nc ≤ 10000) (H : INV xl nc h) (hp : i + 6 ≤ xl.2) (hx : xl.2 ≤ 3072) (nx : ∀ h2, INV xl (nc + 1) h2 → lm_W d 278 1237 (LL i) [] h2 Q) : lm_W d 278 963 (LL i) [] h Q := by
  have hl := (INV_s H).1.1
  obtain ⟨_, s1, s2⟩ := H.1
  refine ls_aload_n f_278_963 rfl ?_
  refine lp_arg 1 f_278_964 f_278_965 f_278_966 f_278_967 f_278_968 rfl s1 s2 (by omega) hx ?_
  refine ls_invV f_278_969 q_278_139 [.int (xl.1 (i + 1))] [] rfl (Nat.le_of_ble_eq_true rfl) hl S_0 ow_128 ?_
  refine ls_callS (op_128 (by omega) hn H (xl.1 (i + 1))) hl (fun v h1 hl1 sc1 hyp => ?_)
  refine ls_retL hyp (fun r hyp => ?_)
  have s3 : lm_i h1 1000000 = xl.1 := by rw [sc1.1, s1]
  have s4 : lm_r h1 1000000 0 = some xl.2 := by rw [sc1.2, s2]
  refine ls_aload_n f_278_972 rfl ?_
  refine lp_arg 1 f_278_973 f_278_974 f_278_975 f_278_976 f_278_977 rfl s3 s4 (by omega) hx ?_
  refine ls_invV f_278_978 q_278_142 [.int (xl.1 (i + 1))] [.long r] rfl (Nat.le_of_ble_eq_true rfl) hl1 S_92 ow_250 ?_
  refine ls_callS hyp hl1 (fun v h2 hl2 sc2 hyp => ?_)
  refine ls_retL hyp (fun r2 hyp => ?_)
  obtain ⟨e, I2⟩ := hyp
  refine ls_lcmp f_278_981 ?_
  refine ls_if_eq_T 1237 f_278_982 rfl (by subst e; unfold lg_cmp; simp) ?_
  exact nx h2 I2
theorem lc_31 (hD : 200 ≤ d) (hn : nc ≤ 10000) (H : INV xl nc h) (hp : i + 6 ≤ xl.2) (hx : xl.2 ≤ 3072) (nx : ∀ h2, INV xl (nc + 1) h2 → lm_W d 278 1237 (LL i) [] h2 Q) : lm_W d 278 987 (LL i) [] h Q := by
  have hl := (INV_s H).1.1
  obtain ⟨_, s1, s2⟩ := H.1
  refine ls_aload_n f_278_987 rfl ?_
  refine lp_arg 1 f_278_988 f_278_989 f_278_990 f_278_991 f_278_992 rfl s1 s2 (by omega) hx ?_
  refine ls_invV f_278_993 q_278_143 [.int (xl.1 (i + 1))] [] rfl (Nat.le_of_ble_eq_true rfl) hl S_0 ow_129 ?_
  refine ls_callS (op_129 (by omega) hn H (xl.1 (i + 1))) hl (fun v h1 hl1 sc1 hyp => ?_)
  refine ls_retI hyp (fun r hyp => ?_)
  have s3 : lm_i h1 1000000 = xl.1 := by rw [sc1.1, s1]
  have s4 : lm_r h1 1000000 0 = some xl.2 := by rw [sc1.2, s2]
  refine ls_aload_n f_278_996 rfl ?_
  refine lp_arg 1 f_278_997 f_278_998 f_278_999 f_278_1000 f_278_1001 rfl s3 s4 (by omega) hx ?_
  refine ls_invV f_278_1002 q_278_146 [.int (xl.1 (i + 1))] [.int r] rfl (Nat.le_of_ble_eq_true rfl) hl1 S_92 ow_251 ?_
  refine ls_callS hyp hl1 (fun v h2 hl2 sc2 hyp => ?_)
  refine ls_retI hyp (fun r2 hyp => ?_)
  obtain ⟨e, I2⟩ := hyp
  refine ls_icmp_eq_T 1237 f_278_1005 rfl e ?_
  exact nx h2 I2
theorem lc_32 (hD : 200 ≤ d) (hn : nc ≤ 10000) (H : INV xl nc h) (hp : i + 6 ≤ xl.2) (hx : xl.2 ≤ 3072) (nx : ∀ h2, INV xl (nc + 1) h2 → lm_W d 278 1237 (LL i) [] h2 Q) : lm_W d 278 1010 (LL i) [] h Q := by
  have hl := (INV_s H).1.1
  obtain ⟨_, s1, s2⟩ := H.1
  refine ls_aload_n f_278_1010 rfl ?_
  refine lp_arg 1 f_278_1011 f_278_1012 f_278_1013 f_278_1014 f_278_1015 rfl s1 s2 (by omega) hx ?_
  refine lp_arg 2 f_278_1016 f_278_1017 f_278_1018 f_278_1019 f_278_1020 rfl s1 s2 (by omega) hx ?_
  refine ls_invV f_278_1021 q_278_147 [.int (xl.1 (i + 1)), .int (xl.1 (i + 2))] [] rfl (Nat.le_of_ble_eq_true rfl) hl S_0 ow_130 ?_
  refine ls_callS (op_130 (by omega) hn H (xl.1 (i + 1)) (xl.1 (i + 2))) hl (fun v h1 hl1 sc1 hyp => ?_)
  refine ls_retI hyp (fun r hyp => ?_)
  have s3 : lm_i h1 1000000 = xl.1 := by rw [sc1.1, s1]
  have s4 : lm_r h1 1000000 0 = some xl.2 := by rw [sc1.2, s2]
  refine ls_aload_n f_278_1024 rfl ?_
  refine lp_arg 1 f_278_1025 f_278_1026 f_278_1027 f_278_1028 f_278_1029 rfl s3 s4 (by omega) hx ?_
  refine lp_arg 2 f_278_1030 f_278_1031 f_278_1032 f_278_1033 f_278_1034 rfl s3 s4 (by omega) hx ?_
  refine ls_invV f_278_1035 q_278_150 [.int (xl.1 (i + 1)), .int (xl.1 (i + 2))] [.int r] rfl (Nat.le_of_ble_eq_true rfl) hl1 S_92 ow_169 ?_
  refine ls_callS hyp hl1 (fun v h2 hl2 sc2 hyp => ?_)
  refine ls_retI hyp (fun r2 hyp => ?_)
  obtain ⟨e, I2⟩ := hyp
  refine ls_icmp_eq_T 1237 f_278_1038 rfl e ?_
  exact nx h2 I2
theorem lc_33 (hD : 200 ≤ d) (hn : nc ≤ 10000) (H : INV xl nc h) (hp : i + 6 ≤ xl.2) (hx : xl.2 ≤ 3072) (nx : ∀ h2, INV xl (nc + 1) h2 → lm_W d 278 1237 (LL i) [] h2 Q) : lm_W d 278 1043 (LL i) [] h Q := by
  have hl := (INV_s H).1.1
  obtain ⟨_, s1, s2⟩ := H.1
  refine ls_aload_n f_278_1043 rfl ?_
  refine lp_arg 1 f_278_1044 f_278_1045 f_278_1046 f_278_1047 f_278_1048 rfl s1 s2 (by omega) hx ?_
  refine lp_arg 2 f_278_1049 f_278_1050 f_278_1051 f_278_1052 f_278_1053 rfl s1 s2 (by omega) hx ?_
  refine ls_invV f_278_1054 q_278_151 [.int (xl.1 (i + 1)), .int (xl.1 (i + 2))] [] rfl (Nat.le_of_ble_eq_true rfl) hl S_0 ow_131 ?_
  refine ls_callS (op_131 (by omega) hn H (xl.1 (i + 1)) (xl.1 (i + 2))) hl (fun v h1 hl1 sc1 hyp => ?_)
  refine ls_retI hyp (fun r hyp => ?_)
  have s3 : lm_i h1 1000000 = xl.1 := by rw [sc1.1, s1]
  have s4 : lm_r h1 1000000 0 = some xl.2 := by rw [sc1.2, s2]
  refine ls_aload_n f_278_1057 rfl ?_
  refine lp_arg 1 f_278_1058 f_278_1059 f_278_1060 f_278_1061 f_278_1062 rfl s3 s4 (by omega) hx ?_
  refine lp_arg 2 f_278_1063 f_278_1064 f_278_1065 f_278_1066 f_278_1067 rfl s3 s4 (by omega) hx ?_
  refine ls_invV f_278_1068 q_278_154 [.int (xl.1 (i + 1)), .int (xl.1 (i + 2))] [.int r] rfl (Nat.le_of_ble_eq_true rfl) hl1 S_92 ow_256 ?_
  refine ls_callS hyp hl1 (fun v h2 hl2 sc2 hyp => ?_)
  refine ls_retI hyp (fun r2 hyp => ?_)
  obtain ⟨e, I2⟩ := hyp
  refine ls_icmp_eq_T 1237 f_278_1071 rfl e ?_
  exact nx h2 I2
theorem lc_34 (hD : 200 ≤ d) (hn : nc ≤ 10000) (H : INV xl nc h) (hp : i + 6 ≤ xl.2) (hx : xl.2 ≤ 3072) (nx : ∀ h2, INV xl (nc + 1) h2 → lm_W d 278 1237 (LL i) [] h2 Q) : lm_W d 278 1076 (LL i) [] h Q := by
  have hl := (INV_s H).1.1
  obtain ⟨_, s1, s2⟩ := H.1
  refine ls_aload_n f_278_1076 rfl ?_
  refine lp_arg 1 f_278_1077 f_278_1078 f_278_1079 f_278_1080 f_278_1081 rfl s1 s2 (by omega) hx ?_
  refine lp_arg 2 f_278_1082 f_278_1083 f_278_1084 f_278_1085 f_278_1086 rfl s1 s2 (by omega) hx ?_
  refine lp_arg 3 f_278_1087 f_278_1088 f_278_1089 f_278_1090 f_278_1091 rfl s1 s2 (by omega) hx ?_
  refine ls_invV f_278_1092 q_278_155 [.int (xl.1 (i + 1)), .int (xl.1 (i + 2)), .int (xl.1 (i + 3))] [] rfl (Nat.le_of_ble_eq_true rfl) hl S_0 ow_132 ?_
  refine ls_callS (op_132 (by omega) hn H (xl.1 (i + 1)) (xl.1 (i + 2)) (xl.1 (i + 3))) hl (fun v h1 hl1 sc1 hyp => ?_)
  refine ls_retI hyp (fun r hyp => ?_)
  have s3 : lm_i h1 1000000 = xl.1 := by rw [sc1.1, s1]
  have s4 : lm_r h1 1000000 0 = some xl.2 := by rw [sc1.2, s2]
  refine ls_aload_n f_278_1095 rfl ?_
  refine lp_arg 1 f_278_1096 f_278_1097 f_278_1098 f_278_1099 f_278_1100 rfl s3 s4 (by omega) hx ?_
  refine lp_arg 2 f_278_1101 f_278_1102 f_278_1103 f_278_1104 f_278_1105 rfl s3 s4 (by omega) hx ?_
  refine lp_arg 3 f_278_1106 f_278_1107 f_278_1108 f_278_1109 f_278_1110 rfl s3 s4 (by omega) hx ?_
  refine ls_invV f_278_1111 q_278_158 [.int (xl.1 (i + 1)), .int (xl.1 (i + 2)), .int (xl.1 (i + 3))] [.int r] rfl (Nat.le_of_ble_eq_true rfl) hl1 S_92 ow_257 ?_
  refine ls_callS hyp hl1 (fun v h2 hl2 sc2 hyp => ?_)
  refine ls_retI hyp (fun r2 hyp => ?_)
  obtain ⟨e, I2⟩ := hyp
  refine ls_icmp_eq_T 1237 f_278_1114 rfl e ?_
  exact nx h2 I2
theorem lc_35 (hD : 200 ≤ d) (hn : nc ≤ 10000) (H : INV xl nc h) (hp : i + 6 ≤ xl.2) (hx : xl.2 ≤ 3072) (nx : ∀ h2, INV xl (nc + 1) h2 → lm_W d 278 1237 (LL i) [] h2 Q) : lm_W d 278 1119 (LL i) [] h Q := by
  have hl := (INV_s H).1.1
  obtain ⟨_, s1, s2⟩ := H.1
  refine ls_aload_n f_278_1119 rfl ?_
  refine lp_arg 1 f_278_1120 f_278_1121 f_278_1122 f_278_1123 f_278_1124 rfl s1 s2 (by omega) hx ?_
  refine ls_invV f_278_1125 q_278_159 [.int (xl.1 (i + 1))] [] rfl (Nat.le_of_ble_eq_true rfl) hl S_0 ow_133 ?_
  refine ls_callS (op_133 (by omega) hn H (xl.1 (i + 1))) hl (fun v h1 hl1 sc1 hyp => ?_)
  refine ls_retI hyp (fun r hyp => ?_)
  have s3 : lm_i h1 1000000 = xl.1 := by rw [sc1.1, s1]
  have s4 : lm_r h1 1000000 0 = some xl.2 := by rw [sc1.2, s2]
  refine ls_aload_n f_278_1128 rfl ?_
  refine lp_arg 1 f_278_1129 f_278_1130 f_278_1131 f_278_1132 f_278_1133 rfl s3 s4 (by omega) hx ?_
  refine ls_invV f_278_1134 q_278_162 [.int (xl.1 (i + 1))] [.int r] rfl (Nat.le_of_ble_eq_true rfl) hl1 S_92 ow_258 ?_
  refine ls_callS hyp hl1 (fun v h2 hl2 sc2 hyp => ?_)
  refine ls_retI hyp (fun r2 hyp => ?_)
  obtain ⟨e, I2⟩ := hyp
  refine ls_icmp_eq_T 1237 f_278_1137 rfl e ?_
  exact nx h2 I2
theorem lc_36 (hD : 200 ≤ d) (hn : nc ≤ 10000) (H : INV xl nc h) (hp : i + 6 ≤ xl.2) (hx : xl.2 ≤ 3072) (nx : ∀ h2, INV xl (nc + 1) h2 → lm_W d 278 1237 (LL i) [] h2 Q) : lm_W d 278 1142 (LL i) [] h Q := by
  have hl := (INV_s H).1.1
  obtain ⟨_, s1, s2⟩ := H.1
  refine ls_aload_n f_278_1142 rfl ?_
  refine ls_invV f_278_1143 q_278_163 [] [] rfl (Nat.le_of_ble_eq_true rfl) hl S_0 ow_134 ?_
  refine ls_callS (op_134 (by omega) hn H) hl (fun v h1 hl1 sc1 hyp => ?_)
  refine ls_retI hyp (fun r hyp => ?_)
  have s3 : lm_i h1 1000000 = xl.1 := by rw [sc1.1, s1]
  have s4 : lm_r h1 1000000 0 = some xl.2 := by rw [sc1.2, s2]
  refine ls_aload_n f_278_1146 rfl ?_
  refine ls_invV f_278_1147 q_278_166 [] [.int r] rfl (Nat.le_of_ble_eq_true rfl) hl1 S_92 ow_259 ?_
  refine ls_callS hyp hl1 (fun v h2 hl2 sc2 hyp => ?_)
  refine ls_retI hyp (fun r2 hyp => ?_)
  obtain ⟨e, I2⟩ := hyp
  refine ls_icmp_eq_T 1237 f_278_1150 rfl e ?_
  exact nx h2 I2
theorem lc_37 (hD : 200 ≤ d) (hn : nc ≤ 10000) (H : INV xl nc h) (hp : i + 6 ≤ xl.2) (hx : xl.2 ≤ 3072) (nx : ∀ h2, INV xl (nc + 1) h2 → lm_W d 278 1237 (LL i) [] h2 Q) : lm_W d 278 1155 (LL i) [] h Q := by
  have hl := (INV_s H).1.1
  obtain ⟨_, s1, s2⟩ := H.1
  refine ls_aload_n f_278_1155 rfl ?_
  refine lp_arg 1 f_278_1156 f_278_1157 f_278_1158 f_278_1159 f_278_1160 rfl s1 s2 (by omega) hx ?_
  refine ls_invV f_278_1161 q_278_167 [.int (xl.1 (i + 1))] [] rfl (Nat.le_of_ble_eq_true rfl) hl S_0 ow_135 ?_
  refine ls_callS (op_135 (by omega) hn H (xl.1 (i + 1))) hl (fun v h1 hl1 sc1 hyp => ?_)
  refine ls_retI hyp (fun r hyp => ?_)
  have s3 : lm_i h1 1000000 = xl.1 := by rw [sc1.1, s1]
  have s4 : lm_r h1 1000000 0 = some xl.2 := by rw [sc1.2, s2]
  refine ls_aload_n f_278_1164 rfl ?_
  refine lp_arg 1 f_278_1165 f_278_1166 f_278_1167 f_278_1168 f_278_1169 rfl s3 s4 (by omega) hx ?_
  refine ls_invV f_278_1170 q_278_170 [.int (xl.1 (i + 1))] [.int r] rfl (Nat.le_of_ble_eq_true rfl) hl1 S_92 ow_158 ?_
  refine ls_callS hyp hl1 (fun v h2 hl2 sc2 hyp => ?_)
  refine ls_retI hyp (fun r2 hyp => ?_)
  obtain ⟨e, I2⟩ := hyp
  refine ls_icmp_eq_T 1237 f_278_1173 rfl e ?_
  exact nx h2 I2
theorem lc_38 (hD : 200 ≤ d) (hn : nc ≤ 10000) (H : INV xl nc h) (hp : i + 6 ≤ xl.2) (hx : xl.2 ≤ 3072) (nx : ∀ h2, INV xl (nc + 1) h2 → lm_W d 278 1237 (LL i) [] h2 Q) : lm_W d 278 1178 (LL i) [] h Q := by
  have hl := (INV_s H).1.1
  obtain ⟨_, s1, s2⟩ := H.1
  refine ls_aload_n f_278_1178 rfl ?_
  refine lp_arg 1 f_278_1179 f_278_1180 f_278_1181 f_278_1182 f_278_1183 rfl s1 s2 (by omega) hx ?_
  refine ls_invV f_278_1184 q_278_171 [.int (xl.1 (i + 1))] [] rfl (Nat.le_of_ble_eq_true rfl) hl S_0 ow_136 ?_
  refine ls_callS (op_136 (by omega) hn H (xl.1 (i + 1))) hl (fun v h1 hl1 sc1 hyp => ?_)
  refine ls_retI hyp (fun r hyp => ?_)
  have s3 : lm_i h1 1000000 = xl.1 := by rw [sc1.1, s1]
  have s4 : lm_r h1 1000000 0 = some xl.2 := by rw [sc1.2, s2]
  refine ls_aload_n f_278_1187 rfl ?_
  refine lp_arg 1 f_278_1188 f_278_1189 f_278_1190 f_278_1191 f_278_1192 rfl s3 s4 (by omega) hx ?_
  refine ls_invV f_278_1193 q_278_174 [.int (xl.1 (i + 1))] [.int r] rfl (Nat.le_of_ble_eq_true rfl) hl1 S_92 ow_159 ?_
  refine ls_callS hyp hl1 (fun v h2 hl2 sc2 hyp => ?_)
  refine ls_retI hyp (fun r2 hyp => ?_)
  obtain ⟨e, I2⟩ := hyp
  refine ls_icmp_eq_T 1237 f_278_1196 rfl e ?_
  exact nx h2 I2
theorem lc_39 (hD : 200 ≤ d) (hn : nc ≤ 10000) (H : INV xl nc h) (hp : i + 6 ≤ xl.2) (hx : xl.2 ≤ 3072) (nx : ∀ h2, INV xl (nc + 1) h2 → lm_W d 278 1237 (LL i) [] h2 Q) : lm_W d 278 1201 (LL i) [] h Q := by
  have hl := (INV_s H).1.1
  obtain ⟨_, s1, s2⟩ := H.1
  refine ls_aload_n f_278_1201 rfl ?_
  refine lp_arg 1 f_278_1202 f_278_1203 f_278_1204 f_278_1205 f_278_1206 rfl s1 s2 (by omega) hx ?_
  refine ls_invV f_278_1207 q_278_175 [.int (xl.1 (i + 1))] [] rfl (Nat.le_of_ble_eq_true rfl) hl S_0 ow_137 ?_
  refine ls_callS (op_137 (by omega) hn H (xl.1 (i + 1))) hl (fun v h1 hl1 sc1 hyp => ?_)
  refine ls_retI hyp (fun r hyp => ?_)
  have s3 : lm_i h1 1000000 = xl.1 := by rw [sc1.1, s1]
  have s4 : lm_r h1 1000000 0 = some xl.2 := by rw [sc1.2, s2]
  refine ls_aload_n f_278_1210 rfl ?_
  refine lp_arg 1 f_278_1211 f_278_1212 f_278_1213 f_278_1214 f_278_1215 rfl s3 s4 (by omega) hx ?_
  refine ls_invV f_278_1216 q_278_178 [.int (xl.1 (i + 1))] [.int r] rfl (Nat.le_of_ble_eq_true rfl) hl1 S_92 ow_260 ?_
  refine ls_callS hyp hl1 (fun v h2 hl2 sc2 hyp => ?_)
  refine ls_retI hyp (fun r2 hyp => ?_)
  obtain ⟨e, I2⟩ := hyp
  refine ls_icmp_eq_T 1237 f_278_1219 rfl e ?_
  exact nx h2 I2
theorem lc_40 (hD : 200 ≤ d) (hn : nc ≤ 10000) (H : INV xl nc h) (hp : i + 6 ≤ xl.2) (hx : xl.2 ≤ 3072) (nx : ∀ h2, INV xl (nc + 1) h2 → lm_W d 278 1237 (LL i) [] h2 Q) : lm_W d 278 1224 (LL i) [] h Q := by
  have hl := (INV_s H).1.1
  obtain ⟨_, s1, s2⟩ := H.1
  refine ls_aload_n f_278_1224 rfl ?_
  refine ls_invV f_278_1225 q_278_179 [] [] rfl (Nat.le_of_ble_eq_true rfl) hl S_0 ow_138 ?_
  refine ls_callS (op_138 (by omega) hn H) hl (fun v h1 hl1 sc1 hyp => ?_)
  refine ls_retI hyp (fun r hyp => ?_)
  have s3 : lm_i h1 1000000 = xl.1 := by rw [sc1.1, s1]
  have s4 : lm_r h1 1000000 0 = some xl.2 := by rw [sc1.2, s2]
  refine ls_aload_n f_278_1228 rfl ?_
  refine ls_invV f_278_1229 q_278_182 [] [.int r] rfl (Nat.le_of_ble_eq_true rfl) hl1 S_92 ow_261 ?_
  refine ls_callS hyp hl1 (fun v h2 hl2 sc2 hyp => ?_)
  refine ls_retI hyp (fun r2 hyp => ?_)
  obtain ⟨e, I2⟩ := hyp
  refine ls_icmp_eq_T 1237 f_278_1232 rfl e ?_
  exact nx h2 I2
end LoopC
section LoopR
theorem ls_alen7 {d M pc n a : Nat} {L : lm_L} {st : List Value} {h : lm_H} {Q : Option Value → lm_H → Prop} (hf : lm_at M pc .arraylength 1) (hs : lm_sh h a = some (7, n)) (k : lm_W d M (pc + 1) L (.int (Int32.ofNat n) :: st) h Q) : lm_W d M pc L (.ref a :: st) h Q := ls_of hf (by
  show lm_o (lm_sh h a) _ _
  rw [hs]
  exact k)
theorem lp_278 {d : Nat} {Q : Option Value → lm_H → Prop} {xl : (Nat → Int32) × Nat} (hD : 200 ≤ d) (hx : xl.2 ≤ 3072) (hQ : ∀ m h', m ≤ 4000 → INV xl m h' → Q (some (.int 1)) h') : ∀ r i nc h, xl.2 + 6 ≤ r + i → i ≤ xl.2 + 6 → nc ≤ i → INV xl nc h → lm_W d 278 18 (LL i) [] h Q := by
  intro r
  induction r with
  | zero =>
    intro i nc h hr hi hn H
    have hl := (INV_s H).1.1
    obtain ⟨_, s1, s2⟩ := H.1
    refine ls_iload_n f_278_18 rfl ?_
    refine ls_aload_n f_278_19 rfl ?_
    refine ls_alen7 f_278_20 (sh7 s2) ?_
    refine ls_bipush 6 f_278_21 rfl ?_
    refine ls_isub _ f_278_23 rfl ?_
    refine ls_icmp_gt_T 1243 f_278_24 rfl (by
      rw [p_lt, p_tI_sub (by rw [p_onI (by omega)]; simp only [Int32.reduceToInt]; omega) (by rw [p_onI (by omega)]; simp only [Int32.reduceToInt]; omega), p_onI (by omega), p_onI (by omega)]
      simp only [Int32.reduceToInt]
      omega) ?_
    refine ls_iconst 1 f_278_1243 rfl ?_
    exact ls_zreturn f_278_1244 rZ_278 nar1 (hQ nc h (by omega) H)
  | succ r ih =>
    intro i nc h hr hi hn H
    have hl := (INV_s H).1.1
    obtain ⟨_, s1, s2⟩ := H.1
    refine ls_iload_n f_278_18 rfl ?_
    refine ls_aload_n f_278_19 rfl ?_
    refine ls_alen7 f_278_20 (sh7 s2) ?_
    refine ls_bipush 6 f_278_21 rfl ?_
    refine ls_isub _ f_278_23 rfl ?_
    have cmp : (Int32.ofNat xl.2 - 6 < Int32.ofNat i) = (xl.2 < i + 6) := by
      rw [p_lt, p_tI_sub (by rw [p_onI (by omega)]; simp only [Int32.reduceToInt]; omega) (by rw [p_onI (by omega)]; simp only [Int32.reduceToInt]; omega), p_onI (by omega), p_onI (by omega)]
      simp only [Int32.reduceToInt]
      exact propext ⟨fun q => by omega, fun q => by omega⟩
    by_cases c : xl.2 < i + 6
    · refine ls_icmp_gt_T 1243 f_278_24 rfl (by rw [cmp]; exact c) ?_
      refine ls_iconst 1 f_278_1243 rfl ?_
      exact ls_zreturn f_278_1244 rZ_278 nar1 (hQ nc h (by omega) H)
    refine ls_icmp_gt_F 1243 f_278_24 rfl (by rw [cmp]; exact c) ?_
    have nx : ∀ h2, INV xl (nc + 1) h2 → lm_W d 278 1237 (LL i) [] h2 Q := by
      intro h2 I2
      refine ls_iinc (Int32.ofNat (i + 6)) (LL (i + 6)) f_278_1237 rfl (by show 3 < 4; omega) (q_add i 6) rfl ?_
      refine ls_goto 18 f_278_1240 rfl ?_
      exact ih (i + 6) (nc + 1) h2 (by omega) (by omega) (by omega) I2
    refine ls_aload_n f_278_27 rfl ?_
    refine ls_iload_n f_278_28 rfl ?_
    refine ls_iald7 f_278_29 (sh7 s2) (by omega) (by omega) ?_
    refine ls_bipush 63 f_278_30 rfl ?_
    refine ls_iand _ f_278_32 rfl ?_
    generalize lm_i h 1000000 i &&& 63 = y
    refine ls_table f_278_33 (by decide) ?_
    by_cases e0 : y = 0
    · refine ls_swT (by rw [e0]; rfl) ?_
      refine lm_tg_of (t := 212) rfl ?_
      exact lc_0 hD (by omega) H (by omega) hx nx
    refine ls_swF (by intro q; exact e0 (by rw [q]; rfl)) ?_
    by_cases e1 : y = 1
    · refine ls_swT (by rw [e1]; rfl) ?_
      refine lm_tg_of (t := 235) rfl ?_
      exact lc_1 hD (by omega) H (by omega) hx nx
    refine ls_swF (by intro q; exact e1 (by rw [q]; rfl)) ?_
    by_cases e2 : y = 2
    · refine ls_swT (by rw [e2]; rfl) ?_
      refine lm_tg_of (t := 258) rfl ?_
      exact lc_2 hD (by omega) H (by omega) hx nx
    refine ls_swF (by intro q; exact e2 (by rw [q]; rfl)) ?_
    by_cases e3 : y = 3
    · refine ls_swT (by rw [e3]; rfl) ?_
      refine lm_tg_of (t := 301) rfl ?_
      exact lc_3 hD (by omega) H (by omega) hx nx
    refine ls_swF (by intro q; exact e3 (by rw [q]; rfl)) ?_
    by_cases e4 : y = 4
    · refine ls_swT (by rw [e4]; rfl) ?_
      refine lm_tg_of (t := 344) rfl ?_
      exact lc_4 hD (by omega) H (by omega) hx nx
    refine ls_swF (by intro q; exact e4 (by rw [q]; rfl)) ?_
    by_cases e5 : y = 5
    · refine ls_swT (by rw [e5]; rfl) ?_
      refine lm_tg_of (t := 377) rfl ?_
      exact lc_5 hD (by omega) H (by omega) hx nx
    refine ls_swF (by intro q; exact e5 (by rw [q]; rfl)) ?_
    by_cases e6 : y = 6
    · refine ls_swT (by rw [e6]; rfl) ?_
      refine lm_tg_of (t := 440) rfl ?_
      exact lc_6 hD (by omega) H (by omega) hx nx
    refine ls_swF (by intro q; exact e6 (by rw [q]; rfl)) ?_
    by_cases e7 : y = 7
    · refine ls_swT (by rw [e7]; rfl) ?_
      refine lm_tg_of (t := 463) rfl ?_
      exact lc_7 hD (by omega) H (by omega) hx nx
    refine ls_swF (by intro q; exact e7 (by rw [q]; rfl)) ?_
    by_cases e8 : y = 8
    · refine ls_swT (by rw [e8]; rfl) ?_
      refine lm_tg_of (t := 476) rfl ?_
      exact lc_8 hD (by omega) H (by omega) hx nx
    refine ls_swF (by intro q; exact e8 (by rw [q]; rfl)) ?_
    by_cases e9 : y = 9
    · refine ls_swT (by rw [e9]; rfl) ?_
      refine lm_tg_of (t := 489) rfl ?_
      exact lc_9 hD (by omega) H (by omega) hx nx
    refine ls_swF (by intro q; exact e9 (by rw [q]; rfl)) ?_
    by_cases e10 : y = 10
    · refine ls_swT (by rw [e10]; rfl) ?_
      refine lm_tg_of (t := 502) rfl ?_
      exact lc_10 hD (by omega) H (by omega) hx nx
    refine ls_swF (by intro q; exact e10 (by rw [q]; rfl)) ?_
    by_cases e11 : y = 11
    · refine ls_swT (by rw [e11]; rfl) ?_
      refine lm_tg_of (t := 515) rfl ?_
      exact lc_11 hD (by omega) H (by omega) hx nx
    refine ls_swF (by intro q; exact e11 (by rw [q]; rfl)) ?_
    by_cases e12 : y = 12
    · refine ls_swT (by rw [e12]; rfl) ?_
      refine lm_tg_of (t := 538) rfl ?_
      exact lc_12 hD (by omega) H (by omega) hx nx
    refine ls_swF (by intro q; exact e12 (by rw [q]; rfl)) ?_
    by_cases e13 : y = 13
    · refine ls_swT (by rw [e13]; rfl) ?_
      refine lm_tg_of (t := 571) rfl ?_
      exact lc_13 hD (by omega) H (by omega) hx nx
    refine ls_swF (by intro q; exact e13 (by rw [q]; rfl)) ?_
    by_cases e14 : y = 14
    · refine ls_swT (by rw [e14]; rfl) ?_
      refine lm_tg_of (t := 594) rfl ?_
      exact lc_14 hD (by omega) H (by omega) hx nx
    refine ls_swF (by intro q; exact e14 (by rw [q]; rfl)) ?_
    by_cases e15 : y = 15
    · refine ls_swT (by rw [e15]; rfl) ?_
      refine lm_tg_of (t := 617) rfl ?_
      exact lc_15 hD (by omega) H (by omega) hx nx
    refine ls_swF (by intro q; exact e15 (by rw [q]; rfl)) ?_
    by_cases e16 : y = 16
    · refine ls_swT (by rw [e16]; rfl) ?_
      refine lm_tg_of (t := 640) rfl ?_
      exact lc_16 hD (by omega) H (by omega) hx nx
    refine ls_swF (by intro q; exact e16 (by rw [q]; rfl)) ?_
    by_cases e17 : y = 17
    · refine ls_swT (by rw [e17]; rfl) ?_
      refine lm_tg_of (t := 663) rfl ?_
      exact lc_17 hD (by omega) H (by omega) hx nx
    refine ls_swF (by intro q; exact e17 (by rw [q]; rfl)) ?_
    by_cases e18 : y = 18
    · refine ls_swT (by rw [e18]; rfl) ?_
      refine lm_tg_of (t := 686) rfl ?_
      exact lc_18 hD (by omega) H (by omega) hx nx
    refine ls_swF (by intro q; exact e18 (by rw [q]; rfl)) ?_
    by_cases e19 : y = 19
    · refine ls_swT (by rw [e19]; rfl) ?_
      refine lm_tg_of (t := 709) rfl ?_
      exact lc_19 hD (by omega) H (by omega) hx nx
    refine ls_swF (by intro q; exact e19 (by rw [q]; rfl)) ?_
    by_cases e20 : y = 20
    · refine ls_swT (by rw [e20]; rfl) ?_
      refine lm_tg_of (t := 722) rfl ?_
      exact lc_20 hD (by omega) H (by omega) hx nx
    refine ls_swF (by intro q; exact e20 (by rw [q]; rfl)) ?_
    by_cases e21 : y = 21
    · refine ls_swT (by rw [e21]; rfl) ?_
      refine lm_tg_of (t := 755) rfl ?_
      exact lc_21 hD (by omega) H (by omega) hx nx
    refine ls_swF (by intro q; exact e21 (by rw [q]; rfl)) ?_
    by_cases e22 : y = 22
    · refine ls_swT (by rw [e22]; rfl) ?_
      refine lm_tg_of (t := 778) rfl ?_
      exact lc_22 hD (by omega) H (by omega) hx nx
    refine ls_swF (by intro q; exact e22 (by rw [q]; rfl)) ?_
    by_cases e23 : y = 23
    · refine ls_swT (by rw [e23]; rfl) ?_
      refine lm_tg_of (t := 801) rfl ?_
      exact lc_23 hD (by omega) H (by omega) hx nx
    refine ls_swF (by intro q; exact e23 (by rw [q]; rfl)) ?_
    by_cases e24 : y = 24
    · refine ls_swT (by rw [e24]; rfl) ?_
      refine lm_tg_of (t := 824) rfl ?_
      exact lc_24 hD (by omega) H (by omega) hx nx
    refine ls_swF (by intro q; exact e24 (by rw [q]; rfl)) ?_
    by_cases e25 : y = 25
    · refine ls_swT (by rw [e25]; rfl) ?_
      refine lm_tg_of (t := 847) rfl ?_
      exact lc_25 hD (by omega) H (by omega) hx nx
    refine ls_swF (by intro q; exact e25 (by rw [q]; rfl)) ?_
    by_cases e26 : y = 26
    · refine ls_swT (by rw [e26]; rfl) ?_
      refine lm_tg_of (t := 870) rfl ?_
      exact lc_26 hD (by omega) H (by omega) hx nx
    refine ls_swF (by intro q; exact e26 (by rw [q]; rfl)) ?_
    by_cases e27 : y = 27
    · refine ls_swT (by rw [e27]; rfl) ?_
      refine lm_tg_of (t := 883) rfl ?_
      exact lc_27 hD (by omega) H (by omega) hx nx
    refine ls_swF (by intro q; exact e27 (by rw [q]; rfl)) ?_
    by_cases e28 : y = 28
    · refine ls_swT (by rw [e28]; rfl) ?_
      refine lm_tg_of (t := 926) rfl ?_
      exact lc_28 hD (by omega) H (by omega) hx nx
    refine ls_swF (by intro q; exact e28 (by rw [q]; rfl)) ?_
    by_cases e29 : y = 29
    · refine ls_swT (by rw [e29]; rfl) ?_
      refine lm_tg_of (t := 950) rfl ?_
      exact lc_29 hD (by omega) H (by omega) hx nx
    refine ls_swF (by intro q; exact e29 (by rw [q]; rfl)) ?_
    by_cases e30 : y = 30
    · refine ls_swT (by rw [e30]; rfl) ?_
      refine lm_tg_of (t := 963) rfl ?_
      exact lc_30 hD (by omega) H (by omega) hx nx
    refine ls_swF (by intro q; exact e30 (by rw [q]; rfl)) ?_
    by_cases e31 : y = 31
    · refine ls_swT (by rw [e31]; rfl) ?_
      refine lm_tg_of (t := 987) rfl ?_
      exact lc_31 hD (by omega) H (by omega) hx nx
    refine ls_swF (by intro q; exact e31 (by rw [q]; rfl)) ?_
    by_cases e32 : y = 32
    · refine ls_swT (by rw [e32]; rfl) ?_
      refine lm_tg_of (t := 1010) rfl ?_
      exact lc_32 hD (by omega) H (by omega) hx nx
    refine ls_swF (by intro q; exact e32 (by rw [q]; rfl)) ?_
    by_cases e33 : y = 33
    · refine ls_swT (by rw [e33]; rfl) ?_
      refine lm_tg_of (t := 1043) rfl ?_
      exact lc_33 hD (by omega) H (by omega) hx nx
    refine ls_swF (by intro q; exact e33 (by rw [q]; rfl)) ?_
    by_cases e34 : y = 34
    · refine ls_swT (by rw [e34]; rfl) ?_
      refine lm_tg_of (t := 1076) rfl ?_
      exact lc_34 hD (by omega) H (by omega) hx nx
    refine ls_swF (by intro q; exact e34 (by rw [q]; rfl)) ?_
    by_cases e35 : y = 35
    · refine ls_swT (by rw [e35]; rfl) ?_
      refine lm_tg_of (t := 1119) rfl ?_
      exact lc_35 hD (by omega) H (by omega) hx nx
    refine ls_swF (by intro q; exact e35 (by rw [q]; rfl)) ?_
    by_cases e36 : y = 36
    · refine ls_swT (by rw [e36]; rfl) ?_
      refine lm_tg_of (t := 1142) rfl ?_
      exact lc_36 hD (by omega) H (by omega) hx nx
    refine ls_swF (by intro q; exact e36 (by rw [q]; rfl)) ?_
    by_cases e37 : y = 37
    · refine ls_swT (by rw [e37]; rfl) ?_
      refine lm_tg_of (t := 1155) rfl ?_
      exact lc_37 hD (by omega) H (by omega) hx nx
    refine ls_swF (by intro q; exact e37 (by rw [q]; rfl)) ?_
    by_cases e38 : y = 38
    · refine ls_swT (by rw [e38]; rfl) ?_
      refine lm_tg_of (t := 1178) rfl ?_
      exact lc_38 hD (by omega) H (by omega) hx nx
    refine ls_swF (by intro q; exact e38 (by rw [q]; rfl)) ?_
    by_cases e39 : y = 39
    · refine ls_swT (by rw [e39]; rfl) ?_
      refine lm_tg_of (t := 1201) rfl ?_
      exact lc_39 hD (by omega) H (by omega) hx nx
    refine ls_swF (by intro q; exact e39 (by rw [q]; rfl)) ?_
    by_cases e40 : y = 40
    · refine ls_swT (by rw [e40]; rfl) ?_
      refine lm_tg_of (t := 1224) rfl ?_
      exact lc_40 hD (by omega) H (by omega) hx nx
    refine ls_swF (by intro q; exact e40 (by rw [q]; rfl)) ?_
    refine ls_swD ?_
    refine lm_tg_of (t := 1237) rfl ?_
    exact nx h (INV_mono H)
end LoopR
