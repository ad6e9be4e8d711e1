theorem lc_0 {w : Wx} {G : Gx} {b L k : Nat} {xs : Nat → Int32} {M : Mem} (C : Cx w G cL_law RL 10 342 4) (hX : LX w G b L xs) (hk : 4 * k + 4 ≤ L) (hL : L ≤ 256) (hi : Inv M) (kk : ∀ M2, Inv M2 → V w G 898 (lvk w b k) [] M2) : V w G 168 (lvk w b k) [] M := by
  refine v_aload_n C 2 rfl dL_law_168 ?_
  refine v_aload_n C 3 rfl dL_law_169 ?_
  refine v_iload_n C 0 rfl dL_law_170 ?_
  refine v_kc C (1) (by decide) dL_law_171 ?_
  refine v_iadd C dL_law_172 ?_
  rw [sa1 k]
  refine v_sld C hX (inb (by omega) (by omega)) dL_law_173 ?_
  rw [cl (show 4 * k + 1 < 1000000 by omega)]
  refine v_callI C (k := 0) [] (ct_X9_feed w _ (xs (4 * k + 1)) M _ (cl_feed (P := fun r q M2 => r = q ∧ Inv M2) hi (fun _ _ h => ⟨rfl, h⟩))) yX9_feed_k ml_L_13 (rcv8 (by decide) (by decide +kernel)) rfl rfl (by decide) (by decide) dL_law_174 (fun r1 M1 h1 => ?_)
  refine v_aload_n C 1 rfl dL_law_177 ?_
  refine v_aload_n C 3 rfl dL_law_178 ?_
  refine v_iload_n C 0 rfl dL_law_179 ?_
  refine v_kc C (1) (by decide) dL_law_180 ?_
  refine v_iadd C dL_law_181 ?_
  rw [sa1 k]
  refine v_sld C hX (inb (by omega) (by omega)) dL_law_182 ?_
  rw [cl (show 4 * k + 1 < 1000000 by omega)]
  refine v_callI C (k := 211) [.int r1] (ct_X10_feed w _ (xs (4 * k + 1)) M1 _ h1) yX10_feed_k ml_L_17 (rcv9 (by decide) (by decide +kernel)) rfl rfl (by simp [Value.category]) (by decide) dL_law_183 (fun q M2 h2 => ?_)
  exact v_icmp_eq C 898 rfl dL_law_186 (fun _ => kk M2 h2.2) (fun z => absurd h2.1 z)
theorem lc_1 {w : Wx} {G : Gx} {b L k : Nat} {xs : Nat → Int32} {M : Mem} (C : Cx w G cL_law RL 10 342 4) (hX : LX w G b L xs) (hk : 4 * k + 4 ≤ L) (hL : L ≤ 256) (hi : Inv M) (kk : ∀ M2, Inv M2 → V w G 898 (lvk w b k) [] M2) : V w G 191 (lvk w b k) [] M := by
  refine v_aload_n C 2 rfl dL_law_191 ?_
  refine v_callI C (k := 0) [] (ct_X9_town w _  M _ (cl_town (P := fun r q M2 => r = q ∧ Inv M2) hi (fun _ _ h => ⟨rfl, h⟩))) yX9_town_k ml_L_18 (rcv8 (by decide) (by decide +kernel)) rfl rfl (by decide) (by decide) dL_law_192 (fun r1 M1 h1 => ?_)
  refine v_aload_n C 1 rfl dL_law_195 ?_
  refine v_callI C (k := 211) [.int r1] (ct_X10_town w _  M1 _ h1) yX10_town_k ml_L_22 (rcv9 (by decide) (by decide +kernel)) rfl rfl (by simp [Value.category]) (by decide) dL_law_196 (fun q M2 h2 => ?_)
  exact v_icmp_eq C 898 rfl dL_law_199 (fun _ => kk M2 h2.2) (fun z => absurd h2.1 z)
theorem lc_2 {w : Wx} {G : Gx} {b L k : Nat} {xs : Nat → Int32} {M : Mem} (C : Cx w G cL_law RL 10 342 4) (hX : LX w G b L xs) (hk : 4 * k + 4 ≤ L) (hL : L ≤ 256) (hi : Inv M) (kk : ∀ M2, Inv M2 → V w G 898 (lvk w b k) [] M2) : V w G 204 (lvk w b k) [] M := by
  refine v_aload_n C 2 rfl dL_law_204 ?_
  refine v_callI C (k := 0) [] (ct_X9_fault w _  M _ (cl_fault (P := fun r q M2 => r = q ∧ Inv M2) hi (fun _ _ h => ⟨rfl, h⟩))) yX9_fault_k ml_L_23 (rcv8 (by decide) (by decide +kernel)) rfl rfl (by decide) (by decide) dL_law_205 (fun r1 M1 h1 => ?_)
  refine v_aload_n C 1 rfl dL_law_208 ?_
  refine v_callI C (k := 211) [.int r1] (ct_X10_fault w _  M1 _ h1) yX10_fault_k ml_L_26 (rcv9 (by decide) (by decide +kernel)) rfl rfl (by simp [Value.category]) (by decide) dL_law_209 (fun q M2 h2 => ?_)
  exact v_icmp_eq C 898 rfl dL_law_212 (fun _ => kk M2 h2.2) (fun z => absurd h2.1 z)
theorem lc_3 {w : Wx} {G : Gx} {b L k : Nat} {xs : Nat → Int32} {M : Mem} (C : Cx w G cL_law RL 10 342 4) (hX : LX w G b L xs) (hk : 4 * k + 4 ≤ L) (hL : L ≤ 256) (hi : Inv M) (kk : ∀ M2, Inv M2 → V w G 898 (lvk w b k) [] M2) : V w G 217 (lvk w b k) [] M := by
  refine v_aload_n C 2 rfl dL_law_217 ?_
  refine v_aload_n C 3 rfl dL_law_218 ?_
  refine v_iload_n C 0 rfl dL_law_219 ?_
  refine v_kc C (1) (by decide) dL_law_220 ?_
  refine v_iadd C dL_law_221 ?_
  rw [sa1 k]
  refine v_sld C hX (inb (by omega) (by omega)) dL_law_222 ?_
  rw [cl (show 4 * k + 1 < 1000000 by omega)]
  refine v_callI C (k := 0) [] (ct_X9_told w _ (xs (4 * k + 1)) M _ (cl_told (P := fun r q M2 => r = q ∧ Inv M2) hi (fun _ _ h => ⟨rfl, h⟩))) yX9_told_k ml_L_27 (rcv8 (by decide) (by decide +kernel)) rfl rfl (by decide) (by decide) dL_law_223 (fun r1 M1 h1 => ?_)
  refine v_aload_n C 1 rfl dL_law_226 ?_
  refine v_aload_n C 3 rfl dL_law_227 ?_
  refine v_iload_n C 0 rfl dL_law_228 ?_
  refine v_kc C (1) (by decide) dL_law_229 ?_
  refine v_iadd C dL_law_230 ?_
  rw [sa1 k]
  refine v_sld C hX (inb (by omega) (by omega)) dL_law_231 ?_
  rw [cl (show 4 * k + 1 < 1000000 by omega)]
  refine v_callI C (k := 211) [.int r1] (ct_X10_told w _ (xs (4 * k + 1)) M1 _ h1) yX10_told_k ml_L_30 (rcv9 (by decide) (by decide +kernel)) rfl rfl (by simp [Value.category]) (by decide) dL_law_232 (fun q M2 h2 => ?_)
  exact v_icmp_eq C 898 rfl dL_law_235 (fun _ => kk M2 h2.2) (fun z => absurd h2.1 z)
theorem lc_4 {w : Wx} {G : Gx} {b L k : Nat} {xs : Nat → Int32} {M : Mem} (C : Cx w G cL_law RL 10 342 4) (hX : LX w G b L xs) (hk : 4 * k + 4 ≤ L) (hL : L ≤ 256) (hi : Inv M) (kk : ∀ M2, Inv M2 → V w G 898 (lvk w b k) [] M2) : V w G 240 (lvk w b k) [] M := by
  refine v_aload_n C 2 rfl dL_law_240 ?_
  refine v_aload_n C 3 rfl dL_law_241 ?_
  refine v_iload_n C 0 rfl dL_law_242 ?_
  refine v_kc C (1) (by decide) dL_law_243 ?_
  refine v_iadd C dL_law_244 ?_
  rw [sa1 k]
  refine v_sld C hX (inb (by omega) (by omega)) dL_law_245 ?_
  rw [cl (show 4 * k + 1 < 1000000 by omega)]
  refine v_aload_n C 3 rfl dL_law_246 ?_
  refine v_iload_n C 0 rfl dL_law_247 ?_
  refine v_kc C (2) (by decide) dL_law_248 ?_
  refine v_iadd C dL_law_249 ?_
  rw [sa2 k]
  refine v_sld C hX (inb (by omega) (by omega)) dL_law_250 ?_
  rw [cl (show 4 * k + 2 < 1000000 by omega)]
  refine v_callI C (k := 0) [] (ct_X9_car w _ (xs (4 * k + 1)) (xs (4 * k + 2)) M _ (cl_car (P := fun r q M2 => r = q ∧ Inv M2) hi (fun _ _ h => ⟨rfl, h⟩))) yX9_car_k ml_L_31 (rcv8 (by decide) (by decide +kernel)) rfl rfl (by decide) (by decide) dL_law_251 (fun r1 M1 h1 => ?_)
  refine v_aload_n C 1 rfl dL_law_254 ?_
  refine v_aload_n C 3 rfl dL_law_255 ?_
  refine v_iload_n C 0 rfl dL_law_256 ?_
  refine v_kc C (1) (by decide) dL_law_257 ?_
  refine v_iadd C dL_law_258 ?_
  rw [sa1 k]
  refine v_sld C hX (inb (by omega) (by omega)) dL_law_259 ?_
  rw [cl (show 4 * k + 1 < 1000000 by omega)]
  refine v_aload_n C 3 rfl dL_law_260 ?_
  refine v_iload_n C 0 rfl dL_law_261 ?_
  refine v_kc C (2) (by decide) dL_law_262 ?_
  refine v_iadd C dL_law_263 ?_
  rw [sa2 k]
  refine v_sld C hX (inb (by omega) (by omega)) dL_law_264 ?_
  rw [cl (show 4 * k + 2 < 1000000 by omega)]
  refine v_callI C (k := 211) [.int r1] (ct_X10_car w _ (xs (4 * k + 1)) (xs (4 * k + 2)) M1 _ h1) yX10_car_k ml_L_35 (rcv9 (by decide) (by decide +kernel)) rfl rfl (by simp [Value.category]) (by decide) dL_law_265 (fun q M2 h2 => ?_)
  exact v_icmp_eq C 898 rfl dL_law_268 (fun _ => kk M2 h2.2) (fun z => absurd h2.1 z)
theorem lc_5 {w : Wx} {G : Gx} {b L k : Nat} {xs : Nat → Int32} {M : Mem} (C : Cx w G cL_law RL 10 342 4) (hX : LX w G b L xs) (hk : 4 * k + 4 ≤ L) (hL : L ≤ 256) (hi : Inv M) (kk : ∀ M2, Inv M2 → V w G 898 (lvk w b k) [] M2) : V w G 273 (lvk w b k) [] M := by
  refine v_aload_n C 2 rfl dL_law_273 ?_
  refine v_aload_n C 3 rfl dL_law_274 ?_
  refine v_iload_n C 0 rfl dL_law_275 ?_
  refine v_kc C (1) (by decide) dL_law_276 ?_
  refine v_iadd C dL_law_277 ?_
  rw [sa1 k]
  refine v_sld C hX (inb (by omega) (by omega)) dL_law_278 ?_
  rw [cl (show 4 * k + 1 < 1000000 by omega)]
  refine v_callI C (k := 0) [] (ct_X9_step w _ (xs (4 * k + 1)) M _ (cl_step (P := fun r q M2 => r = q ∧ Inv M2) hi (fun _ _ h => ⟨rfl, h⟩))) yX9_step_k ml_L_36 (rcv8 (by decide) (by decide +kernel)) rfl rfl (by decide) (by decide) dL_law_279 (fun r1 M1 h1 => ?_)
  refine v_aload_n C 1 rfl dL_law_282 ?_
  refine v_aload_n C 3 rfl dL_law_283 ?_
  refine v_iload_n C 0 rfl dL_law_284 ?_
  refine v_kc C (1) (by decide) dL_law_285 ?_
  refine v_iadd C dL_law_286 ?_
  rw [sa1 k]
  refine v_sld C hX (inb (by omega) (by omega)) dL_law_287 ?_
  rw [cl (show 4 * k + 1 < 1000000 by omega)]
  refine v_callI C (k := 211) [.int r1] (ct_X10_step w _ (xs (4 * k + 1)) M1 _ h1) yX10_step_k ml_L_39 (rcv9 (by decide) (by decide +kernel)) rfl rfl (by simp [Value.category]) (by decide) dL_law_288 (fun q M2 h2 => ?_)
  exact v_icmp_eq C 898 rfl dL_law_291 (fun _ => kk M2 h2.2) (fun z => absurd h2.1 z)
theorem lc_6 {w : Wx} {G : Gx} {b L k : Nat} {xs : Nat → Int32} {M : Mem} (C : Cx w G cL_law RL 10 342 4) (hX : LX w G b L xs) (hk : 4 * k + 4 ≤ L) (hL : L ≤ 256) (hi : Inv M) (kk : ∀ M2, Inv M2 → V w G 898 (lvk w b k) [] M2) : V w G 296 (lvk w b k) [] M := by
  refine v_aload_n C 2 rfl dL_law_296 ?_
  refine v_aload_n C 3 rfl dL_law_297 ?_
  refine v_iload_n C 0 rfl dL_law_298 ?_
  refine v_kc C (1) (by decide) dL_law_299 ?_
  refine v_iadd C dL_law_300 ?_
  rw [sa1 k]
  refine v_sld C hX (inb (by omega) (by omega)) dL_law_301 ?_
  rw [cl (show 4 * k + 1 < 1000000 by omega)]
  refine v_aload_n C 3 rfl dL_law_302 ?_
  refine v_iload_n C 0 rfl dL_law_303 ?_
  refine v_kc C (2) (by decide) dL_law_304 ?_
  refine v_iadd C dL_law_305 ?_
  rw [sa2 k]
  refine v_sld C hX (inb (by omega) (by omega)) dL_law_306 ?_
  rw [cl (show 4 * k + 2 < 1000000 by omega)]
  refine v_callI C (k := 0) [] (ct_X9_follow w _ (xs (4 * k + 1)) (xs (4 * k + 2)) M _ (cl_follow (P := fun r q M2 => r = q ∧ Inv M2) hi (fun _ _ h => ⟨rfl, h⟩))) yX9_follow_k ml_L_40 (rcv8 (by decide) (by decide +kernel)) rfl rfl (by decide) (by decide) dL_law_307 (fun r1 M1 h1 => ?_)
  refine v_aload_n C 1 rfl dL_law_310 ?_
  refine v_aload_n C 3 rfl dL_law_311 ?_
  refine v_iload_n C 0 rfl dL_law_312 ?_
  refine v_kc C (1) (by decide) dL_law_313 ?_
  refine v_iadd C dL_law_314 ?_
  rw [sa1 k]
  refine v_sld C hX (inb (by omega) (by omega)) dL_law_315 ?_
  rw [cl (show 4 * k + 1 < 1000000 by omega)]
  refine v_aload_n C 3 rfl dL_law_316 ?_
  refine v_iload_n C 0 rfl dL_law_317 ?_
  refine v_kc C (2) (by decide) dL_law_318 ?_
  refine v_iadd C dL_law_319 ?_
  rw [sa2 k]
  refine v_sld C hX (inb (by omega) (by omega)) dL_law_320 ?_
  rw [cl (show 4 * k + 2 < 1000000 by omega)]
  refine v_callI C (k := 211) [.int r1] (ct_X10_follow w _ (xs (4 * k + 1)) (xs (4 * k + 2)) M1 _ h1) yX10_follow_k ml_L_43 (rcv9 (by decide) (by decide +kernel)) rfl rfl (by simp [Value.category]) (by decide) dL_law_321 (fun q M2 h2 => ?_)
  exact v_icmp_eq C 898 rfl dL_law_324 (fun _ => kk M2 h2.2) (fun z => absurd h2.1 z)
theorem lc_7 {w : Wx} {G : Gx} {b L k : Nat} {xs : Nat → Int32} {M : Mem} (C : Cx w G cL_law RL 10 342 4) (hX : LX w G b L xs) (hk : 4 * k + 4 ≤ L) (hL : L ≤ 256) (hi : Inv M) (kk : ∀ M2, Inv M2 → V w G 898 (lvk w b k) [] M2) : V w G 329 (lvk w b k) [] M := by
  refine v_aload_n C 2 rfl dL_law_329 ?_
  refine v_aload_n C 3 rfl dL_law_330 ?_
  refine v_iload_n C 0 rfl dL_law_331 ?_
  refine v_kc C (1) (by decide) dL_law_332 ?_
  refine v_iadd C dL_law_333 ?_
  rw [sa1 k]
  refine v_sld C hX (inb (by omega) (by omega)) dL_law_334 ?_
  rw [cl (show 4 * k + 1 < 1000000 by omega)]
  refine v_callI C (k := 0) [] (ct_X9_letOff w _ (xs (4 * k + 1)) M _ (cl_letOff (P := fun r q M2 => r = q ∧ Inv M2) hi (fun _ _ h => ⟨rfl, h⟩))) yX9_letOff_k ml_L_44 (rcv8 (by decide) (by decide +kernel)) rfl rfl (by decide) (by decide) dL_law_335 (fun r1 M1 h1 => ?_)
  refine v_aload_n C 1 rfl dL_law_338 ?_
  refine v_aload_n C 3 rfl dL_law_339 ?_
  refine v_iload_n C 0 rfl dL_law_340 ?_
  refine v_kc C (1) (by decide) dL_law_341 ?_
  refine v_iadd C dL_law_342 ?_
  rw [sa1 k]
  refine v_sld C hX (inb (by omega) (by omega)) dL_law_343 ?_
  rw [cl (show 4 * k + 1 < 1000000 by omega)]
  refine v_callI C (k := 211) [.int r1] (ct_X10_letOff w _ (xs (4 * k + 1)) M1 _ h1) yX10_letOff_k ml_L_47 (rcv9 (by decide) (by decide +kernel)) rfl rfl (by simp [Value.category]) (by decide) dL_law_344 (fun q M2 h2 => ?_)
  exact v_icmp_eq C 898 rfl dL_law_347 (fun _ => kk M2 h2.2) (fun z => absurd h2.1 z)
theorem lc_8 {w : Wx} {G : Gx} {b L k : Nat} {xs : Nat → Int32} {M : Mem} (C : Cx w G cL_law RL 10 342 4) (hX : LX w G b L xs) (hk : 4 * k + 4 ≤ L) (hL : L ≤ 256) (hi : Inv M) (kk : ∀ M2, Inv M2 → V w G 898 (lvk w b k) [] M2) : V w G 352 (lvk w b k) [] M := by
  refine v_aload_n C 2 rfl dL_law_352 ?_
  refine v_aload_n C 3 rfl dL_law_353 ?_
  refine v_iload_n C 0 rfl dL_law_354 ?_
  refine v_kc C (1) (by decide) dL_law_355 ?_
  refine v_iadd C dL_law_356 ?_
  rw [sa1 k]
  refine v_sld C hX (inb (by omega) (by omega)) dL_law_357 ?_
  rw [cl (show 4 * k + 1 < 1000000 by omega)]
  refine v_callI C (k := 0) [] (ct_X9_turn w _ (xs (4 * k + 1)) M _ (cl_turn (P := fun r q M2 => r = q ∧ Inv M2) hi (fun _ _ h => ⟨rfl, h⟩))) yX9_turn_k ml_L_48 (rcv8 (by decide) (by decide +kernel)) rfl rfl (by decide) (by decide) dL_law_358 (fun r1 M1 h1 => ?_)
  refine v_aload_n C 1 rfl dL_law_361 ?_
  refine v_aload_n C 3 rfl dL_law_362 ?_
  refine v_iload_n C 0 rfl dL_law_363 ?_
  refine v_kc C (1) (by decide) dL_law_364 ?_
  refine v_iadd C dL_law_365 ?_
  rw [sa1 k]
  refine v_sld C hX (inb (by omega) (by omega)) dL_law_366 ?_
  rw [cl (show 4 * k + 1 < 1000000 by omega)]
  refine v_callI C (k := 211) [.int r1] (ct_X10_turn w _ (xs (4 * k + 1)) M1 _ h1) yX10_turn_k ml_L_51 (rcv9 (by decide) (by decide +kernel)) rfl rfl (by simp [Value.category]) (by decide) dL_law_367 (fun q M2 h2 => ?_)
  exact v_icmp_eq C 898 rfl dL_law_370 (fun _ => kk M2 h2.2) (fun z => absurd h2.1 z)
theorem lc_9 {w : Wx} {G : Gx} {b L k : Nat} {xs : Nat → Int32} {M : Mem} (C : Cx w G cL_law RL 10 342 4) (hX : LX w G b L xs) (hk : 4 * k + 4 ≤ L) (hL : L ≤ 256) (hi : Inv M) (kk : ∀ M2, Inv M2 → V w G 898 (lvk w b k) [] M2) : V w G 375 (lvk w b k) [] M := by
  refine v_aload_n C 2 rfl dL_law_375 ?_
  refine v_aload_n C 3 rfl dL_law_376 ?_
  refine v_iload_n C 0 rfl dL_law_377 ?_
  refine v_kc C (1) (by decide) dL_law_378 ?_
  refine v_iadd C dL_law_379 ?_
  rw [sa1 k]
  refine v_sld C hX (inb (by omega) (by omega)) dL_law_380 ?_
  rw [cl (show 4 * k + 1 < 1000000 by omega)]
  refine v_callI C (k := 0) [] (ct_X9_drift w _ (xs (4 * k + 1)) M _ (cl_drift (P := fun r q M2 => r = q ∧ Inv M2) hi (fun _ _ h => ⟨rfl, h⟩))) yX9_drift_k ml_L_52 (rcv8 (by decide) (by decide +kernel)) rfl rfl (by decide) (by decide) dL_law_381 (fun r1 M1 h1 => ?_)
  refine v_aload_n C 1 rfl dL_law_384 ?_
  refine v_aload_n C 3 rfl dL_law_385 ?_
  refine v_iload_n C 0 rfl dL_law_386 ?_
  refine v_kc C (1) (by decide) dL_law_387 ?_
  refine v_iadd C dL_law_388 ?_
  rw [sa1 k]
  refine v_sld C hX (inb (by omega) (by omega)) dL_law_389 ?_
  rw [cl (show 4 * k + 1 < 1000000 by omega)]
  refine v_callI C (k := 211) [.int r1] (ct_X10_drift w _ (xs (4 * k + 1)) M1 _ h1) yX10_drift_k ml_L_55 (rcv9 (by decide) (by decide +kernel)) rfl rfl (by simp [Value.category]) (by decide) dL_law_390 (fun q M2 h2 => ?_)
  exact v_icmp_eq C 898 rfl dL_law_393 (fun _ => kk M2 h2.2) (fun z => absurd h2.1 z)
theorem lc_10 {w : Wx} {G : Gx} {b L k : Nat} {xs : Nat → Int32} {M : Mem} (C : Cx w G cL_law RL 10 342 4) (hX : LX w G b L xs) (hk : 4 * k + 4 ≤ L) (hL : L ≤ 256) (hi : Inv M) (kk : ∀ M2, Inv M2 → V w G 898 (lvk w b k) [] M2) : V w G 398 (lvk w b k) [] M := by
  refine v_aload_n C 2 rfl dL_law_398 ?_
  refine v_callI C (k := 0) [] (ct_X9_undo w _  M _ (cl_undo (P := fun r q M2 => r = q ∧ Inv M2) hi (fun _ _ h => ⟨rfl, h⟩))) yX9_undo_k ml_L_56 (rcv8 (by decide) (by decide +kernel)) rfl rfl (by decide) (by decide) dL_law_399 (fun r1 M1 h1 => ?_)
  refine v_aload_n C 1 rfl dL_law_402 ?_
  refine v_callI C (k := 211) [.int r1] (ct_X10_undo w _  M1 _ h1) yX10_undo_k ml_L_59 (rcv9 (by decide) (by decide +kernel)) rfl rfl (by simp [Value.category]) (by decide) dL_law_403 (fun q M2 h2 => ?_)
  exact v_icmp_eq C 898 rfl dL_law_406 (fun _ => kk M2 h2.2) (fun z => absurd h2.1 z)
theorem lc_11 {w : Wx} {G : Gx} {b L k : Nat} {xs : Nat → Int32} {M : Mem} (C : Cx w G cL_law RL 10 342 4) (hX : LX w G b L xs) (hk : 4 * k + 4 ≤ L) (hL : L ≤ 256) (hi : Inv M) (kk : ∀ M2, Inv M2 → V w G 898 (lvk w b k) [] M2) : V w G 411 (lvk w b k) [] M := by
  refine v_aload_n C 2 rfl dL_law_411 ?_
  refine v_aload_n C 3 rfl dL_law_412 ?_
  refine v_iload_n C 0 rfl dL_law_413 ?_
  refine v_kc C (1) (by decide) dL_law_414 ?_
  refine v_iadd C dL_law_415 ?_
  rw [sa1 k]
  refine v_sld C hX (inb (by omega) (by omega)) dL_law_416 ?_
  rw [cl (show 4 * k + 1 < 1000000 by omega)]
  refine v_aload_n C 3 rfl dL_law_417 ?_
  refine v_iload_n C 0 rfl dL_law_418 ?_
  refine v_kc C (2) (by decide) dL_law_419 ?_
  refine v_iadd C dL_law_420 ?_
  rw [sa2 k]
  refine v_sld C hX (inb (by omega) (by omega)) dL_law_421 ?_
  rw [cl (show 4 * k + 2 < 1000000 by omega)]
  refine v_callI C (k := 0) [] (ct_X9_where w _ (xs (4 * k + 1)) (xs (4 * k + 2)) M _ (cl_where (P := fun r q M2 => r = q ∧ Inv M2) hi (fun _ _ h => ⟨rfl, h⟩))) yX9_where_k ml_L_60 (rcv8 (by decide) (by decide +kernel)) rfl rfl (by decide) (by decide) dL_law_422 (fun r1 M1 h1 => ?_)
  refine v_aload_n C 1 rfl dL_law_425 ?_
  refine v_aload_n C 3 rfl dL_law_426 ?_
  refine v_iload_n C 0 rfl dL_law_427 ?_
  refine v_kc C (1) (by decide) dL_law_428 ?_
  refine v_iadd C dL_law_429 ?_
  rw [sa1 k]
  refine v_sld C hX (inb (by omega) (by omega)) dL_law_430 ?_
  rw [cl (show 4 * k + 1 < 1000000 by omega)]
  refine v_aload_n C 3 rfl dL_law_431 ?_
  refine v_iload_n C 0 rfl dL_law_432 ?_
  refine v_kc C (2) (by decide) dL_law_433 ?_
  refine v_iadd C dL_law_434 ?_
  rw [sa2 k]
  refine v_sld C hX (inb (by omega) (by omega)) dL_law_435 ?_
  rw [cl (show 4 * k + 2 < 1000000 by omega)]
  refine v_callI C (k := 211) [.int r1] (ct_X10_where w _ (xs (4 * k + 1)) (xs (4 * k + 2)) M1 _ h1) yX10_where_k ml_L_63 (rcv9 (by decide) (by decide +kernel)) rfl rfl (by simp [Value.category]) (by decide) dL_law_436 (fun q M2 h2 => ?_)
  exact v_icmp_eq C 898 rfl dL_law_439 (fun _ => kk M2 h2.2) (fun z => absurd h2.1 z)
theorem lc_12 {w : Wx} {G : Gx} {b L k : Nat} {xs : Nat → Int32} {M : Mem} (C : Cx w G cL_law RL 10 342 4) (hX : LX w G b L xs) (hk : 4 * k + 4 ≤ L) (hL : L ≤ 256) (hi : Inv M) (kk : ∀ M2, Inv M2 → V w G 898 (lvk w b k) [] M2) : V w G 444 (lvk w b k) [] M := by
  refine v_aload_n C 2 rfl dL_law_444 ?_
  refine v_aload_n C 3 rfl dL_law_445 ?_
  refine v_iload_n C 0 rfl dL_law_446 ?_
  refine v_kc C (1) (by decide) dL_law_447 ?_
  refine v_iadd C dL_law_448 ?_
  rw [sa1 k]
  refine v_sld C hX (inb (by omega) (by omega)) dL_law_449 ?_
  rw [cl (show 4 * k + 1 < 1000000 by omega)]
  refine v_aload_n C 3 rfl dL_law_450 ?_
  refine v_iload_n C 0 rfl dL_law_451 ?_
  refine v_kc C (2) (by decide) dL_law_452 ?_
  refine v_iadd C dL_law_453 ?_
  rw [sa2 k]
  refine v_sld C hX (inb (by omega) (by omega)) dL_law_454 ?_
  rw [cl (show 4 * k + 2 < 1000000 by omega)]
  refine v_callI C (k := 0) [] (ct_X9_sees w _ (xs (4 * k + 1)) (xs (4 * k + 2)) M _ (cl_sees (P := fun r q M2 => r = q ∧ Inv M2) hi (fun _ _ h => ⟨rfl, h⟩))) yX9_sees_k ml_L_64 (rcv8 (by decide) (by decide +kernel)) rfl rfl (by decide) (by decide) dL_law_455 (fun r1 M1 h1 => ?_)
  refine v_aload_n C 1 rfl dL_law_458 ?_
  refine v_aload_n C 3 rfl dL_law_459 ?_
  refine v_iload_n C 0 rfl dL_law_460 ?_
  refine v_kc C (1) (by decide) dL_law_461 ?_
  refine v_iadd C dL_law_462 ?_
  rw [sa1 k]
  refine v_sld C hX (inb (by omega) (by omega)) dL_law_463 ?_
  rw [cl (show 4 * k + 1 < 1000000 by omega)]
  refine v_aload_n C 3 rfl dL_law_464 ?_
  refine v_iload_n C 0 rfl dL_law_465 ?_
  refine v_kc C (2) (by decide) dL_law_466 ?_
  refine v_iadd C dL_law_467 ?_
  rw [sa2 k]
  refine v_sld C hX (inb (by omega) (by omega)) dL_law_468 ?_
  rw [cl (show 4 * k + 2 < 1000000 by omega)]
  refine v_callI C (k := 211) [.int r1] (ct_X10_sees w _ (xs (4 * k + 1)) (xs (4 * k + 2)) M1 _ h1) yX10_sees_k ml_L_67 (rcv9 (by decide) (by decide +kernel)) rfl rfl (by simp [Value.category]) (by decide) dL_law_469 (fun q M2 h2 => ?_)
  exact v_icmp_eq C 898 rfl dL_law_472 (fun _ => kk M2 h2.2) (fun z => absurd h2.1 z)
theorem lc_13 {w : Wx} {G : Gx} {b L k : Nat} {xs : Nat → Int32} {M : Mem} (C : Cx w G cL_law RL 10 342 4) (hX : LX w G b L xs) (hk : 4 * k + 4 ≤ L) (hL : L ≤ 256) (hi : Inv M) (kk : ∀ M2, Inv M2 → V w G 898 (lvk w b k) [] M2) : V w G 477 (lvk w b k) [] M := by
  refine v_aload_n C 2 rfl dL_law_477 ?_
  refine v_aload_n C 3 rfl dL_law_478 ?_
  refine v_iload_n C 0 rfl dL_law_479 ?_
  refine v_kc C (1) (by decide) dL_law_480 ?_
  refine v_iadd C dL_law_481 ?_
  rw [sa1 k]
  refine v_sld C hX (inb (by omega) (by omega)) dL_law_482 ?_
  rw [cl (show 4 * k + 1 < 1000000 by omega)]
  refine v_callI C (k := 0) [] (ct_X9_rings w _ (xs (4 * k + 1)) M _ (cl_rings (P := fun r q M2 => r = q ∧ Inv M2) hi (fun _ _ h => ⟨rfl, h⟩))) yX9_rings_k ml_L_68 (rcv8 (by decide) (by decide +kernel)) rfl rfl (by decide) (by decide) dL_law_483 (fun r1 M1 h1 => ?_)
  refine v_aload_n C 1 rfl dL_law_486 ?_
  refine v_aload_n C 3 rfl dL_law_487 ?_
  refine v_iload_n C 0 rfl dL_law_488 ?_
  refine v_kc C (1) (by decide) dL_law_489 ?_
  refine v_iadd C dL_law_490 ?_
  rw [sa1 k]
  refine v_sld C hX (inb (by omega) (by omega)) dL_law_491 ?_
  rw [cl (show 4 * k + 1 < 1000000 by omega)]
  refine v_callI C (k := 211) [.int r1] (ct_X10_rings w _ (xs (4 * k + 1)) M1 _ h1) yX10_rings_k ml_L_71 (rcv9 (by decide) (by decide +kernel)) rfl rfl (by simp [Value.category]) (by decide) dL_law_492 (fun q M2 h2 => ?_)
  exact v_icmp_eq C 898 rfl dL_law_495 (fun _ => kk M2 h2.2) (fun z => absurd h2.1 z)
theorem lc_14 {w : Wx} {G : Gx} {b L k : Nat} {xs : Nat → Int32} {M : Mem} (C : Cx w G cL_law RL 10 342 4) (hX : LX w G b L xs) (hk : 4 * k + 4 ≤ L) (hL : L ≤ 256) (hi : Inv M) (kk : ∀ M2, Inv M2 → V w G 898 (lvk w b k) [] M2) : V w G 500 (lvk w b k) [] M := by
  refine v_aload_n C 2 rfl dL_law_500 ?_
  refine v_aload_n C 3 rfl dL_law_501 ?_
  refine v_iload_n C 0 rfl dL_law_502 ?_
  refine v_kc C (1) (by decide) dL_law_503 ?_
  refine v_iadd C dL_law_504 ?_
  rw [sa1 k]
  refine v_sld C hX (inb (by omega) (by omega)) dL_law_505 ?_
  rw [cl (show 4 * k + 1 < 1000000 by omega)]
  refine v_aload_n C 3 rfl dL_law_506 ?_
  refine v_iload_n C 0 rfl dL_law_507 ?_
  refine v_kc C (2) (by decide) dL_law_508 ?_
  refine v_iadd C dL_law_509 ?_
  rw [sa2 k]
  refine v_sld C hX (inb (by omega) (by omega)) dL_law_510 ?_
  rw [cl (show 4 * k + 2 < 1000000 by omega)]
  refine v_callI C (k := 0) [] (ct_X9_end w _ (xs (4 * k + 1)) (xs (4 * k + 2)) M _ (cl_end (P := fun r q M2 => r = q ∧ Inv M2) hi (fun _ _ h => ⟨rfl, h⟩))) yX9_end_k ml_L_72 (rcv8 (by decide) (by decide +kernel)) rfl rfl (by decide) (by decide) dL_law_511 (fun r1 M1 h1 => ?_)
  refine v_aload_n C 1 rfl dL_law_514 ?_
  refine v_aload_n C 3 rfl dL_law_515 ?_
  refine v_iload_n C 0 rfl dL_law_516 ?_
  refine v_kc C (1) (by decide) dL_law_517 ?_
  refine v_iadd C dL_law_518 ?_
  rw [sa1 k]
  refine v_sld C hX (inb (by omega) (by omega)) dL_law_519 ?_
  rw [cl (show 4 * k + 1 < 1000000 by omega)]
  refine v_aload_n C 3 rfl dL_law_520 ?_
  refine v_iload_n C 0 rfl dL_law_521 ?_
  refine v_kc C (2) (by decide) dL_law_522 ?_
  refine v_iadd C dL_law_523 ?_
  rw [sa2 k]
  refine v_sld C hX (inb (by omega) (by omega)) dL_law_524 ?_
  rw [cl (show 4 * k + 2 < 1000000 by omega)]
  refine v_callI C (k := 211) [.int r1] (ct_X10_end w _ (xs (4 * k + 1)) (xs (4 * k + 2)) M1 _ h1) yX10_end_k ml_L_75 (rcv9 (by decide) (by decide +kernel)) rfl rfl (by simp [Value.category]) (by decide) dL_law_525 (fun q M2 h2 => ?_)
  exact v_icmp_eq C 898 rfl dL_law_528 (fun _ => kk M2 h2.2) (fun z => absurd h2.1 z)
theorem lc_15 {w : Wx} {G : Gx} {b L k : Nat} {xs : Nat → Int32} {M : Mem} (C : Cx w G cL_law RL 10 342 4) (hX : LX w G b L xs) (hk : 4 * k + 4 ≤ L) (hL : L ≤ 256) (hi : Inv M) (kk : ∀ M2, Inv M2 → V w G 898 (lvk w b k) [] M2) : V w G 533 (lvk w b k) [] M := by
  refine v_aload_n C 2 rfl dL_law_533 ?_
  refine v_aload_n C 3 rfl dL_law_534 ?_
  refine v_iload_n C 0 rfl dL_law_535 ?_
  refine v_kc C (1) (by decide) dL_law_536 ?_
  refine v_iadd C dL_law_537 ?_
  rw [sa1 k]
  refine v_sld C hX (inb (by omega) (by omega)) dL_law_538 ?_
  rw [cl (show 4 * k + 1 < 1000000 by omega)]
  refine v_callI C (k := 0) [] (ct_X9_behind w _ (xs (4 * k + 1)) M _ (cl_behind (P := fun r q M2 => r = q ∧ Inv M2) hi (fun _ _ h => ⟨rfl, h⟩))) yX9_behind_k ml_L_76 (rcv8 (by decide) (by decide +kernel)) rfl rfl (by decide) (by decide) dL_law_539 (fun r1 M1 h1 => ?_)
  refine v_aload_n C 1 rfl dL_law_542 ?_
  refine v_aload_n C 3 rfl dL_law_543 ?_
  refine v_iload_n C 0 rfl dL_law_544 ?_
  refine v_kc C (1) (by decide) dL_law_545 ?_
  refine v_iadd C dL_law_546 ?_
  rw [sa1 k]
  refine v_sld C hX (inb (by omega) (by omega)) dL_law_547 ?_
  rw [cl (show 4 * k + 1 < 1000000 by omega)]
  refine v_callI C (k := 211) [.int r1] (ct_X10_behind w _ (xs (4 * k + 1)) M1 _ h1) yX10_behind_k ml_L_79 (rcv9 (by decide) (by decide +kernel)) rfl rfl (by simp [Value.category]) (by decide) dL_law_548 (fun q M2 h2 => ?_)
  exact v_icmp_eq C 898 rfl dL_law_551 (fun _ => kk M2 h2.2) (fun z => absurd h2.1 z)
theorem lc_16 {w : Wx} {G : Gx} {b L k : Nat} {xs : Nat → Int32} {M : Mem} (C : Cx w G cL_law RL 10 342 4) (hX : LX w G b L xs) (hk : 4 * k + 4 ≤ L) (hL : L ≤ 256) (hi : Inv M) (kk : ∀ M2, Inv M2 → V w G 898 (lvk w b k) [] M2) : V w G 556 (lvk w b k) [] M := by
  refine v_aload_n C 2 rfl dL_law_556 ?_
  refine v_callI C (k := 0) [] (ct_X9_stop w _  M _ (cl_stop (P := fun r q M2 => r = q ∧ Inv M2) hi (fun _ _ h => ⟨rfl, h⟩))) yX9_stop_k ml_L_80 (rcv8 (by decide) (by decide +kernel)) rfl rfl (by decide) (by decide) dL_law_557 (fun r1 M1 h1 => ?_)
  refine v_aload_n C 1 rfl dL_law_560 ?_
  refine v_callI C (k := 211) [.int r1] (ct_X10_stop w _  M1 _ h1) yX10_stop_k ml_L_83 (rcv9 (by decide) (by decide +kernel)) rfl rfl (by simp [Value.category]) (by decide) dL_law_561 (fun q M2 h2 => ?_)
  exact v_icmp_eq C 898 rfl dL_law_564 (fun _ => kk M2 h2.2) (fun z => absurd h2.1 z)
theorem lc_17 {w : Wx} {G : Gx} {b L k : Nat} {xs : Nat → Int32} {M : Mem} (C : Cx w G cL_law RL 10 342 4) (hX : LX w G b L xs) (hk : 4 * k + 4 ≤ L) (hL : L ≤ 256) (hi : Inv M) (kk : ∀ M2, Inv M2 → V w G 898 (lvk w b k) [] M2) : V w G 569 (lvk w b k) [] M := by
  refine v_aload_n C 2 rfl dL_law_569 ?_
  refine v_aload_n C 3 rfl dL_law_570 ?_
  refine v_iload_n C 0 rfl dL_law_571 ?_
  refine v_kc C (1) (by decide) dL_law_572 ?_
  refine v_iadd C dL_law_573 ?_
  rw [sa1 k]
  refine v_sld C hX (inb (by omega) (by omega)) dL_law_574 ?_
  rw [cl (show 4 * k + 1 < 1000000 by omega)]
  refine v_aload_n C 3 rfl dL_law_575 ?_
  refine v_iload_n C 0 rfl dL_law_576 ?_
  refine v_kc C (2) (by decide) dL_law_577 ?_
  refine v_iadd C dL_law_578 ?_
  rw [sa2 k]
  refine v_sld C hX (inb (by omega) (by omega)) dL_law_579 ?_
  rw [cl (show 4 * k + 2 < 1000000 by omega)]
  refine v_callI C (k := 0) [] (ct_X9_cross w _ (xs (4 * k + 1)) (xs (4 * k + 2)) M _ (cl_cross (P := fun r q M2 => r = q ∧ Inv M2) hi (fun _ _ h => ⟨rfl, h⟩))) yX9_cross_k ml_L_84 (rcv8 (by decide) (by decide +kernel)) rfl rfl (by decide) (by decide) dL_law_580 (fun r1 M1 h1 => ?_)
  refine v_aload_n C 1 rfl dL_law_583 ?_
  refine v_aload_n C 3 rfl dL_law_584 ?_
  refine v_iload_n C 0 rfl dL_law_585 ?_
  refine v_kc C (1) (by decide) dL_law_586 ?_
  refine v_iadd C dL_law_587 ?_
  rw [sa1 k]
  refine v_sld C hX (inb (by omega) (by omega)) dL_law_588 ?_
  rw [cl (show 4 * k + 1 < 1000000 by omega)]
  refine v_aload_n C 3 rfl dL_law_589 ?_
  refine v_iload_n C 0 rfl dL_law_590 ?_
  refine v_kc C (2) (by decide) dL_law_591 ?_
  refine v_iadd C dL_law_592 ?_
  rw [sa2 k]
  refine v_sld C hX (inb (by omega) (by omega)) dL_law_593 ?_
  rw [cl (show 4 * k + 2 < 1000000 by omega)]
  refine v_callI C (k := 211) [.int r1] (ct_X10_cross w _ (xs (4 * k + 1)) (xs (4 * k + 2)) M1 _ h1) yX10_cross_k ml_L_87 (rcv9 (by decide) (by decide +kernel)) rfl rfl (by simp [Value.category]) (by decide) dL_law_594 (fun q M2 h2 => ?_)
  exact v_icmp_eq C 898 rfl dL_law_597 (fun _ => kk M2 h2.2) (fun z => absurd h2.1 z)
theorem lc_18 {w : Wx} {G : Gx} {b L k : Nat} {xs : Nat → Int32} {M : Mem} (C : Cx w G cL_law RL 10 342 4) (hX : LX w G b L xs) (hk : 4 * k + 4 ≤ L) (hL : L ≤ 256) (hi : Inv M) (kk : ∀ M2, Inv M2 → V w G 898 (lvk w b k) [] M2) : V w G 602 (lvk w b k) [] M := by
  refine v_aload_n C 2 rfl dL_law_602 ?_
  refine v_aload_n C 3 rfl dL_law_603 ?_
  refine v_iload_n C 0 rfl dL_law_604 ?_
  refine v_kc C (1) (by decide) dL_law_605 ?_
  refine v_iadd C dL_law_606 ?_
  rw [sa1 k]
  refine v_sld C hX (inb (by omega) (by omega)) dL_law_607 ?_
  rw [cl (show 4 * k + 1 < 1000000 by omega)]
  refine v_aload_n C 3 rfl dL_law_608 ?_
  refine v_iload_n C 0 rfl dL_law_609 ?_
  refine v_kc C (2) (by decide) dL_law_610 ?_
  refine v_iadd C dL_law_611 ?_
  rw [sa2 k]
  refine v_sld C hX (inb (by omega) (by omega)) dL_law_612 ?_
  rw [cl (show 4 * k + 2 < 1000000 by omega)]
  refine v_callI C (k := 0) [] (ct_X9_handed w _ (xs (4 * k + 1)) (xs (4 * k + 2)) M _ (cl_handed (P := fun r q M2 => r = q ∧ Inv M2) hi (fun _ _ h => ⟨rfl, h⟩))) yX9_handed_k ml_L_88 (rcv8 (by decide) (by decide +kernel)) rfl rfl (by decide) (by decide) dL_law_613 (fun r1 M1 h1 => ?_)
  refine v_aload_n C 1 rfl dL_law_616 ?_
  refine v_aload_n C 3 rfl dL_law_617 ?_
  refine v_iload_n C 0 rfl dL_law_618 ?_
  refine v_kc C (1) (by decide) dL_law_619 ?_
  refine v_iadd C dL_law_620 ?_
  rw [sa1 k]
  refine v_sld C hX (inb (by omega) (by omega)) dL_law_621 ?_
  rw [cl (show 4 * k + 1 < 1000000 by omega)]
  refine v_aload_n C 3 rfl dL_law_622 ?_
  refine v_iload_n C 0 rfl dL_law_623 ?_
  refine v_kc C (2) (by decide) dL_law_624 ?_
  refine v_iadd C dL_law_625 ?_
  rw [sa2 k]
  refine v_sld C hX (inb (by omega) (by omega)) dL_law_626 ?_
  rw [cl (show 4 * k + 2 < 1000000 by omega)]
  refine v_callI C (k := 211) [.int r1] (ct_X10_handed w _ (xs (4 * k + 1)) (xs (4 * k + 2)) M1 _ h1) yX10_handed_k ml_L_91 (rcv9 (by decide) (by decide +kernel)) rfl rfl (by simp [Value.category]) (by decide) dL_law_627 (fun q M2 h2 => ?_)
  exact v_icmp_eq C 898 rfl dL_law_630 (fun _ => kk M2 h2.2) (fun z => absurd h2.1 z)
theorem lc_19 {w : Wx} {G : Gx} {b L k : Nat} {xs : Nat → Int32} {M : Mem} (C : Cx w G cL_law RL 10 342 4) (hX : LX w G b L xs) (hk : 4 * k + 4 ≤ L) (hL : L ≤ 256) (hi : Inv M) (kk : ∀ M2, Inv M2 → V w G 898 (lvk w b k) [] M2) : V w G 635 (lvk w b k) [] M := by
  refine v_aload_n C 2 rfl dL_law_635 ?_
  refine v_aload_n C 3 rfl dL_law_636 ?_
  refine v_iload_n C 0 rfl dL_law_637 ?_
  refine v_kc C (1) (by decide) dL_law_638 ?_
  refine v_iadd C dL_law_639 ?_
  rw [sa1 k]
  refine v_sld C hX (inb (by omega) (by omega)) dL_law_640 ?_
  rw [cl (show 4 * k + 1 < 1000000 by omega)]
  refine v_callI C (k := 0) [] (ct_X9_meets w _ (xs (4 * k + 1)) M _ (cl_meets (P := fun r q M2 => r = q ∧ Inv M2) hi (fun _ _ h => ⟨rfl, h⟩))) yX9_meets_k ml_L_92 (rcv8 (by decide) (by decide +kernel)) rfl rfl (by decide) (by decide) dL_law_641 (fun r1 M1 h1 => ?_)
  refine v_aload_n C 1 rfl dL_law_644 ?_
  refine v_aload_n C 3 rfl dL_law_645 ?_
  refine v_iload_n C 0 rfl dL_law_646 ?_
  refine v_kc C (1) (by decide) dL_law_647 ?_
  refine v_iadd C dL_law_648 ?_
  rw [sa1 k]
  refine v_sld C hX (inb (by omega) (by omega)) dL_law_649 ?_
  rw [cl (show 4 * k + 1 < 1000000 by omega)]
  refine v_callI C (k := 211) [.int r1] (ct_X10_meets w _ (xs (4 * k + 1)) M1 _ h1) yX10_meets_k ml_L_95 (rcv9 (by decide) (by decide +kernel)) rfl rfl (by simp [Value.category]) (by decide) dL_law_650 (fun q M2 h2 => ?_)
  exact v_icmp_eq C 898 rfl dL_law_653 (fun _ => kk M2 h2.2) (fun z => absurd h2.1 z)
theorem lc_20 {w : Wx} {G : Gx} {b L k : Nat} {xs : Nat → Int32} {M : Mem} (C : Cx w G cL_law RL 10 342 4) (hX : LX w G b L xs) (hk : 4 * k + 4 ≤ L) (hL : L ≤ 256) (hi : Inv M) (kk : ∀ M2, Inv M2 → V w G 898 (lvk w b k) [] M2) : V w G 658 (lvk w b k) [] M := by
  refine v_aload_n C 2 rfl dL_law_658 ?_
  refine v_aload_n C 3 rfl dL_law_659 ?_
  refine v_iload_n C 0 rfl dL_law_660 ?_
  refine v_kc C (1) (by decide) dL_law_661 ?_
  refine v_iadd C dL_law_662 ?_
  rw [sa1 k]
  refine v_sld C hX (inb (by omega) (by omega)) dL_law_663 ?_
  rw [cl (show 4 * k + 1 < 1000000 by omega)]
  refine v_callI C (k := 0) [] (ct_X9_asked w _ (xs (4 * k + 1)) M _ (cl_asked (P := fun r q M2 => r = q ∧ Inv M2) hi (fun _ _ h => ⟨rfl, h⟩))) yX9_asked_k ml_L_96 (rcv8 (by decide) (by decide +kernel)) rfl rfl (by decide) (by decide) dL_law_664 (fun r1 M1 h1 => ?_)
  refine v_aload_n C 1 rfl dL_law_667 ?_
  refine v_aload_n C 3 rfl dL_law_668 ?_
  refine v_iload_n C 0 rfl dL_law_669 ?_
  refine v_kc C (1) (by decide) dL_law_670 ?_
  refine v_iadd C dL_law_671 ?_
  rw [sa1 k]
  refine v_sld C hX (inb (by omega) (by omega)) dL_law_672 ?_
  rw [cl (show 4 * k + 1 < 1000000 by omega)]
  refine v_callI C (k := 211) [.int r1] (ct_X10_asked w _ (xs (4 * k + 1)) M1 _ h1) yX10_asked_k ml_L_99 (rcv9 (by decide) (by decide +kernel)) rfl rfl (by simp [Value.category]) (by decide) dL_law_673 (fun q M2 h2 => ?_)
  exact v_icmp_eq C 898 rfl dL_law_676 (fun _ => kk M2 h2.2) (fun z => absurd h2.1 z)
theorem lc_21 {w : Wx} {G : Gx} {b L k : Nat} {xs : Nat → Int32} {M : Mem} (C : Cx w G cL_law RL 10 342 4) (hX : LX w G b L xs) (hk : 4 * k + 4 ≤ L) (hL : L ≤ 256) (hi : Inv M) (kk : ∀ M2, Inv M2 → V w G 898 (lvk w b k) [] M2) : V w G 681 (lvk w b k) [] M := by
  refine v_aload_n C 2 rfl dL_law_681 ?_
  refine v_aload_n C 3 rfl dL_law_682 ?_
  refine v_iload_n C 0 rfl dL_law_683 ?_
  refine v_kc C (1) (by decide) dL_law_684 ?_
  refine v_iadd C dL_law_685 ?_
  rw [sa1 k]
  refine v_sld C hX (inb (by omega) (by omega)) dL_law_686 ?_
  rw [cl (show 4 * k + 1 < 1000000 by omega)]
  refine v_aload_n C 3 rfl dL_law_687 ?_
  refine v_iload_n C 0 rfl dL_law_688 ?_
  refine v_kc C (2) (by decide) dL_law_689 ?_
  refine v_iadd C dL_law_690 ?_
  rw [sa2 k]
  refine v_sld C hX (inb (by omega) (by omega)) dL_law_691 ?_
  rw [cl (show 4 * k + 2 < 1000000 by omega)]
  refine v_aload_n C 3 rfl dL_law_692 ?_
  refine v_iload_n C 0 rfl dL_law_693 ?_
  refine v_kc C (3) (by decide) dL_law_694 ?_
  refine v_iadd C dL_law_695 ?_
  rw [sa3 k]
  refine v_sld C hX (inb (by omega) (by omega)) dL_law_696 ?_
  rw [cl (show 4 * k + 3 < 1000000 by omega)]
  refine v_callI C (k := 0) [] (ct_X9_see w _ (xs (4 * k + 1)) (xs (4 * k + 2)) (xs (4 * k + 3)) M _ (cl_see (P := fun r q M2 => r = q ∧ Inv M2) hi (fun _ _ h => ⟨rfl, h⟩))) yX9_see_k ml_L_100 (rcv8 (by decide) (by decide +kernel)) rfl rfl (by decide) (by decide) dL_law_697 (fun r1 M1 h1 => ?_)
  refine v_aload_n C 1 rfl dL_law_700 ?_
  refine v_aload_n C 3 rfl dL_law_701 ?_
  refine v_iload_n C 0 rfl dL_law_702 ?_
  refine v_kc C (1) (by decide) dL_law_703 ?_
  refine v_iadd C dL_law_704 ?_
  rw [sa1 k]
  refine v_sld C hX (inb (by omega) (by omega)) dL_law_705 ?_
  rw [cl (show 4 * k + 1 < 1000000 by omega)]
  refine v_aload_n C 3 rfl dL_law_706 ?_
  refine v_iload_n C 0 rfl dL_law_707 ?_
  refine v_kc C (2) (by decide) dL_law_708 ?_
  refine v_iadd C dL_law_709 ?_
  rw [sa2 k]
  refine v_sld C hX (inb (by omega) (by omega)) dL_law_710 ?_
  rw [cl (show 4 * k + 2 < 1000000 by omega)]
  refine v_aload_n C 3 rfl dL_law_711 ?_
  refine v_iload_n C 0 rfl dL_law_712 ?_
  refine v_kc C (3) (by decide) dL_law_713 ?_
  refine v_iadd C dL_law_714 ?_
  rw [sa3 k]
  refine v_sld C hX (inb (by omega) (by omega)) dL_law_715 ?_
  rw [cl (show 4 * k + 3 < 1000000 by omega)]
  refine v_callI C (k := 211) [.int r1] (ct_X10_see w _ (xs (4 * k + 1)) (xs (4 * k + 2)) (xs (4 * k + 3)) M1 _ h1) yX10_see_k ml_L_104 (rcv9 (by decide) (by decide +kernel)) rfl rfl (by simp [Value.category]) (by decide) dL_law_716 (fun q M2 h2 => ?_)
  exact v_icmp_eq C 898 rfl dL_law_719 (fun _ => kk M2 h2.2) (fun z => absurd h2.1 z)
theorem lc_22 {w : Wx} {G : Gx} {b L k : Nat} {xs : Nat → Int32} {M : Mem} (C : Cx w G cL_law RL 10 342 4) (hX : LX w G b L xs) (hk : 4 * k + 4 ≤ L) (hL : L ≤ 256) (hi : Inv M) (kk : ∀ M2, Inv M2 → V w G 898 (lvk w b k) [] M2) : V w G 724 (lvk w b k) [] M := by
  refine v_aload_n C 2 rfl dL_law_724 ?_
  refine v_aload_n C 3 rfl dL_law_725 ?_
  refine v_iload_n C 0 rfl dL_law_726 ?_
  refine v_kc C (1) (by decide) dL_law_727 ?_
  refine v_iadd C dL_law_728 ?_
  rw [sa1 k]
  refine v_sld C hX (inb (by omega) (by omega)) dL_law_729 ?_
  rw [cl (show 4 * k + 1 < 1000000 by omega)]
  refine v_callI C (k := 0) [] (ct_X9_whom w _ (xs (4 * k + 1)) M _ (cl_whom (P := fun r q M2 => r = q ∧ Inv M2) hi (fun _ _ h => ⟨rfl, h⟩))) yX9_whom_k ml_L_105 (rcv8 (by decide) (by decide +kernel)) rfl rfl (by decide) (by decide) dL_law_730 (fun r1 M1 h1 => ?_)
  refine v_aload_n C 1 rfl dL_law_733 ?_
  refine v_aload_n C 3 rfl dL_law_734 ?_
  refine v_iload_n C 0 rfl dL_law_735 ?_
  refine v_kc C (1) (by decide) dL_law_736 ?_
  refine v_iadd C dL_law_737 ?_
  rw [sa1 k]
  refine v_sld C hX (inb (by omega) (by omega)) dL_law_738 ?_
  rw [cl (show 4 * k + 1 < 1000000 by omega)]
  refine v_callI C (k := 211) [.int r1] (ct_X10_whom w _ (xs (4 * k + 1)) M1 _ h1) yX10_whom_k ml_L_108 (rcv9 (by decide) (by decide +kernel)) rfl rfl (by simp [Value.category]) (by decide) dL_law_739 (fun q M2 h2 => ?_)
  exact v_icmp_eq C 898 rfl dL_law_742 (fun _ => kk M2 h2.2) (fun z => absurd h2.1 z)
theorem lc_23 {w : Wx} {G : Gx} {b L k : Nat} {xs : Nat → Int32} {M : Mem} (C : Cx w G cL_law RL 10 342 4) (hX : LX w G b L xs) (hk : 4 * k + 4 ≤ L) (hL : L ≤ 256) (hi : Inv M) (kk : ∀ M2, Inv M2 → V w G 898 (lvk w b k) [] M2) : V w G 747 (lvk w b k) [] M := by
  refine v_aload_n C 2 rfl dL_law_747 ?_
  refine v_aload_n C 3 rfl dL_law_748 ?_
  refine v_iload_n C 0 rfl dL_law_749 ?_
  refine v_kc C (1) (by decide) dL_law_750 ?_
  refine v_iadd C dL_law_751 ?_
  rw [sa1 k]
  refine v_sld C hX (inb (by omega) (by omega)) dL_law_752 ?_
  rw [cl (show 4 * k + 1 < 1000000 by omega)]
  refine v_callI C (k := 0) [] (ct_X9_look w _ (xs (4 * k + 1)) M _ (cl_look (P := fun r q M2 => r = q ∧ Inv M2) hi (fun _ _ h => ⟨rfl, h⟩))) yX9_look_k ml_L_109 (rcv8 (by decide) (by decide +kernel)) rfl rfl (by decide) (by decide) dL_law_753 (fun r1 M1 h1 => ?_)
  refine v_aload_n C 1 rfl dL_law_756 ?_
  refine v_aload_n C 3 rfl dL_law_757 ?_
  refine v_iload_n C 0 rfl dL_law_758 ?_
  refine v_kc C (1) (by decide) dL_law_759 ?_
  refine v_iadd C dL_law_760 ?_
  rw [sa1 k]
  refine v_sld C hX (inb (by omega) (by omega)) dL_law_761 ?_
  rw [cl (show 4 * k + 1 < 1000000 by omega)]
  refine v_callI C (k := 211) [.int r1] (ct_X10_look w _ (xs (4 * k + 1)) M1 _ h1) yX10_look_k ml_L_112 (rcv9 (by decide) (by decide +kernel)) rfl rfl (by simp [Value.category]) (by decide) dL_law_762 (fun q M2 h2 => ?_)
  exact v_icmp_eq C 898 rfl dL_law_765 (fun _ => kk M2 h2.2) (fun z => absurd h2.1 z)
theorem lc_24 {w : Wx} {G : Gx} {b L k : Nat} {xs : Nat → Int32} {M : Mem} (C : Cx w G cL_law RL 10 342 4) (hX : LX w G b L xs) (hk : 4 * k + 4 ≤ L) (hL : L ≤ 256) (hi : Inv M) (kk : ∀ M2, Inv M2 → V w G 898 (lvk w b k) [] M2) : V w G 770 (lvk w b k) [] M := by
  refine v_aload_n C 2 rfl dL_law_770 ?_
  refine v_aload_n C 3 rfl dL_law_771 ?_
  refine v_iload_n C 0 rfl dL_law_772 ?_
  refine v_kc C (1) (by decide) dL_law_773 ?_
  refine v_iadd C dL_law_774 ?_
  rw [sa1 k]
  refine v_sld C hX (inb (by omega) (by omega)) dL_law_775 ?_
  rw [cl (show 4 * k + 1 < 1000000 by omega)]
  refine v_aload_n C 3 rfl dL_law_776 ?_
  refine v_iload_n C 0 rfl dL_law_777 ?_
  refine v_kc C (2) (by decide) dL_law_778 ?_
  refine v_iadd C dL_law_779 ?_
  rw [sa2 k]
  refine v_sld C hX (inb (by omega) (by omega)) dL_law_780 ?_
  rw [cl (show 4 * k + 2 < 1000000 by omega)]
  refine v_callI C (k := 0) [] (ct_X9_write w _ (xs (4 * k + 1)) (xs (4 * k + 2)) M _ (cl_write (P := fun r q M2 => r = q ∧ Inv M2) hi (fun _ _ h => ⟨rfl, h⟩))) yX9_write_k ml_L_113 (rcv8 (by decide) (by decide +kernel)) rfl rfl (by decide) (by decide) dL_law_781 (fun r1 M1 h1 => ?_)
  refine v_aload_n C 1 rfl dL_law_784 ?_
  refine v_aload_n C 3 rfl dL_law_785 ?_
  refine v_iload_n C 0 rfl dL_law_786 ?_
  refine v_kc C (1) (by decide) dL_law_787 ?_
  refine v_iadd C dL_law_788 ?_
  rw [sa1 k]
  refine v_sld C hX (inb (by omega) (by omega)) dL_law_789 ?_
  rw [cl (show 4 * k + 1 < 1000000 by omega)]
  refine v_aload_n C 3 rfl dL_law_790 ?_
  refine v_iload_n C 0 rfl dL_law_791 ?_
  refine v_kc C (2) (by decide) dL_law_792 ?_
  refine v_iadd C dL_law_793 ?_
  rw [sa2 k]
  refine v_sld C hX (inb (by omega) (by omega)) dL_law_794 ?_
  rw [cl (show 4 * k + 2 < 1000000 by omega)]
  refine v_callI C (k := 211) [.int r1] (ct_X10_write w _ (xs (4 * k + 1)) (xs (4 * k + 2)) M1 _ h1) yX10_write_k ml_L_116 (rcv9 (by decide) (by decide +kernel)) rfl rfl (by simp [Value.category]) (by decide) dL_law_795 (fun q M2 h2 => ?_)
  exact v_icmp_eq C 898 rfl dL_law_798 (fun _ => kk M2 h2.2) (fun z => absurd h2.1 z)
theorem lc_25 {w : Wx} {G : Gx} {b L k : Nat} {xs : Nat → Int32} {M : Mem} (C : Cx w G cL_law RL 10 342 4) (hX : LX w G b L xs) (hk : 4 * k + 4 ≤ L) (hL : L ≤ 256) (hi : Inv M) (kk : ∀ M2, Inv M2 → V w G 898 (lvk w b k) [] M2) : V w G 803 (lvk w b k) [] M := by
  refine v_aload_n C 2 rfl dL_law_803 ?_
  refine v_callI C (k := 0) [] (ct_X9_tear w _  M _ (cl_tear (P := fun r q M2 => r = q ∧ Inv M2) hi (fun _ _ h => ⟨rfl, h⟩))) yX9_tear_k ml_L_117 (rcv8 (by decide) (by decide +kernel)) rfl rfl (by decide) (by decide) dL_law_804 (fun r1 M1 h1 => ?_)
  refine v_aload_n C 1 rfl dL_law_807 ?_
  refine v_callI C (k := 211) [.int r1] (ct_X10_tear w _  M1 _ h1) yX10_tear_k ml_L_120 (rcv9 (by decide) (by decide +kernel)) rfl rfl (by simp [Value.category]) (by decide) dL_law_808 (fun q M2 h2 => ?_)
  exact v_icmp_eq C 898 rfl dL_law_811 (fun _ => kk M2 h2.2) (fun z => absurd h2.1 z)
theorem lc_26 {w : Wx} {G : Gx} {b L k : Nat} {xs : Nat → Int32} {M : Mem} (C : Cx w G cL_law RL 10 342 4) (hX : LX w G b L xs) (hk : 4 * k + 4 ≤ L) (hL : L ≤ 256) (hi : Inv M) (kk : ∀ M2, Inv M2 → V w G 898 (lvk w b k) [] M2) : V w G 816 (lvk w b k) [] M := by
  refine v_aload_n C 2 rfl dL_law_816 ?_
  refine v_callI C (k := 0) [] (ct_X9_judge w _  M _ (cl_judge (P := fun r q M2 => r = q ∧ Inv M2) hi (fun _ _ h => ⟨rfl, h⟩))) yX9_judge_k ml_L_121 (rcv8 (by decide) (by decide +kernel)) rfl rfl (by decide) (by decide) dL_law_817 (fun r1 M1 h1 => ?_)
  refine v_aload_n C 1 rfl dL_law_820 ?_
  refine v_callI C (k := 211) [.int r1] (ct_X10_judge w _  M1 _ h1) yX10_judge_k ml_L_124 (rcv9 (by decide) (by decide +kernel)) rfl rfl (by simp [Value.category]) (by decide) dL_law_821 (fun q M2 h2 => ?_)
  exact v_icmp_eq C 898 rfl dL_law_824 (fun _ => kk M2 h2.2) (fun z => absurd h2.1 z)
theorem lc_27 {w : Wx} {G : Gx} {b L k : Nat} {xs : Nat → Int32} {M : Mem} (C : Cx w G cL_law RL 10 342 4) (hX : LX w G b L xs) (hk : 4 * k + 4 ≤ L) (hL : L ≤ 256) (hi : Inv M) (kk : ∀ M2, Inv M2 → V w G 898 (lvk w b k) [] M2) : V w G 829 (lvk w b k) [] M := by
  refine v_aload_n C 2 rfl dL_law_829 ?_
  refine v_aload_n C 3 rfl dL_law_830 ?_
  refine v_iload_n C 0 rfl dL_law_831 ?_
  refine v_kc C (1) (by decide) dL_law_832 ?_
  refine v_iadd C dL_law_833 ?_
  rw [sa1 k]
  refine v_sld C hX (inb (by omega) (by omega)) dL_law_834 ?_
  rw [cl (show 4 * k + 1 < 1000000 by omega)]
  refine v_callI C (k := 0) [] (ct_X9_seed w _ (xs (4 * k + 1)) M _ (cl_seed (P := fun r q M2 => r = q ∧ Inv M2) hi (fun _ _ h => ⟨rfl, h⟩))) yX9_seed_k ml_L_125 (rcv8 (by decide) (by decide +kernel)) rfl rfl (by decide) (by decide) dL_law_835 (fun r1 M1 h1 => ?_)
  refine v_aload_n C 1 rfl dL_law_838 ?_
  refine v_aload_n C 3 rfl dL_law_839 ?_
  refine v_iload_n C 0 rfl dL_law_840 ?_
  refine v_kc C (1) (by decide) dL_law_841 ?_
  refine v_iadd C dL_law_842 ?_
  rw [sa1 k]
  refine v_sld C hX (inb (by omega) (by omega)) dL_law_843 ?_
  rw [cl (show 4 * k + 1 < 1000000 by omega)]
  refine v_callI C (k := 211) [.int r1] (ct_X10_seed w _ (xs (4 * k + 1)) M1 _ h1) yX10_seed_k ml_L_128 (rcv9 (by decide) (by decide +kernel)) rfl rfl (by simp [Value.category]) (by decide) dL_law_844 (fun q M2 h2 => ?_)
  exact v_icmp_eq C 898 rfl dL_law_847 (fun _ => kk M2 h2.2) (fun z => absurd h2.1 z)
theorem lc_28 {w : Wx} {G : Gx} {b L k : Nat} {xs : Nat → Int32} {M : Mem} (C : Cx w G cL_law RL 10 342 4) (hX : LX w G b L xs) (hk : 4 * k + 4 ≤ L) (hL : L ≤ 256) (hi : Inv M) (kk : ∀ M2, Inv M2 → V w G 898 (lvk w b k) [] M2) : V w G 852 (lvk w b k) [] M := by
  refine v_aload_n C 2 rfl dL_law_852 ?_
  refine v_aload_n C 3 rfl dL_law_853 ?_
  refine v_iload_n C 0 rfl dL_law_854 ?_
  refine v_kc C (1) (by decide) dL_law_855 ?_
  refine v_iadd C dL_law_856 ?_
  rw [sa1 k]
  refine v_sld C hX (inb (by omega) (by omega)) dL_law_857 ?_
  rw [cl (show 4 * k + 1 < 1000000 by omega)]
  refine v_callI C (k := 0) [] (ct_X9_keep w _ (xs (4 * k + 1)) M _ (cl_keep (P := fun r q M2 => r = q ∧ Inv M2) hi (fun _ _ h => ⟨rfl, h⟩))) yX9_keep_k ml_L_129 (rcv8 (by decide) (by decide +kernel)) rfl rfl (by decide) (by decide) dL_law_858 (fun r1 M1 h1 => ?_)
  refine v_aload_n C 1 rfl dL_law_861 ?_
  refine v_aload_n C 3 rfl dL_law_862 ?_
  refine v_iload_n C 0 rfl dL_law_863 ?_
  refine v_kc C (1) (by decide) dL_law_864 ?_
  refine v_iadd C dL_law_865 ?_
  rw [sa1 k]
  refine v_sld C hX (inb (by omega) (by omega)) dL_law_866 ?_
  rw [cl (show 4 * k + 1 < 1000000 by omega)]
  refine v_callI C (k := 211) [.int r1] (ct_X10_keep w _ (xs (4 * k + 1)) M1 _ h1) yX10_keep_k ml_L_132 (rcv9 (by decide) (by decide +kernel)) rfl rfl (by simp [Value.category]) (by decide) dL_law_867 (fun q M2 h2 => ?_)
  exact v_icmp_eq C 898 rfl dL_law_870 (fun _ => kk M2 h2.2) (fun z => absurd h2.1 z)
theorem lc_29 {w : Wx} {G : Gx} {b L k : Nat} {xs : Nat → Int32} {M : Mem} (C : Cx w G cL_law RL 10 342 4) (hX : LX w G b L xs) (hk : 4 * k + 4 ≤ L) (hL : L ≤ 256) (hi : Inv M) (kk : ∀ M2, Inv M2 → V w G 898 (lvk w b k) [] M2) : V w G 875 (lvk w b k) [] M := by
  refine v_aload_n C 2 rfl dL_law_875 ?_
  refine v_aload_n C 3 rfl dL_law_876 ?_
  refine v_iload_n C 0 rfl dL_law_877 ?_
  refine v_kc C (1) (by decide) dL_law_878 ?_
  refine v_iadd C dL_law_879 ?_
  rw [sa1 k]
  refine v_sld C hX (inb (by omega) (by omega)) dL_law_880 ?_
  rw [cl (show 4 * k + 1 < 1000000 by omega)]
  refine v_callI C (k := 0) [] (ct_X9_goBack w _ (xs (4 * k + 1)) M _ (cl_goBack (P := fun r q M2 => r = q ∧ Inv M2) hi (fun _ _ h => ⟨rfl, h⟩))) yX9_goBack_k ml_L_133 (rcv8 (by decide) (by decide +kernel)) rfl rfl (by decide) (by decide) dL_law_881 (fun r1 M1 h1 => ?_)
  refine v_aload_n C 1 rfl dL_law_884 ?_
  refine v_aload_n C 3 rfl dL_law_885 ?_
  refine v_iload_n C 0 rfl dL_law_886 ?_
  refine v_kc C (1) (by decide) dL_law_887 ?_
  refine v_iadd C dL_law_888 ?_
  rw [sa1 k]
  refine v_sld C hX (inb (by omega) (by omega)) dL_law_889 ?_
  rw [cl (show 4 * k + 1 < 1000000 by omega)]
  refine v_callI C (k := 211) [.int r1] (ct_X10_goBack w _ (xs (4 * k + 1)) M1 _ h1) yX10_goBack_k ml_L_136 (rcv9 (by decide) (by decide +kernel)) rfl rfl (by simp [Value.category]) (by decide) dL_law_890 (fun q M2 h2 => ?_)
  exact v_icmp_eq C 898 rfl dL_law_893 (fun _ => kk M2 h2.2) (fun z => absurd h2.1 z)
