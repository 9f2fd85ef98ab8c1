-- the law's 32 cases
def sdv (x y : Int32) : Int64 := (x.toInt64 <<< ((32 : Int32).toInt64 &&& 63)) ||| (y.toInt64 &&& 4294967295)
theorem lg_self (r : Int64) : lg_cmp r r = 0 := by
  unfold lg_cmp
  rw [if_neg (fun z => absurd (Int64.lt_iff_toInt_lt.mp z) (by omega)), if_pos rfl]
section
variable {p : Program} {l : Launch} {e : Env} {s : State} {m : MethodId} {below : List Frame} {meth : Method} {c : Code} {Q : State → Prop} {G : GG} {h : PH} {b L : Nat} {xs : Nat → Int32} {ls : Array Slot}
set_option maxHeartbeats 4000000 in
theorem lk_0 (C : lc p s m meth c b L xs G) {i B : Nat} (hi : i + 4 ≤ L) (hL : L ≤ 2048) (hB : B < 2 ^ 27) (hI : INV B h) (hl : lv_has ls 4 [(3, .int (nI i)), (0, .ref b), (1, .ref (G.2.2.2.2 0)), (2, .ref (G.2.2.2.2 110))]) (nxt : ∀ h2 : PH, INV (B + 99) h2 → WL p l e s m b below meth c G h2 Q (F0 m 1027 ls [])) : WL p l e s m b below meth c G h Q (F0 m 176 ls []) := by
  obtain ⟨r, h1, h2, e1, e2, hI2⟩ := op_write (xs (i + 1)) B h hB hI
  refine l_aload C dL_law_176 rfl (lv_at hl 2 rfl) ?_
  refine l_arg (j := 1) C (by omega) hL (lv_at hl 1 rfl) (lv_at hl 0 rfl) (by decide) dL_law_177 dL_law_178 dL_law_179 dL_law_180 dL_law_181 ?_
  refine l_call (k := 0) (n := 1) (As := [.int (xs (i + 1))]) C ⟨w_co_X4_write, w_im_X4_write, w_se_X4_write, w_in_X4, by decide +kernel, by decide⟩ w_ml_L_13 (c_X4_write l G e1) kd_0 rfl (by decide) (ce_3 kd_0) (by decide) hl.1 rfl rfl (Nat.le_of_ble_eq_true rfl) dL_law_182 ?_
  refine l_aload C dL_law_185 rfl (lv_at hl 3 rfl) ?_
  refine l_arg (j := 1) C (by omega) hL (lv_at hl 1 rfl) (lv_at hl 0 rfl) (by decide) dL_law_186 dL_law_187 dL_law_188 dL_law_189 dL_law_190 ?_
  refine l_call (k := 110) (n := 1) (As := [.int (xs (i + 1))]) C ⟨w_co_X5_write, w_im_X5_write, w_se_X5_write, w_in_X5, by decide +kernel, by decide⟩ w_ml_L_17 (c_X5_write l G e2) kd_110 rfl (by decide) (ce_4 kd_110) (by decide) hl.1 rfl rfl (Nat.le_of_ble_eq_true rfl) dL_law_191 ?_
  exact l_iceq (tgt := 1027) C dL_law_194 (by decide) (nxt h2 hI2)
set_option maxHeartbeats 4000000 in
theorem lk_1 (C : lc p s m meth c b L xs G) {i B : Nat} (hi : i + 4 ≤ L) (hL : L ≤ 2048) (hB : B < 2 ^ 27) (hI : INV B h) (hl : lv_has ls 4 [(3, .int (nI i)), (0, .ref b), (1, .ref (G.2.2.2.2 0)), (2, .ref (G.2.2.2.2 110))]) (nxt : ∀ h2 : PH, INV (B + 99) h2 → WL p l e s m b below meth c G h2 Q (F0 m 1027 ls [])) : WL p l e s m b below meth c G h Q (F0 m 199 ls []) := by
  obtain ⟨r, h1, h2, e1, e2, hI2⟩ := op_wipe  B h hB hI
  refine l_aload C dL_law_199 rfl (lv_at hl 2 rfl) ?_
  refine l_call (k := 0) (n := 0) (As := []) C ⟨w_co_X4_wipe, w_im_X4_wipe, w_se_X4_wipe, w_in_X4, by decide +kernel, by decide⟩ w_ml_L_18 (c_X4_wipe l G e1) kd_0 rfl (by decide) (ce_3 kd_0) (by decide) hl.1 rfl rfl (Nat.le_of_ble_eq_true rfl) dL_law_200 ?_
  refine l_aload C dL_law_203 rfl (lv_at hl 3 rfl) ?_
  refine l_call (k := 110) (n := 0) (As := []) C ⟨w_co_X5_wipe, w_im_X5_wipe, w_se_X5_wipe, w_in_X5, by decide +kernel, by decide⟩ w_ml_L_22 (c_X5_wipe l G e2) kd_110 rfl (by decide) (ce_4 kd_110) (by decide) hl.1 rfl rfl (Nat.le_of_ble_eq_true rfl) dL_law_204 ?_
  exact l_iceq (tgt := 1027) C dL_law_207 (by decide) (nxt h2 hI2)
set_option maxHeartbeats 4000000 in
theorem lk_2 (C : lc p s m meth c b L xs G) {i B : Nat} (hi : i + 4 ≤ L) (hL : L ≤ 2048) (hB : B < 2 ^ 27) (hI : INV B h) (hl : lv_has ls 4 [(3, .int (nI i)), (0, .ref b), (1, .ref (G.2.2.2.2 0)), (2, .ref (G.2.2.2.2 110))]) (nxt : ∀ h2 : PH, INV (B + 99) h2 → WL p l e s m b below meth c G h2 Q (F0 m 1027 ls [])) : WL p l e s m b below meth c G h Q (F0 m 212 ls []) := by
  obtain ⟨r, h1, h2, e1, e2, hI2⟩ := op_fault  B h hB hI
  refine l_aload C dL_law_212 rfl (lv_at hl 2 rfl) ?_
  refine l_call (k := 0) (n := 0) (As := []) C ⟨w_co_X4_fault, w_im_X4_fault, w_se_X4_fault, w_in_X4, by decide +kernel, by decide⟩ w_ml_L_23 (c_X4_fault l G e1) kd_0 rfl (by decide) (ce_3 kd_0) (by decide) hl.1 rfl rfl (Nat.le_of_ble_eq_true rfl) dL_law_213 ?_
  refine l_aload C dL_law_216 rfl (lv_at hl 3 rfl) ?_
  refine l_call (k := 110) (n := 0) (As := []) C ⟨w_co_X5_fault, w_im_X5_fault, w_se_X5_fault, w_in_X5, by decide +kernel, by decide⟩ w_ml_L_26 (c_X5_fault l G e2) kd_110 rfl (by decide) (ce_4 kd_110) (by decide) hl.1 rfl rfl (Nat.le_of_ble_eq_true rfl) dL_law_217 ?_
  exact l_iceq (tgt := 1027) C dL_law_220 (by decide) (nxt h2 hI2)
set_option maxHeartbeats 4000000 in
theorem lk_3 (C : lc p s m meth c b L xs G) {i B : Nat} (hi : i + 4 ≤ L) (hL : L ≤ 2048) (hB : B < 2 ^ 27) (hI : INV B h) (hl : lv_has ls 4 [(3, .int (nI i)), (0, .ref b), (1, .ref (G.2.2.2.2 0)), (2, .ref (G.2.2.2.2 110))]) (nxt : ∀ h2 : PH, INV (B + 99) h2 → WL p l e s m b below meth c G h2 Q (F0 m 1027 ls [])) : WL p l e s m b below meth c G h Q (F0 m 225 ls []) := by
  obtain ⟨r, h1, h2, e1, e2, hI2⟩ := op_line  B h hB hI
  refine l_aload C dL_law_225 rfl (lv_at hl 2 rfl) ?_
  refine l_call (k := 0) (n := 0) (As := []) C ⟨w_co_X4_line, w_im_X4_line, w_se_X4_line, w_in_X4, by decide +kernel, by decide⟩ w_ml_L_27 (c_X4_line l G e1) kd_0 rfl (by decide) (ce_3 kd_0) (by decide) hl.1 rfl rfl (Nat.le_of_ble_eq_true rfl) dL_law_226 ?_
  refine l_aload C dL_law_229 rfl (lv_at hl 3 rfl) ?_
  refine l_call (k := 110) (n := 0) (As := []) C ⟨w_co_X5_line, w_im_X5_line, w_se_X5_line, w_in_X5, by decide +kernel, by decide⟩ w_ml_L_30 (c_X5_line l G e2) kd_110 rfl (by decide) (ce_4 kd_110) (by decide) hl.1 rfl rfl (Nat.le_of_ble_eq_true rfl) dL_law_230 ?_
  exact l_iceq (tgt := 1027) C dL_law_233 (by decide) (nxt h2 hI2)
set_option maxHeartbeats 4000000 in
theorem lk_4 (C : lc p s m meth c b L xs G) {i B : Nat} (hi : i + 4 ≤ L) (hL : L ≤ 2048) (hB : B < 2 ^ 27) (hI : INV B h) (hl : lv_has ls 4 [(3, .int (nI i)), (0, .ref b), (1, .ref (G.2.2.2.2 0)), (2, .ref (G.2.2.2.2 110))]) (nxt : ∀ h2 : PH, INV (B + 99) h2 → WL p l e s m b below meth c G h2 Q (F0 m 1027 ls [])) : WL p l e s m b below meth c G h Q (F0 m 238 ls []) := by
  obtain ⟨r, h1, h2, e1, e2, hI2⟩ := op_about (xs (i + 1)) B h hB hI
  refine l_aload C dL_law_238 rfl (lv_at hl 2 rfl) ?_
  refine l_arg (j := 1) C (by omega) hL (lv_at hl 1 rfl) (lv_at hl 0 rfl) (by decide) dL_law_239 dL_law_240 dL_law_241 dL_law_242 dL_law_243 ?_
  refine l_call (k := 0) (n := 1) (As := [.int (xs (i + 1))]) C ⟨w_co_X4_about, w_im_X4_about, w_se_X4_about, w_in_X4, by decide +kernel, by decide⟩ w_ml_L_31 (c_X4_about l G e1) kd_0 rfl (by decide) (ce_3 kd_0) (by decide) hl.1 rfl rfl (Nat.le_of_ble_eq_true rfl) dL_law_244 ?_
  refine l_aload C dL_law_247 rfl (lv_at hl 3 rfl) ?_
  refine l_arg (j := 1) C (by omega) hL (lv_at hl 1 rfl) (lv_at hl 0 rfl) (by decide) dL_law_248 dL_law_249 dL_law_250 dL_law_251 dL_law_252 ?_
  refine l_call (k := 110) (n := 1) (As := [.int (xs (i + 1))]) C ⟨w_co_X5_about, w_im_X5_about, w_se_X5_about, w_in_X5, by decide +kernel, by decide⟩ w_ml_L_34 (c_X5_about l G e2) kd_110 rfl (by decide) (ce_4 kd_110) (by decide) hl.1 rfl rfl (Nat.le_of_ble_eq_true rfl) dL_law_253 ?_
  exact l_iceq (tgt := 1027) C dL_law_256 (by decide) (nxt h2 hI2)
set_option maxHeartbeats 4000000 in
theorem lk_5 (C : lc p s m meth c b L xs G) {i B : Nat} (hi : i + 4 ≤ L) (hL : L ≤ 2048) (hB : B < 2 ^ 27) (hI : INV B h) (hl : lv_has ls 4 [(3, .int (nI i)), (0, .ref b), (1, .ref (G.2.2.2.2 0)), (2, .ref (G.2.2.2.2 110))]) (nxt : ∀ h2 : PH, INV (B + 99) h2 → WL p l e s m b below meth c G h2 Q (F0 m 1027 ls [])) : WL p l e s m b below meth c G h Q (F0 m 261 ls []) := by
  obtain ⟨r, h1, h2, e1, e2, hI2⟩ := op_place (xs (i + 1)) B h hB hI
  refine l_aload C dL_law_261 rfl (lv_at hl 2 rfl) ?_
  refine l_arg (j := 1) C (by omega) hL (lv_at hl 1 rfl) (lv_at hl 0 rfl) (by decide) dL_law_262 dL_law_263 dL_law_264 dL_law_265 dL_law_266 ?_
  refine l_call (k := 0) (n := 1) (As := [.int (xs (i + 1))]) C ⟨w_co_X4_place, w_im_X4_place, w_se_X4_place, w_in_X4, by decide +kernel, by decide⟩ w_ml_L_35 (c_X4_place l G e1) kd_0 rfl (by decide) (ce_3 kd_0) (by decide) hl.1 rfl rfl (Nat.le_of_ble_eq_true rfl) dL_law_267 ?_
  refine l_aload C dL_law_270 rfl (lv_at hl 3 rfl) ?_
  refine l_arg (j := 1) C (by omega) hL (lv_at hl 1 rfl) (lv_at hl 0 rfl) (by decide) dL_law_271 dL_law_272 dL_law_273 dL_law_274 dL_law_275 ?_
  refine l_call (k := 110) (n := 1) (As := [.int (xs (i + 1))]) C ⟨w_co_X5_place, w_im_X5_place, w_se_X5_place, w_in_X5, by decide +kernel, by decide⟩ w_ml_L_38 (c_X5_place l G e2) kd_110 rfl (by decide) (ce_4 kd_110) (by decide) hl.1 rfl rfl (Nat.le_of_ble_eq_true rfl) dL_law_276 ?_
  exact l_iceq (tgt := 1027) C dL_law_279 (by decide) (nxt h2 hI2)
set_option maxHeartbeats 4000000 in
theorem lk_6 (C : lc p s m meth c b L xs G) {i B : Nat} (hi : i + 4 ≤ L) (hL : L ≤ 2048) (hB : B < 2 ^ 27) (hI : INV B h) (hl : lv_has ls 4 [(3, .int (nI i)), (0, .ref b), (1, .ref (G.2.2.2.2 0)), (2, .ref (G.2.2.2.2 110))]) (nxt : ∀ h2 : PH, INV (B + 99) h2 → WL p l e s m b below meth c G h2 Q (F0 m 1027 ls [])) : WL p l e s m b below meth c G h Q (F0 m 284 ls []) := by
  obtain ⟨r, h1, h2, e1, e2, hI2⟩ := op_cell (xs (i + 1)) (xs (i + 2)) B h hB hI
  refine l_aload C dL_law_284 rfl (lv_at hl 2 rfl) ?_
  refine l_arg (j := 1) C (by omega) hL (lv_at hl 1 rfl) (lv_at hl 0 rfl) (by decide) dL_law_285 dL_law_286 dL_law_287 dL_law_288 dL_law_289 ?_
  refine l_arg (j := 2) C (by omega) hL (lv_at hl 1 rfl) (lv_at hl 0 rfl) (by decide) dL_law_290 dL_law_291 dL_law_292 dL_law_293 dL_law_294 ?_
  refine l_call (k := 0) (n := 2) (As := [.int (xs (i + 1)), .int (xs (i + 2))]) C ⟨w_co_X4_cell, w_im_X4_cell, w_se_X4_cell, w_in_X4, by decide +kernel, by decide⟩ w_ml_L_39 (c_X4_cell l G e1) kd_0 rfl (by decide) (ce_3 kd_0) (by decide) hl.1 rfl rfl (Nat.le_of_ble_eq_true rfl) dL_law_295 ?_
  refine l_aload C dL_law_298 rfl (lv_at hl 3 rfl) ?_
  refine l_arg (j := 1) C (by omega) hL (lv_at hl 1 rfl) (lv_at hl 0 rfl) (by decide) dL_law_299 dL_law_300 dL_law_301 dL_law_302 dL_law_303 ?_
  refine l_arg (j := 2) C (by omega) hL (lv_at hl 1 rfl) (lv_at hl 0 rfl) (by decide) dL_law_304 dL_law_305 dL_law_306 dL_law_307 dL_law_308 ?_
  refine l_call (k := 110) (n := 2) (As := [.int (xs (i + 1)), .int (xs (i + 2))]) C ⟨w_co_X5_cell, w_im_X5_cell, w_se_X5_cell, w_in_X5, by decide +kernel, by decide⟩ w_ml_L_43 (c_X5_cell l G e2) kd_110 rfl (by decide) (ce_4 kd_110) (by decide) hl.1 rfl rfl (Nat.le_of_ble_eq_true rfl) dL_law_309 ?_
  exact l_iceq (tgt := 1027) C dL_law_312 (by decide) (nxt h2 hI2)
set_option maxHeartbeats 4000000 in
theorem lk_7 (C : lc p s m meth c b L xs G) {i B : Nat} (hi : i + 4 ≤ L) (hL : L ≤ 2048) (hB : B < 2 ^ 27) (hI : INV B h) (hl : lv_has ls 4 [(3, .int (nI i)), (0, .ref b), (1, .ref (G.2.2.2.2 0)), (2, .ref (G.2.2.2.2 110))]) (nxt : ∀ h2 : PH, INV (B + 99) h2 → WL p l e s m b below meth c G h2 Q (F0 m 1027 ls [])) : WL p l e s m b below meth c G h Q (F0 m 317 ls []) := by
  obtain ⟨r, h1, h2, e1, e2, hI2⟩ := op_valve (xs (i + 1)) (xs (i + 2)) B h hB hI
  refine l_aload C dL_law_317 rfl (lv_at hl 2 rfl) ?_
  refine l_arg (j := 1) C (by omega) hL (lv_at hl 1 rfl) (lv_at hl 0 rfl) (by decide) dL_law_318 dL_law_319 dL_law_320 dL_law_321 dL_law_322 ?_
  refine l_arg (j := 2) C (by omega) hL (lv_at hl 1 rfl) (lv_at hl 0 rfl) (by decide) dL_law_323 dL_law_324 dL_law_325 dL_law_326 dL_law_327 ?_
  refine l_call (k := 0) (n := 2) (As := [.int (xs (i + 1)), .int (xs (i + 2))]) C ⟨w_co_X4_valve, w_im_X4_valve, w_se_X4_valve, w_in_X4, by decide +kernel, by decide⟩ w_ml_L_44 (c_X4_valve l G e1) kd_0 rfl (by decide) (ce_3 kd_0) (by decide) hl.1 rfl rfl (Nat.le_of_ble_eq_true rfl) dL_law_328 ?_
  refine l_aload C dL_law_331 rfl (lv_at hl 3 rfl) ?_
  refine l_arg (j := 1) C (by omega) hL (lv_at hl 1 rfl) (lv_at hl 0 rfl) (by decide) dL_law_332 dL_law_333 dL_law_334 dL_law_335 dL_law_336 ?_
  refine l_arg (j := 2) C (by omega) hL (lv_at hl 1 rfl) (lv_at hl 0 rfl) (by decide) dL_law_337 dL_law_338 dL_law_339 dL_law_340 dL_law_341 ?_
  refine l_call (k := 110) (n := 2) (As := [.int (xs (i + 1)), .int (xs (i + 2))]) C ⟨w_co_X5_valve, w_im_X5_valve, w_se_X5_valve, w_in_X5, by decide +kernel, by decide⟩ w_ml_L_47 (c_X5_valve l G e2) kd_110 rfl (by decide) (ce_4 kd_110) (by decide) hl.1 rfl rfl (Nat.le_of_ble_eq_true rfl) dL_law_342 ?_
  exact l_iceq (tgt := 1027) C dL_law_345 (by decide) (nxt h2 hI2)
set_option maxHeartbeats 4000000 in
theorem lk_8 (C : lc p s m meth c b L xs G) {i B : Nat} (hi : i + 4 ≤ L) (hL : L ≤ 2048) (hB : B < 2 ^ 27) (hI : INV B h) (hl : lv_has ls 4 [(3, .int (nI i)), (0, .ref b), (1, .ref (G.2.2.2.2 0)), (2, .ref (G.2.2.2.2 110))]) (nxt : ∀ h2 : PH, INV (B + 99) h2 → WL p l e s m b below meth c G h2 Q (F0 m 1027 ls [])) : WL p l e s m b below meth c G h Q (F0 m 350 ls []) := by
  obtain ⟨r, h1, h2, e1, e2, hI2⟩ := op_queue (xs (i + 1)) B h hB hI
  refine l_aload C dL_law_350 rfl (lv_at hl 2 rfl) ?_
  refine l_arg (j := 1) C (by omega) hL (lv_at hl 1 rfl) (lv_at hl 0 rfl) (by decide) dL_law_351 dL_law_352 dL_law_353 dL_law_354 dL_law_355 ?_
  refine l_call (k := 0) (n := 1) (As := [.int (xs (i + 1))]) C ⟨w_co_X4_queue, w_im_X4_queue, w_se_X4_queue, w_in_X4, by decide +kernel, by decide⟩ w_ml_L_48 (c_X4_queue l G e1) kd_0 rfl (by decide) (ce_3 kd_0) (by decide) hl.1 rfl rfl (Nat.le_of_ble_eq_true rfl) dL_law_356 ?_
  refine l_aload C dL_law_359 rfl (lv_at hl 3 rfl) ?_
  refine l_arg (j := 1) C (by omega) hL (lv_at hl 1 rfl) (lv_at hl 0 rfl) (by decide) dL_law_360 dL_law_361 dL_law_362 dL_law_363 dL_law_364 ?_
  refine l_call (k := 110) (n := 1) (As := [.int (xs (i + 1))]) C ⟨w_co_X5_queue, w_im_X5_queue, w_se_X5_queue, w_in_X5, by decide +kernel, by decide⟩ w_ml_L_51 (c_X5_queue l G e2) kd_110 rfl (by decide) (ce_4 kd_110) (by decide) hl.1 rfl rfl (Nat.le_of_ble_eq_true rfl) dL_law_365 ?_
  exact l_iceq (tgt := 1027) C dL_law_368 (by decide) (nxt h2 hI2)
set_option maxHeartbeats 4000000 in
theorem lk_9 (C : lc p s m meth c b L xs G) {i B : Nat} (hi : i + 4 ≤ L) (hL : L ≤ 2048) (hB : B < 2 ^ 27) (hI : INV B h) (hl : lv_has ls 4 [(3, .int (nI i)), (0, .ref b), (1, .ref (G.2.2.2.2 0)), (2, .ref (G.2.2.2.2 110))]) (nxt : ∀ h2 : PH, INV (B + 99) h2 → WL p l e s m b below meth c G h2 Q (F0 m 1027 ls [])) : WL p l e s m b below meth c G h Q (F0 m 373 ls []) := by
  obtain ⟨r, h1, h2, e1, e2, hI2⟩ := op_step (xs (i + 1)) B h hB hI
  refine l_aload C dL_law_373 rfl (lv_at hl 2 rfl) ?_
  refine l_arg (j := 1) C (by omega) hL (lv_at hl 1 rfl) (lv_at hl 0 rfl) (by decide) dL_law_374 dL_law_375 dL_law_376 dL_law_377 dL_law_378 ?_
  refine l_call (k := 0) (n := 1) (As := [.int (xs (i + 1))]) C ⟨w_co_X4_step, w_im_X4_step, w_se_X4_step, w_in_X4, by decide +kernel, by decide⟩ w_ml_L_52 (c_X4_step l G e1) kd_0 rfl (by decide) (ce_3 kd_0) (by decide) hl.1 rfl rfl (Nat.le_of_ble_eq_true rfl) dL_law_379 ?_
  refine l_aload C dL_law_382 rfl (lv_at hl 3 rfl) ?_
  refine l_arg (j := 1) C (by omega) hL (lv_at hl 1 rfl) (lv_at hl 0 rfl) (by decide) dL_law_383 dL_law_384 dL_law_385 dL_law_386 dL_law_387 ?_
  refine l_call (k := 110) (n := 1) (As := [.int (xs (i + 1))]) C ⟨w_co_X5_step, w_im_X5_step, w_se_X5_step, w_in_X5, by decide +kernel, by decide⟩ w_ml_L_55 (c_X5_step l G e2) kd_110 rfl (by decide) (ce_4 kd_110) (by decide) hl.1 rfl rfl (Nat.le_of_ble_eq_true rfl) dL_law_388 ?_
  exact l_iceq (tgt := 1027) C dL_law_391 (by decide) (nxt h2 hI2)
set_option maxHeartbeats 4000000 in
theorem lk_10 (C : lc p s m meth c b L xs G) {i B : Nat} (hi : i + 4 ≤ L) (hL : L ≤ 2048) (hB : B < 2 ^ 27) (hI : INV B h) (hl : lv_has ls 4 [(3, .int (nI i)), (0, .ref b), (1, .ref (G.2.2.2.2 0)), (2, .ref (G.2.2.2.2 110))]) (nxt : ∀ h2 : PH, INV (B + 99) h2 → WL p l e s m b below meth c G h2 Q (F0 m 1027 ls [])) : WL p l e s m b below meth c G h Q (F0 m 396 ls []) := by
  obtain ⟨r, h1, h2, e1, e2, hI2⟩ := op_slip  B h hB hI
  refine l_aload C dL_law_396 rfl (lv_at hl 2 rfl) ?_
  refine l_call (k := 0) (n := 0) (As := []) C ⟨w_co_X4_slip, w_im_X4_slip, w_se_X4_slip, w_in_X4, by decide +kernel, by decide⟩ w_ml_L_56 (c_X4_slip l G e1) kd_0 rfl (by decide) (ce_3 kd_0) (by decide) hl.1 rfl rfl (Nat.le_of_ble_eq_true rfl) dL_law_397 ?_
  refine l_aload C dL_law_400 rfl (lv_at hl 3 rfl) ?_
  refine l_call (k := 110) (n := 0) (As := []) C ⟨w_co_X5_slip, w_im_X5_slip, w_se_X5_slip, w_in_X5, by decide +kernel, by decide⟩ w_ml_L_59 (c_X5_slip l G e2) kd_110 rfl (by decide) (ce_4 kd_110) (by decide) hl.1 rfl rfl (Nat.le_of_ble_eq_true rfl) dL_law_401 ?_
  exact l_iceq (tgt := 1027) C dL_law_404 (by decide) (nxt h2 hI2)
set_option maxHeartbeats 4000000 in
theorem lk_11 (C : lc p s m meth c b L xs G) {i B : Nat} (hi : i + 4 ≤ L) (hL : L ≤ 2048) (hB : B < 2 ^ 27) (hI : INV B h) (hl : lv_has ls 4 [(3, .int (nI i)), (0, .ref b), (1, .ref (G.2.2.2.2 0)), (2, .ref (G.2.2.2.2 110))]) (nxt : ∀ h2 : PH, INV (B + 99) h2 → WL p l e s m b below meth c G h2 Q (F0 m 1027 ls [])) : WL p l e s m b below meth c G h Q (F0 m 409 ls []) := by
  obtain ⟨r, h1, h2, e1, e2, hI2⟩ := op_jam  B h hB hI
  refine l_aload C dL_law_409 rfl (lv_at hl 2 rfl) ?_
  refine l_call (k := 0) (n := 0) (As := []) C ⟨w_co_X4_jam, w_im_X4_jam, w_se_X4_jam, w_in_X4, by decide +kernel, by decide⟩ w_ml_L_60 (c_X4_jam l G e1) kd_0 rfl (by decide) (ce_3 kd_0) (by decide) hl.1 rfl rfl (Nat.le_of_ble_eq_true rfl) dL_law_410 ?_
  refine l_aload C dL_law_413 rfl (lv_at hl 3 rfl) ?_
  refine l_call (k := 110) (n := 0) (As := []) C ⟨w_co_X5_jam, w_im_X5_jam, w_se_X5_jam, w_in_X5, by decide +kernel, by decide⟩ w_ml_L_63 (c_X5_jam l G e2) kd_110 rfl (by decide) (ce_4 kd_110) (by decide) hl.1 rfl rfl (Nat.le_of_ble_eq_true rfl) dL_law_414 ?_
  exact l_iceq (tgt := 1027) C dL_law_417 (by decide) (nxt h2 hI2)
set_option maxHeartbeats 4000000 in
theorem lk_12 (C : lc p s m meth c b L xs G) {i B : Nat} (hi : i + 4 ≤ L) (hL : L ≤ 2048) (hB : B < 2 ^ 27) (hI : INV B h) (hl : lv_has ls 4 [(3, .int (nI i)), (0, .ref b), (1, .ref (G.2.2.2.2 0)), (2, .ref (G.2.2.2.2 110))]) (nxt : ∀ h2 : PH, INV (B + 99) h2 → WL p l e s m b below meth c G h2 Q (F0 m 1027 ls [])) : WL p l e s m b below meth c G h Q (F0 m 422 ls []) := by
  obtain ⟨r, h1, h2, e1, e2, hI2⟩ := op_clear  B h hB hI
  refine l_aload C dL_law_422 rfl (lv_at hl 2 rfl) ?_
  refine l_call (k := 0) (n := 0) (As := []) C ⟨w_co_X4_clear, w_im_X4_clear, w_se_X4_clear, w_in_X4, by decide +kernel, by decide⟩ w_ml_L_64 (c_X4_clear l G e1) kd_0 rfl (by decide) (ce_3 kd_0) (by decide) hl.1 rfl rfl (Nat.le_of_ble_eq_true rfl) dL_law_423 ?_
  refine l_aload C dL_law_426 rfl (lv_at hl 3 rfl) ?_
  refine l_call (k := 110) (n := 0) (As := []) C ⟨w_co_X5_clear, w_im_X5_clear, w_se_X5_clear, w_in_X5, by decide +kernel, by decide⟩ w_ml_L_67 (c_X5_clear l G e2) kd_110 rfl (by decide) (ce_4 kd_110) (by decide) hl.1 rfl rfl (Nat.le_of_ble_eq_true rfl) dL_law_427 ?_
  exact l_iceq (tgt := 1027) C dL_law_430 (by decide) (nxt h2 hI2)
set_option maxHeartbeats 4000000 in
theorem lk_13 (C : lc p s m meth c b L xs G) {i B : Nat} (hi : i + 4 ≤ L) (hL : L ≤ 2048) (hB : B < 2 ^ 27) (hI : INV B h) (hl : lv_has ls 4 [(3, .int (nI i)), (0, .ref b), (1, .ref (G.2.2.2.2 0)), (2, .ref (G.2.2.2.2 110))]) (nxt : ∀ h2 : PH, INV (B + 99) h2 → WL p l e s m b below meth c G h2 Q (F0 m 1027 ls [])) : WL p l e s m b below meth c G h Q (F0 m 435 ls []) := by
  obtain ⟨r, h1, h2, e1, e2, hI2⟩ := op_restart  B h hB hI
  refine l_aload C dL_law_435 rfl (lv_at hl 2 rfl) ?_
  refine l_call (k := 0) (n := 0) (As := []) C ⟨w_co_X4_restart, w_im_X4_restart, w_se_X4_restart, w_in_X4, by decide +kernel, by decide⟩ w_ml_L_68 (c_X4_restart l G e1) kd_0 rfl (by decide) (ce_3 kd_0) (by decide) hl.1 rfl rfl (Nat.le_of_ble_eq_true rfl) dL_law_436 ?_
  refine l_aload C dL_law_439 rfl (lv_at hl 3 rfl) ?_
  refine l_call (k := 110) (n := 0) (As := []) C ⟨w_co_X5_restart, w_im_X5_restart, w_se_X5_restart, w_in_X5, by decide +kernel, by decide⟩ w_ml_L_71 (c_X5_restart l G e2) kd_110 rfl (by decide) (ce_4 kd_110) (by decide) hl.1 rfl rfl (Nat.le_of_ble_eq_true rfl) dL_law_440 ?_
  exact l_iceq (tgt := 1027) C dL_law_443 (by decide) (nxt h2 hI2)
set_option maxHeartbeats 4000000 in
theorem lk_14 (C : lc p s m meth c b L xs G) {i B : Nat} (hi : i + 4 ≤ L) (hL : L ≤ 2048) (hB : B < 2 ^ 27) (hI : INV B h) (hl : lv_has ls 4 [(3, .int (nI i)), (0, .ref b), (1, .ref (G.2.2.2.2 0)), (2, .ref (G.2.2.2.2 110))]) (nxt : ∀ h2 : PH, INV (B + 99) h2 → WL p l e s m b below meth c G h2 Q (F0 m 1027 ls [])) : WL p l e s m b below meth c G h Q (F0 m 448 ls []) := by
  obtain ⟨r, h1, h2, e1, e2, hI2⟩ := op_lay (bo (xs (i + 1))) (xs (i + 2)) B h hB hI
  refine l_aload C dL_law_448 rfl (lv_at hl 2 rfl) ?_
  refine l_arg (j := 1) C (by omega) hL (lv_at hl 1 rfl) (lv_at hl 0 rfl) (by decide) dL_law_449 dL_law_450 dL_law_451 dL_law_452 dL_law_453 ?_
  refine l_bool C dL_law_454 dL_law_457 dL_law_458 dL_law_461 ?_
  refine l_arg (j := 2) C (by omega) hL (lv_at hl 1 rfl) (lv_at hl 0 rfl) (by decide) dL_law_462 dL_law_463 dL_law_464 dL_law_465 dL_law_466 ?_
  refine l_call (k := 0) (n := 2) (As := [.int (bo (xs (i + 1))), .int (xs (i + 2))]) C ⟨w_co_X4_lay, w_im_X4_lay, w_se_X4_lay, w_in_X4, by decide +kernel, by decide⟩ w_ml_L_72 (c_X4_lay l G e1) kd_0 rfl (by decide) (ce_3 kd_0) (by decide) hl.1 rfl rfl (Nat.le_of_ble_eq_true rfl) dL_law_467 ?_
  refine l_aload C dL_law_470 rfl (lv_at hl 3 rfl) ?_
  refine l_arg (j := 1) C (by omega) hL (lv_at hl 1 rfl) (lv_at hl 0 rfl) (by decide) dL_law_471 dL_law_472 dL_law_473 dL_law_474 dL_law_475 ?_
  refine l_bool C dL_law_476 dL_law_479 dL_law_480 dL_law_483 ?_
  refine l_arg (j := 2) C (by omega) hL (lv_at hl 1 rfl) (lv_at hl 0 rfl) (by decide) dL_law_484 dL_law_485 dL_law_486 dL_law_487 dL_law_488 ?_
  refine l_call (k := 110) (n := 2) (As := [.int (bo (xs (i + 1))), .int (xs (i + 2))]) C ⟨w_co_X5_lay, w_im_X5_lay, w_se_X5_lay, w_in_X5, by decide +kernel, by decide⟩ w_ml_L_76 (c_X5_lay l G e2) kd_110 rfl (by decide) (ce_4 kd_110) (by decide) hl.1 rfl rfl (Nat.le_of_ble_eq_true rfl) dL_law_489 ?_
  exact l_iceq (tgt := 1027) C dL_law_492 (by decide) (nxt h2 hI2)
set_option maxHeartbeats 4000000 in
theorem lk_15 (C : lc p s m meth c b L xs G) {i B : Nat} (hi : i + 4 ≤ L) (hL : L ≤ 2048) (hB : B < 2 ^ 27) (hI : INV B h) (hl : lv_has ls 4 [(3, .int (nI i)), (0, .ref b), (1, .ref (G.2.2.2.2 0)), (2, .ref (G.2.2.2.2 110))]) (nxt : ∀ h2 : PH, INV (B + 99) h2 → WL p l e s m b below meth c G h2 Q (F0 m 1027 ls [])) : WL p l e s m b below meth c G h Q (F0 m 497 ls []) := by
  obtain ⟨r, h1, h2, e1, e2, hI2⟩ := op_set (xs (i + 1)) (xs (i + 2)) B h hB hI
  refine l_aload C dL_law_497 rfl (lv_at hl 2 rfl) ?_
  refine l_arg (j := 1) C (by omega) hL (lv_at hl 1 rfl) (lv_at hl 0 rfl) (by decide) dL_law_498 dL_law_499 dL_law_500 dL_law_501 dL_law_502 ?_
  refine l_arg (j := 2) C (by omega) hL (lv_at hl 1 rfl) (lv_at hl 0 rfl) (by decide) dL_law_503 dL_law_504 dL_law_505 dL_law_506 dL_law_507 ?_
  refine l_call (k := 0) (n := 2) (As := [.int (xs (i + 1)), .int (xs (i + 2))]) C ⟨w_co_X4_set, w_im_X4_set, w_se_X4_set, w_in_X4, by decide +kernel, by decide⟩ w_ml_L_77 (c_X4_set l G e1) kd_0 rfl (by decide) (ce_3 kd_0) (by decide) hl.1 rfl rfl (Nat.le_of_ble_eq_true rfl) dL_law_508 ?_
  refine l_aload C dL_law_511 rfl (lv_at hl 3 rfl) ?_
  refine l_arg (j := 1) C (by omega) hL (lv_at hl 1 rfl) (lv_at hl 0 rfl) (by decide) dL_law_512 dL_law_513 dL_law_514 dL_law_515 dL_law_516 ?_
  refine l_arg (j := 2) C (by omega) hL (lv_at hl 1 rfl) (lv_at hl 0 rfl) (by decide) dL_law_517 dL_law_518 dL_law_519 dL_law_520 dL_law_521 ?_
  refine l_call (k := 110) (n := 2) (As := [.int (xs (i + 1)), .int (xs (i + 2))]) C ⟨w_co_X5_set, w_im_X5_set, w_se_X5_set, w_in_X5, by decide +kernel, by decide⟩ w_ml_L_80 (c_X5_set l G e2) kd_110 rfl (by decide) (ce_4 kd_110) (by decide) hl.1 rfl rfl (Nat.le_of_ble_eq_true rfl) dL_law_522 ?_
  exact l_iceq (tgt := 1027) C dL_law_525 (by decide) (nxt h2 hI2)
end
