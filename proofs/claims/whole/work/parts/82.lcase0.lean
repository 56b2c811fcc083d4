set_option maxHeartbeats 4000000 in
set_option maxRecDepth 100000 in
theorem lc_person {p : Program} {l : Launch} {e : Env} {s : State} {m : MethodId} {below : List Frame} {meth : Method} {c : Code} {G : fm_G} {σ : fm_M} {b L i : Nat} {xs : Nat → Int32} {H : Heap} {locs : List Loc} {ls : Array Slot} (hC : fm_C G p m c code 4 s #[Value.ref b] R_law) (hX : va_X b L xs s s.heap) (hbl : b < s.heap.size) (hbA : ¬ fm_A G b) (hi : i + 6 ≤ L) (hL : L ≤ 3072) (hI : fm_I G σ s H locs) (hv : Inv σ) (hl : lv_has ls 4 [(0, .ref b), (1, .ref (G.2.1 0)), (2, .ref (G.2.1 96)), (3, .int (nI i))])
    (K : ∀ (σ : fm_M) (H : Heap) (locs : List Loc), fm_I G σ s H locs → Inv σ → W p l e room_1 s m #[Value.ref b] below meth c H locs 600000 7302250 (lw_Z below #[Value.ref b] s) (F0 m 1462 ls [])) : W p l e room_1 s m #[Value.ref b] below meth c H locs 600000 7302250 (lw_Z below #[Value.ref b] s) (F0 m 204 ls []) := by
  have hx := hC.1.1
  have hb := hC.1.2.1
  have hown := hC.1.2.2.2.1
  have hts := hC.1.2.2.2.2
  obtain ⟨r, σ1, σ2, e1, e2, hv2⟩ := op_person (xs (i + 1)) hv
  refine lv_aload_n hx hb dL_204 rfl (lv_at hl 1 rfl) ?_
  refine lw_ld (k := 1) hC hX hbl hbA hi hL (by decide) hI hl (by decide) dL_205 dL_206 dL_207 dL_208 dL_209 ?_
  refine fm_ci hI (fm_runV (As := [.int (xs (i + 1))]) (rest := []) (rm := { frames := 2, cells := 0, slots := 0, locals := 44 }) hC hI (c_X11_person hC.2.2.1 e1) mV_X11_person q_230 ⟨rfl, rfl⟩ ⟨Nat.le_of_ble_eq_true rfl, Nat.le_of_ble_eq_true rfl⟩ fc_0 rfl (by decide) rfl hl.1 rfl (Nat.le_of_ble_eq_true rfl) dL_210 ⟨Nat.le_refl _, Nat.le_refl _⟩) (fun H locs hI => ?_)
  refine lv_aload_n hx hb dL_213 rfl (lv_at hl 2 rfl) ?_
  refine lw_ld (k := 1) hC hX hbl hbA hi hL (by decide) hI hl (by decide) dL_214 dL_215 dL_216 dL_217 dL_218 ?_
  refine fm_ci hI (fm_runV (As := [.int (xs (i + 1))]) (rest := [.int r]) (rm := { frames := 2, cells := 0, slots := 0, locals := 44 }) hC hI (c_X12_person hC.2.2.1 e2) mV_X12_person q_860 ⟨rfl, rfl⟩ ⟨Nat.le_of_ble_eq_true rfl, Nat.le_of_ble_eq_true rfl⟩ fc_96 rfl (by decide) rfl hl.1 rfl (Nat.le_of_ble_eq_true rfl) dL_219 ⟨Nat.le_refl _, Nat.le_refl _⟩) (fun H locs hI => ?_)
  exact lv_icmp_eq (tgt := 1462) hx hb dL_222 (by decide) (fun _ => K σ2 H locs hI hv2) (fun hc => absurd rfl hc)
set_option maxHeartbeats 4000000 in
set_option maxRecDepth 100000 in
theorem lc_of {p : Program} {l : Launch} {e : Env} {s : State} {m : MethodId} {below : List Frame} {meth : Method} {c : Code} {G : fm_G} {σ : fm_M} {b L i : Nat} {xs : Nat → Int32} {H : Heap} {locs : List Loc} {ls : Array Slot} (hC : fm_C G p m c code 4 s #[Value.ref b] R_law) (hX : va_X b L xs s s.heap) (hbl : b < s.heap.size) (hbA : ¬ fm_A G b) (hi : i + 6 ≤ L) (hL : L ≤ 3072) (hI : fm_I G σ s H locs) (hv : Inv σ) (hl : lv_has ls 4 [(0, .ref b), (1, .ref (G.2.1 0)), (2, .ref (G.2.1 96)), (3, .int (nI i))])
    (K : ∀ (σ : fm_M) (H : Heap) (locs : List Loc), fm_I G σ s H locs → Inv σ → W p l e room_1 s m #[Value.ref b] below meth c H locs 600000 7302250 (lw_Z below #[Value.ref b] s) (F0 m 1462 ls [])) : W p l e room_1 s m #[Value.ref b] below meth c H locs 600000 7302250 (lw_Z below #[Value.ref b] s) (F0 m 227 ls []) := by
  have hx := hC.1.1
  have hb := hC.1.2.1
  have hown := hC.1.2.2.2.1
  have hts := hC.1.2.2.2.2
  obtain ⟨r, σ1, σ2, e1, e2, hv2⟩ := op_of (xs (i + 1)) (xs (i + 2)) hv
  refine lv_aload_n hx hb dL_227 rfl (lv_at hl 1 rfl) ?_
  refine lw_ld (k := 1) hC hX hbl hbA hi hL (by decide) hI hl (by decide) dL_228 dL_229 dL_230 dL_231 dL_232 ?_
  refine lw_ld (k := 2) hC hX hbl hbA hi hL (by decide) hI hl (by decide) dL_233 dL_234 dL_235 dL_236 dL_237 ?_
  refine fm_ci hI (fm_runV (As := [.int (xs (i + 1)), .int (xs (i + 2))]) (rest := []) (rm := { frames := 2, cells := 0, slots := 0, locals := 44 }) hC hI (c_X11_of hC.2.2.1 e1) mV_X11_of q_250 ⟨rfl, rfl⟩ ⟨Nat.le_of_ble_eq_true rfl, Nat.le_of_ble_eq_true rfl⟩ fc_0 rfl (by decide) rfl hl.1 rfl (Nat.le_of_ble_eq_true rfl) dL_238 ⟨Nat.le_refl _, Nat.le_refl _⟩) (fun H locs hI => ?_)
  refine lv_aload_n hx hb dL_241 rfl (lv_at hl 2 rfl) ?_
  refine lw_ld (k := 1) hC hX hbl hbA hi hL (by decide) hI hl (by decide) dL_242 dL_243 dL_244 dL_245 dL_246 ?_
  refine lw_ld (k := 2) hC hX hbl hbA hi hL (by decide) hI hl (by decide) dL_247 dL_248 dL_249 dL_250 dL_251 ?_
  refine fm_ci hI (fm_runV (As := [.int (xs (i + 1)), .int (xs (i + 2))]) (rest := [.int r]) (rm := { frames := 2, cells := 0, slots := 0, locals := 46 }) hC hI (c_X12_of hC.2.2.1 e2) mV_X12_of q_880 ⟨rfl, rfl⟩ ⟨Nat.le_of_ble_eq_true rfl, Nat.le_of_ble_eq_true rfl⟩ fc_96 rfl (by decide) rfl hl.1 rfl (Nat.le_of_ble_eq_true rfl) dL_252 ⟨Nat.le_refl _, Nat.le_refl _⟩) (fun H locs hI => ?_)
  exact lv_icmp_eq (tgt := 1462) hx hb dL_255 (by decide) (fun _ => K σ2 H locs hI hv2) (fun hc => absurd rfl hc)
set_option maxHeartbeats 4000000 in
set_option maxRecDepth 100000 in
theorem lc_does {p : Program} {l : Launch} {e : Env} {s : State} {m : MethodId} {below : List Frame} {meth : Method} {c : Code} {G : fm_G} {σ : fm_M} {b L i : Nat} {xs : Nat → Int32} {H : Heap} {locs : List Loc} {ls : Array Slot} (hC : fm_C G p m c code 4 s #[Value.ref b] R_law) (hX : va_X b L xs s s.heap) (hbl : b < s.heap.size) (hbA : ¬ fm_A G b) (hi : i + 6 ≤ L) (hL : L ≤ 3072) (hI : fm_I G σ s H locs) (hv : Inv σ) (hl : lv_has ls 4 [(0, .ref b), (1, .ref (G.2.1 0)), (2, .ref (G.2.1 96)), (3, .int (nI i))])
    (K : ∀ (σ : fm_M) (H : Heap) (locs : List Loc), fm_I G σ s H locs → Inv σ → W p l e room_1 s m #[Value.ref b] below meth c H locs 600000 7302250 (lw_Z below #[Value.ref b] s) (F0 m 1462 ls [])) : W p l e room_1 s m #[Value.ref b] below meth c H locs 600000 7302250 (lw_Z below #[Value.ref b] s) (F0 m 260 ls []) := by
  have hx := hC.1.1
  have hb := hC.1.2.1
  have hown := hC.1.2.2.2.1
  have hts := hC.1.2.2.2.2
  obtain ⟨r, σ1, σ2, e1, e2, hv2⟩ := op_does (xs (i + 1)) (xs (i + 2)) (xs (i + 3)) hv
  refine lv_aload_n hx hb dL_260 rfl (lv_at hl 1 rfl) ?_
  refine lw_ld (k := 1) hC hX hbl hbA hi hL (by decide) hI hl (by decide) dL_261 dL_262 dL_263 dL_264 dL_265 ?_
  refine lw_ld (k := 2) hC hX hbl hbA hi hL (by decide) hI hl (by decide) dL_266 dL_267 dL_268 dL_269 dL_270 ?_
  refine lw_ld (k := 3) hC hX hbl hbA hi hL (by decide) hI hl (by decide) dL_271 dL_272 dL_273 dL_274 dL_275 ?_
  refine fm_ci hI (fm_runV (As := [.int (xs (i + 1)), .int (xs (i + 2)), .int (xs (i + 3))]) (rest := []) (rm := { frames := 3, cells := 0, slots := 0, locals := 69 }) hC hI (c_X11_does hC.2.2.1 e1) mV_X11_does q_270 ⟨rfl, rfl⟩ ⟨Nat.le_of_ble_eq_true rfl, Nat.le_of_ble_eq_true rfl⟩ fc_0 rfl (by decide) rfl hl.1 rfl (Nat.le_of_ble_eq_true rfl) dL_276 ⟨Nat.le_refl _, Nat.le_refl _⟩) (fun H locs hI => ?_)
  refine lv_aload_n hx hb dL_279 rfl (lv_at hl 2 rfl) ?_
  refine lw_ld (k := 1) hC hX hbl hbA hi hL (by decide) hI hl (by decide) dL_280 dL_281 dL_282 dL_283 dL_284 ?_
  refine lw_ld (k := 2) hC hX hbl hbA hi hL (by decide) hI hl (by decide) dL_285 dL_286 dL_287 dL_288 dL_289 ?_
  refine lw_ld (k := 3) hC hX hbl hbA hi hL (by decide) hI hl (by decide) dL_290 dL_291 dL_292 dL_293 dL_294 ?_
  refine fm_ci hI (fm_runV (As := [.int (xs (i + 1)), .int (xs (i + 2)), .int (xs (i + 3))]) (rest := [.int r]) (rm := { frames := 2, cells := 0, slots := 0, locals := 45 }) hC hI (c_X12_does hC.2.2.1 e2) mV_X12_does q_900 ⟨rfl, rfl⟩ ⟨Nat.le_of_ble_eq_true rfl, Nat.le_of_ble_eq_true rfl⟩ fc_96 rfl (by decide) rfl hl.1 rfl (Nat.le_of_ble_eq_true rfl) dL_295 ⟨Nat.le_refl _, Nat.le_refl _⟩) (fun H locs hI => ?_)
  exact lv_icmp_eq (tgt := 1462) hx hb dL_298 (by decide) (fun _ => K σ2 H locs hI hv2) (fun hc => absurd rfl hc)
set_option maxHeartbeats 4000000 in
set_option maxRecDepth 100000 in
theorem lc_joy {p : Program} {l : Launch} {e : Env} {s : State} {m : MethodId} {below : List Frame} {meth : Method} {c : Code} {G : fm_G} {σ : fm_M} {b L i : Nat} {xs : Nat → Int32} {H : Heap} {locs : List Loc} {ls : Array Slot} (hC : fm_C G p m c code 4 s #[Value.ref b] R_law) (hX : va_X b L xs s s.heap) (hbl : b < s.heap.size) (hbA : ¬ fm_A G b) (hi : i + 6 ≤ L) (hL : L ≤ 3072) (hI : fm_I G σ s H locs) (hv : Inv σ) (hl : lv_has ls 4 [(0, .ref b), (1, .ref (G.2.1 0)), (2, .ref (G.2.1 96)), (3, .int (nI i))])
    (K : ∀ (σ : fm_M) (H : Heap) (locs : List Loc), fm_I G σ s H locs → Inv σ → W p l e room_1 s m #[Value.ref b] below meth c H locs 600000 7302250 (lw_Z below #[Value.ref b] s) (F0 m 1462 ls [])) : W p l e room_1 s m #[Value.ref b] below meth c H locs 600000 7302250 (lw_Z below #[Value.ref b] s) (F0 m 303 ls []) := by
  have hx := hC.1.1
  have hb := hC.1.2.1
  have hown := hC.1.2.2.2.1
  have hts := hC.1.2.2.2.2
  obtain ⟨r, σ1, σ2, e1, e2, hv2⟩ := op_joy (xs (i + 1)) (xs (i + 2)) hv
  refine lv_aload_n hx hb dL_303 rfl (lv_at hl 1 rfl) ?_
  refine lw_ld (k := 1) hC hX hbl hbA hi hL (by decide) hI hl (by decide) dL_304 dL_305 dL_306 dL_307 dL_308 ?_
  refine lw_ld (k := 2) hC hX hbl hbA hi hL (by decide) hI hl (by decide) dL_309 dL_310 dL_311 dL_312 dL_313 ?_
  refine fm_ci hI (fm_runV (As := [.int (xs (i + 1)), .int (xs (i + 2))]) (rest := []) (rm := { frames := 2, cells := 0, slots := 0, locals := 44 }) hC hI (c_X11_joy hC.2.2.1 e1) mV_X11_joy q_387 ⟨rfl, rfl⟩ ⟨Nat.le_of_ble_eq_true rfl, Nat.le_of_ble_eq_true rfl⟩ fc_0 rfl (by decide) rfl hl.1 rfl (Nat.le_of_ble_eq_true rfl) dL_314 ⟨Nat.le_refl _, Nat.le_refl _⟩) (fun H locs hI => ?_)
  refine lv_aload_n hx hb dL_317 rfl (lv_at hl 2 rfl) ?_
  refine lw_ld (k := 1) hC hX hbl hbA hi hL (by decide) hI hl (by decide) dL_318 dL_319 dL_320 dL_321 dL_322 ?_
  refine lw_ld (k := 2) hC hX hbl hbA hi hL (by decide) hI hl (by decide) dL_323 dL_324 dL_325 dL_326 dL_327 ?_
  refine fm_ci hI (fm_runV (As := [.int (xs (i + 1)), .int (xs (i + 2))]) (rest := [.int r]) (rm := { frames := 2, cells := 0, slots := 0, locals := 43 }) hC hI (c_X12_joy hC.2.2.1 e2) mV_X12_joy q_927 ⟨rfl, rfl⟩ ⟨Nat.le_of_ble_eq_true rfl, Nat.le_of_ble_eq_true rfl⟩ fc_96 rfl (by decide) rfl hl.1 rfl (Nat.le_of_ble_eq_true rfl) dL_328 ⟨Nat.le_refl _, Nat.le_refl _⟩) (fun H locs hI => ?_)
  exact lv_icmp_eq (tgt := 1462) hx hb dL_331 (by decide) (fun _ => K σ2 H locs hI hv2) (fun hc => absurd rfl hc)
set_option maxHeartbeats 4000000 in
set_option maxRecDepth 100000 in
theorem lc_turn {p : Program} {l : Launch} {e : Env} {s : State} {m : MethodId} {below : List Frame} {meth : Method} {c : Code} {G : fm_G} {σ : fm_M} {b L i : Nat} {xs : Nat → Int32} {H : Heap} {locs : List Loc} {ls : Array Slot} (hC : fm_C G p m c code 4 s #[Value.ref b] R_law) (hX : va_X b L xs s s.heap) (hbl : b < s.heap.size) (hbA : ¬ fm_A G b) (hi : i + 6 ≤ L) (hL : L ≤ 3072) (hI : fm_I G σ s H locs) (hv : Inv σ) (hl : lv_has ls 4 [(0, .ref b), (1, .ref (G.2.1 0)), (2, .ref (G.2.1 96)), (3, .int (nI i))])
    (K : ∀ (σ : fm_M) (H : Heap) (locs : List Loc), fm_I G σ s H locs → Inv σ → W p l e room_1 s m #[Value.ref b] below meth c H locs 600000 7302250 (lw_Z below #[Value.ref b] s) (F0 m 1462 ls [])) : W p l e room_1 s m #[Value.ref b] below meth c H locs 600000 7302250 (lw_Z below #[Value.ref b] s) (F0 m 336 ls []) := by
  have hx := hC.1.1
  have hb := hC.1.2.1
  have hown := hC.1.2.2.2.1
  have hts := hC.1.2.2.2.2
  obtain ⟨r, σ1, σ2, e1, e2, hv2⟩ := op_turn (xs (i + 1)) (xs (i + 2)) hv
  refine lv_aload_n hx hb dL_336 rfl (lv_at hl 1 rfl) ?_
  refine lw_ld (k := 1) hC hX hbl hbA hi hL (by decide) hI hl (by decide) dL_337 dL_338 dL_339 dL_340 dL_341 ?_
  refine lw_ld (k := 2) hC hX hbl hbA hi hL (by decide) hI hl (by decide) dL_342 dL_343 dL_344 dL_345 dL_346 ?_
  refine fm_ci hI (fm_runV (As := [.int (xs (i + 1)), .int (xs (i + 2))]) (rest := []) (rm := { frames := 2, cells := 0, slots := 0, locals := 44 }) hC hI (c_X11_turn hC.2.2.1 e1) mV_X11_turn q_391 ⟨rfl, rfl⟩ ⟨Nat.le_of_ble_eq_true rfl, Nat.le_of_ble_eq_true rfl⟩ fc_0 rfl (by decide) rfl hl.1 rfl (Nat.le_of_ble_eq_true rfl) dL_347 ⟨Nat.le_refl _, Nat.le_refl _⟩) (fun H locs hI => ?_)
  refine lv_aload_n hx hb dL_350 rfl (lv_at hl 2 rfl) ?_
  refine lw_ld (k := 1) hC hX hbl hbA hi hL (by decide) hI hl (by decide) dL_351 dL_352 dL_353 dL_354 dL_355 ?_
  refine lw_ld (k := 2) hC hX hbl hbA hi hL (by decide) hI hl (by decide) dL_356 dL_357 dL_358 dL_359 dL_360 ?_
  refine fm_ci hI (fm_runV (As := [.int (xs (i + 1)), .int (xs (i + 2))]) (rest := [.int r]) (rm := { frames := 2, cells := 0, slots := 0, locals := 43 }) hC hI (c_X12_turn hC.2.2.1 e2) mV_X12_turn q_931 ⟨rfl, rfl⟩ ⟨Nat.le_of_ble_eq_true rfl, Nat.le_of_ble_eq_true rfl⟩ fc_96 rfl (by decide) rfl hl.1 rfl (Nat.le_of_ble_eq_true rfl) dL_361 ⟨Nat.le_refl _, Nat.le_refl _⟩) (fun H locs hI => ?_)
  exact lv_icmp_eq (tgt := 1462) hx hb dL_364 (by decide) (fun _ => K σ2 H locs hI hv2) (fun hc => absurd rfl hc)
set_option maxHeartbeats 4000000 in
set_option maxRecDepth 100000 in
theorem lc_as {p : Program} {l : Launch} {e : Env} {s : State} {m : MethodId} {below : List Frame} {meth : Method} {c : Code} {G : fm_G} {σ : fm_M} {b L i : Nat} {xs : Nat → Int32} {H : Heap} {locs : List Loc} {ls : Array Slot} (hC : fm_C G p m c code 4 s #[Value.ref b] R_law) (hX : va_X b L xs s s.heap) (hbl : b < s.heap.size) (hbA : ¬ fm_A G b) (hi : i + 6 ≤ L) (hL : L ≤ 3072) (hI : fm_I G σ s H locs) (hv : Inv σ) (hl : lv_has ls 4 [(0, .ref b), (1, .ref (G.2.1 0)), (2, .ref (G.2.1 96)), (3, .int (nI i))])
    (K : ∀ (σ : fm_M) (H : Heap) (locs : List Loc), fm_I G σ s H locs → Inv σ → W p l e room_1 s m #[Value.ref b] below meth c H locs 600000 7302250 (lw_Z below #[Value.ref b] s) (F0 m 1462 ls [])) : W p l e room_1 s m #[Value.ref b] below meth c H locs 600000 7302250 (lw_Z below #[Value.ref b] s) (F0 m 369 ls []) := by
  have hx := hC.1.1
  have hb := hC.1.2.1
  have hown := hC.1.2.2.2.1
  have hts := hC.1.2.2.2.2
  obtain ⟨r, σ1, σ2, e1, e2, hv2⟩ := op_as (xs (i + 1)) (xs (i + 2)) hv
  refine lv_aload_n hx hb dL_369 rfl (lv_at hl 1 rfl) ?_
  refine lw_ld (k := 1) hC hX hbl hbA hi hL (by decide) hI hl (by decide) dL_370 dL_371 dL_372 dL_373 dL_374 ?_
  refine lw_ld (k := 2) hC hX hbl hbA hi hL (by decide) hI hl (by decide) dL_375 dL_376 dL_377 dL_378 dL_379 ?_
  refine fm_ci hI (fm_runV (As := [.int (xs (i + 1)), .int (xs (i + 2))]) (rest := []) (rm := { frames := 2, cells := 0, slots := 0, locals := 44 }) hC hI (c_X11_as hC.2.2.1 e1) mV_X11_as q_395 ⟨rfl, rfl⟩ ⟨Nat.le_of_ble_eq_true rfl, Nat.le_of_ble_eq_true rfl⟩ fc_0 rfl (by decide) rfl hl.1 rfl (Nat.le_of_ble_eq_true rfl) dL_380 ⟨Nat.le_refl _, Nat.le_refl _⟩) (fun H locs hI => ?_)
  refine lv_aload_n hx hb dL_383 rfl (lv_at hl 2 rfl) ?_
  refine lw_ld (k := 1) hC hX hbl hbA hi hL (by decide) hI hl (by decide) dL_384 dL_385 dL_386 dL_387 dL_388 ?_
  refine lw_ld (k := 2) hC hX hbl hbA hi hL (by decide) hI hl (by decide) dL_389 dL_390 dL_391 dL_392 dL_393 ?_
  refine fm_ci hI (fm_runV (As := [.int (xs (i + 1)), .int (xs (i + 2))]) (rest := [.int r]) (rm := { frames := 2, cells := 0, slots := 0, locals := 43 }) hC hI (c_X12_as hC.2.2.1 e2) mV_X12_as q_935 ⟨rfl, rfl⟩ ⟨Nat.le_of_ble_eq_true rfl, Nat.le_of_ble_eq_true rfl⟩ fc_96 rfl (by decide) rfl hl.1 rfl (Nat.le_of_ble_eq_true rfl) dL_394 ⟨Nat.le_refl _, Nat.le_refl _⟩) (fun H locs hI => ?_)
  exact lv_icmp_eq (tgt := 1462) hx hb dL_397 (by decide) (fun _ => K σ2 H locs hI hv2) (fun hc => absurd rfl hc)
set_option maxHeartbeats 4000000 in
set_option maxRecDepth 100000 in
theorem lc_present {p : Program} {l : Launch} {e : Env} {s : State} {m : MethodId} {below : List Frame} {meth : Method} {c : Code} {G : fm_G} {σ : fm_M} {b L i : Nat} {xs : Nat → Int32} {H : Heap} {locs : List Loc} {ls : Array Slot} (hC : fm_C G p m c code 4 s #[Value.ref b] R_law) (hX : va_X b L xs s s.heap) (hbl : b < s.heap.size) (hbA : ¬ fm_A G b) (hi : i + 6 ≤ L) (hL : L ≤ 3072) (hI : fm_I G σ s H locs) (hv : Inv σ) (hl : lv_has ls 4 [(0, .ref b), (1, .ref (G.2.1 0)), (2, .ref (G.2.1 96)), (3, .int (nI i))])
    (K : ∀ (σ : fm_M) (H : Heap) (locs : List Loc), fm_I G σ s H locs → Inv σ → W p l e room_1 s m #[Value.ref b] below meth c H locs 600000 7302250 (lw_Z below #[Value.ref b] s) (F0 m 1462 ls [])) : W p l e room_1 s m #[Value.ref b] below meth c H locs 600000 7302250 (lw_Z below #[Value.ref b] s) (F0 m 402 ls []) := by
  have hx := hC.1.1
  have hb := hC.1.2.1
  have hown := hC.1.2.2.2.1
  have hts := hC.1.2.2.2.2
  obtain ⟨r, σ1, σ2, e1, e2, hv2⟩ := op_present (xs (i + 1)) (xs (i + 2)) hv
  refine lv_aload_n hx hb dL_402 rfl (lv_at hl 1 rfl) ?_
  refine lw_ld (k := 1) hC hX hbl hbA hi hL (by decide) hI hl (by decide) dL_403 dL_404 dL_405 dL_406 dL_407 ?_
  refine lw_ld (k := 2) hC hX hbl hbA hi hL (by decide) hI hl (by decide) dL_408 dL_409 dL_410 dL_411 dL_412 ?_
  refine fm_ci hI (fm_runV (As := [.int (xs (i + 1)), .int (xs (i + 2))]) (rest := []) (rm := { frames := 2, cells := 0, slots := 0, locals := 44 }) hC hI (c_X11_present hC.2.2.1 e1) mV_X11_present q_403 ⟨rfl, rfl⟩ ⟨Nat.le_of_ble_eq_true rfl, Nat.le_of_ble_eq_true rfl⟩ fc_0 rfl (by decide) rfl hl.1 rfl (Nat.le_of_ble_eq_true rfl) dL_413 ⟨Nat.le_refl _, Nat.le_refl _⟩) (fun H locs hI => ?_)
  refine lv_aload_n hx hb dL_416 rfl (lv_at hl 2 rfl) ?_
  refine lw_ld (k := 1) hC hX hbl hbA hi hL (by decide) hI hl (by decide) dL_417 dL_418 dL_419 dL_420 dL_421 ?_
  refine lw_ld (k := 2) hC hX hbl hbA hi hL (by decide) hI hl (by decide) dL_422 dL_423 dL_424 dL_425 dL_426 ?_
  refine fm_ci hI (fm_runV (As := [.int (xs (i + 1)), .int (xs (i + 2))]) (rest := [.int r]) (rm := { frames := 2, cells := 0, slots := 0, locals := 46 }) hC hI (c_X12_present hC.2.2.1 e2) mV_X12_present q_939 ⟨rfl, rfl⟩ ⟨Nat.le_of_ble_eq_true rfl, Nat.le_of_ble_eq_true rfl⟩ fc_96 rfl (by decide) rfl hl.1 rfl (Nat.le_of_ble_eq_true rfl) dL_427 ⟨Nat.le_refl _, Nat.le_refl _⟩) (fun H locs hI => ?_)
  exact lv_icmp_eq (tgt := 1462) hx hb dL_430 (by decide) (fun _ => K σ2 H locs hI hv2) (fun hc => absurd rfl hc)
set_option maxHeartbeats 4000000 in
set_option maxRecDepth 100000 in
theorem lc_presentOf {p : Program} {l : Launch} {e : Env} {s : State} {m : MethodId} {below : List Frame} {meth : Method} {c : Code} {G : fm_G} {σ : fm_M} {b L i : Nat} {xs : Nat → Int32} {H : Heap} {locs : List Loc} {ls : Array Slot} (hC : fm_C G p m c code 4 s #[Value.ref b] R_law) (hX : va_X b L xs s s.heap) (hbl : b < s.heap.size) (hbA : ¬ fm_A G b) (hi : i + 6 ≤ L) (hL : L ≤ 3072) (hI : fm_I G σ s H locs) (hv : Inv σ) (hl : lv_has ls 4 [(0, .ref b), (1, .ref (G.2.1 0)), (2, .ref (G.2.1 96)), (3, .int (nI i))])
    (K : ∀ (σ : fm_M) (H : Heap) (locs : List Loc), fm_I G σ s H locs → Inv σ → W p l e room_1 s m #[Value.ref b] below meth c H locs 600000 7302250 (lw_Z below #[Value.ref b] s) (F0 m 1462 ls [])) : W p l e room_1 s m #[Value.ref b] below meth c H locs 600000 7302250 (lw_Z below #[Value.ref b] s) (F0 m 435 ls []) := by
  have hx := hC.1.1
  have hb := hC.1.2.1
  have hown := hC.1.2.2.2.1
  have hts := hC.1.2.2.2.2
  obtain ⟨r, σ1, σ2, e1, e2, hv2⟩ := op_presentOf (xs (i + 1)) (xs (i + 2)) hv
  refine lv_aload_n hx hb dL_435 rfl (lv_at hl 1 rfl) ?_
  refine lw_ld (k := 1) hC hX hbl hbA hi hL (by decide) hI hl (by decide) dL_436 dL_437 dL_438 dL_439 dL_440 ?_
  refine lw_ld (k := 2) hC hX hbl hbA hi hL (by decide) hI hl (by decide) dL_441 dL_442 dL_443 dL_444 dL_445 ?_
  refine fm_ci hI (fm_runV (As := [.int (xs (i + 1)), .int (xs (i + 2))]) (rest := []) (rm := { frames := 2, cells := 0, slots := 0, locals := 44 }) hC hI (c_X11_presentOf hC.2.2.1 e1) mV_X11_presentOf q_418 ⟨rfl, rfl⟩ ⟨Nat.le_of_ble_eq_true rfl, Nat.le_of_ble_eq_true rfl⟩ fc_0 rfl (by decide) rfl hl.1 rfl (Nat.le_of_ble_eq_true rfl) dL_446 ⟨Nat.le_refl _, Nat.le_refl _⟩) (fun H locs hI => ?_)
  refine lv_aload_n hx hb dL_449 rfl (lv_at hl 2 rfl) ?_
  refine lw_ld (k := 1) hC hX hbl hbA hi hL (by decide) hI hl (by decide) dL_450 dL_451 dL_452 dL_453 dL_454 ?_
  refine lw_ld (k := 2) hC hX hbl hbA hi hL (by decide) hI hl (by decide) dL_455 dL_456 dL_457 dL_458 dL_459 ?_
  refine fm_ci hI (fm_runV (As := [.int (xs (i + 1)), .int (xs (i + 2))]) (rest := [.int r]) (rm := { frames := 2, cells := 0, slots := 0, locals := 43 }) hC hI (c_X12_presentOf hC.2.2.1 e2) mV_X12_presentOf q_951 ⟨rfl, rfl⟩ ⟨Nat.le_of_ble_eq_true rfl, Nat.le_of_ble_eq_true rfl⟩ fc_96 rfl (by decide) rfl hl.1 rfl (Nat.le_of_ble_eq_true rfl) dL_460 ⟨Nat.le_refl _, Nat.le_refl _⟩) (fun H locs hI => ?_)
  exact lv_icmp_eq (tgt := 1462) hx hb dL_463 (by decide) (fun _ => K σ2 H locs hI hv2) (fun hc => absurd rfl hc)
set_option maxHeartbeats 4000000 in
set_option maxRecDepth 100000 in
theorem lc_paper {p : Program} {l : Launch} {e : Env} {s : State} {m : MethodId} {below : List Frame} {meth : Method} {c : Code} {G : fm_G} {σ : fm_M} {b L i : Nat} {xs : Nat → Int32} {H : Heap} {locs : List Loc} {ls : Array Slot} (hC : fm_C G p m c code 4 s #[Value.ref b] R_law) (hX : va_X b L xs s s.heap) (hbl : b < s.heap.size) (hbA : ¬ fm_A G b) (hi : i + 6 ≤ L) (hL : L ≤ 3072) (hI : fm_I G σ s H locs) (hv : Inv σ) (hl : lv_has ls 4 [(0, .ref b), (1, .ref (G.2.1 0)), (2, .ref (G.2.1 96)), (3, .int (nI i))])
    (K : ∀ (σ : fm_M) (H : Heap) (locs : List Loc), fm_I G σ s H locs → Inv σ → W p l e room_1 s m #[Value.ref b] below meth c H locs 600000 7302250 (lw_Z below #[Value.ref b] s) (F0 m 1462 ls [])) : W p l e room_1 s m #[Value.ref b] below meth c H locs 600000 7302250 (lw_Z below #[Value.ref b] s) (F0 m 468 ls []) := by
  have hx := hC.1.1
  have hb := hC.1.2.1
  have hown := hC.1.2.2.2.1
  have hts := hC.1.2.2.2.2
  obtain ⟨r, σ1, σ2, e1, e2, hv2⟩ := op_paper (xs (i + 1)) (xs (i + 2)) hv
  refine lv_aload_n hx hb dL_468 rfl (lv_at hl 1 rfl) ?_
  refine lw_ld (k := 1) hC hX hbl hbA hi hL (by decide) hI hl (by decide) dL_469 dL_470 dL_471 dL_472 dL_473 ?_
  refine lw_ld (k := 2) hC hX hbl hbA hi hL (by decide) hI hl (by decide) dL_474 dL_475 dL_476 dL_477 dL_478 ?_
  refine fm_ci hI (fm_runV (As := [.int (xs (i + 1)), .int (xs (i + 2))]) (rest := []) (rm := { frames := 2, cells := 0, slots := 0, locals := 44 }) hC hI (c_X11_paper hC.2.2.1 e1) mV_X11_paper q_426 ⟨rfl, rfl⟩ ⟨Nat.le_of_ble_eq_true rfl, Nat.le_of_ble_eq_true rfl⟩ fc_0 rfl (by decide) rfl hl.1 rfl (Nat.le_of_ble_eq_true rfl) dL_479 ⟨Nat.le_refl _, Nat.le_refl _⟩) (fun H locs hI => ?_)
  refine lv_aload_n hx hb dL_482 rfl (lv_at hl 2 rfl) ?_
  refine lw_ld (k := 1) hC hX hbl hbA hi hL (by decide) hI hl (by decide) dL_483 dL_484 dL_485 dL_486 dL_487 ?_
  refine lw_ld (k := 2) hC hX hbl hbA hi hL (by decide) hI hl (by decide) dL_488 dL_489 dL_490 dL_491 dL_492 ?_
  refine fm_ci hI (fm_runV (As := [.int (xs (i + 1)), .int (xs (i + 2))]) (rest := [.int r]) (rm := { frames := 2, cells := 0, slots := 0, locals := 43 }) hC hI (c_X12_paper hC.2.2.1 e2) mV_X12_paper q_955 ⟨rfl, rfl⟩ ⟨Nat.le_of_ble_eq_true rfl, Nat.le_of_ble_eq_true rfl⟩ fc_96 rfl (by decide) rfl hl.1 rfl (Nat.le_of_ble_eq_true rfl) dL_493 ⟨Nat.le_refl _, Nat.le_refl _⟩) (fun H locs hI => ?_)
  exact lv_icmp_eq (tgt := 1462) hx hb dL_496 (by decide) (fun _ => K σ2 H locs hI hv2) (fun hc => absurd rfl hc)
set_option maxHeartbeats 4000000 in
set_option maxRecDepth 100000 in
theorem lc_wrap {p : Program} {l : Launch} {e : Env} {s : State} {m : MethodId} {below : List Frame} {meth : Method} {c : Code} {G : fm_G} {σ : fm_M} {b L i : Nat} {xs : Nat → Int32} {H : Heap} {locs : List Loc} {ls : Array Slot} (hC : fm_C G p m c code 4 s #[Value.ref b] R_law) (hX : va_X b L xs s s.heap) (hbl : b < s.heap.size) (hbA : ¬ fm_A G b) (hi : i + 6 ≤ L) (hL : L ≤ 3072) (hI : fm_I G σ s H locs) (hv : Inv σ) (hl : lv_has ls 4 [(0, .ref b), (1, .ref (G.2.1 0)), (2, .ref (G.2.1 96)), (3, .int (nI i))])
    (K : ∀ (σ : fm_M) (H : Heap) (locs : List Loc), fm_I G σ s H locs → Inv σ → W p l e room_1 s m #[Value.ref b] below meth c H locs 600000 7302250 (lw_Z below #[Value.ref b] s) (F0 m 1462 ls [])) : W p l e room_1 s m #[Value.ref b] below meth c H locs 600000 7302250 (lw_Z below #[Value.ref b] s) (F0 m 501 ls []) := by
  have hx := hC.1.1
  have hb := hC.1.2.1
  have hown := hC.1.2.2.2.1
  have hts := hC.1.2.2.2.2
  obtain ⟨r, σ1, σ2, e1, e2, hv2⟩ := op_wrap (xs (i + 1)) (xs (i + 2)) hv
  refine lv_aload_n hx hb dL_501 rfl (lv_at hl 1 rfl) ?_
  refine lw_ld (k := 1) hC hX hbl hbA hi hL (by decide) hI hl (by decide) dL_502 dL_503 dL_504 dL_505 dL_506 ?_
  refine lw_ld (k := 2) hC hX hbl hbA hi hL (by decide) hI hl (by decide) dL_507 dL_508 dL_509 dL_510 dL_511 ?_
  refine fm_ci hI (fm_runV (As := [.int (xs (i + 1)), .int (xs (i + 2))]) (rest := []) (rm := { frames := 2, cells := 0, slots := 0, locals := 44 }) hC hI (c_X11_wrap hC.2.2.1 e1) mV_X11_wrap q_431 ⟨rfl, rfl⟩ ⟨Nat.le_of_ble_eq_true rfl, Nat.le_of_ble_eq_true rfl⟩ fc_0 rfl (by decide) rfl hl.1 rfl (Nat.le_of_ble_eq_true rfl) dL_512 ⟨Nat.le_refl _, Nat.le_refl _⟩) (fun H locs hI => ?_)
  refine lv_aload_n hx hb dL_515 rfl (lv_at hl 2 rfl) ?_
  refine lw_ld (k := 1) hC hX hbl hbA hi hL (by decide) hI hl (by decide) dL_516 dL_517 dL_518 dL_519 dL_520 ?_
  refine lw_ld (k := 2) hC hX hbl hbA hi hL (by decide) hI hl (by decide) dL_521 dL_522 dL_523 dL_524 dL_525 ?_
  refine fm_ci hI (fm_runV (As := [.int (xs (i + 1)), .int (xs (i + 2))]) (rest := [.int r]) (rm := { frames := 2, cells := 0, slots := 0, locals := 46 }) hC hI (c_X12_wrap hC.2.2.1 e2) mV_X12_wrap q_959 ⟨rfl, rfl⟩ ⟨Nat.le_of_ble_eq_true rfl, Nat.le_of_ble_eq_true rfl⟩ fc_96 rfl (by decide) rfl hl.1 rfl (Nat.le_of_ble_eq_true rfl) dL_526 ⟨Nat.le_refl _, Nat.le_refl _⟩) (fun H locs hI => ?_)
  exact lv_icmp_eq (tgt := 1462) hx hb dL_529 (by decide) (fun _ => K σ2 H locs hI hv2) (fun hc => absurd rfl hc)
set_option maxHeartbeats 4000000 in
set_option maxRecDepth 100000 in
theorem lc_unwrap {p : Program} {l : Launch} {e : Env} {s : State} {m : MethodId} {below : List Frame} {meth : Method} {c : Code} {G : fm_G} {σ : fm_M} {b L i : Nat} {xs : Nat → Int32} {H : Heap} {locs : List Loc} {ls : Array Slot} (hC : fm_C G p m c code 4 s #[Value.ref b] R_law) (hX : va_X b L xs s s.heap) (hbl : b < s.heap.size) (hbA : ¬ fm_A G b) (hi : i + 6 ≤ L) (hL : L ≤ 3072) (hI : fm_I G σ s H locs) (hv : Inv σ) (hl : lv_has ls 4 [(0, .ref b), (1, .ref (G.2.1 0)), (2, .ref (G.2.1 96)), (3, .int (nI i))])
    (K : ∀ (σ : fm_M) (H : Heap) (locs : List Loc), fm_I G σ s H locs → Inv σ → W p l e room_1 s m #[Value.ref b] below meth c H locs 600000 7302250 (lw_Z below #[Value.ref b] s) (F0 m 1462 ls [])) : W p l e room_1 s m #[Value.ref b] below meth c H locs 600000 7302250 (lw_Z below #[Value.ref b] s) (F0 m 534 ls []) := by
  have hx := hC.1.1
  have hb := hC.1.2.1
  have hown := hC.1.2.2.2.1
  have hts := hC.1.2.2.2.2
  obtain ⟨r, σ1, σ2, e1, e2, hv2⟩ := op_unwrap (xs (i + 1)) hv
  refine lv_aload_n hx hb dL_534 rfl (lv_at hl 1 rfl) ?_
  refine lw_ld (k := 1) hC hX hbl hbA hi hL (by decide) hI hl (by decide) dL_535 dL_536 dL_537 dL_538 dL_539 ?_
  refine fm_ci hI (fm_runV (As := [.int (xs (i + 1))]) (rest := []) (rm := { frames := 3, cells := 0, slots := 0, locals := 62 }) hC hI (c_X11_unwrap hC.2.2.1 e1) mV_X11_unwrap q_443 ⟨rfl, rfl⟩ ⟨Nat.le_of_ble_eq_true rfl, Nat.le_of_ble_eq_true rfl⟩ fc_0 rfl (by decide) rfl hl.1 rfl (Nat.le_of_ble_eq_true rfl) dL_540 ⟨Nat.le_refl _, Nat.le_refl _⟩) (fun H locs hI => ?_)
  refine lv_aload_n hx hb dL_543 rfl (lv_at hl 2 rfl) ?_
  refine lw_ld (k := 1) hC hX hbl hbA hi hL (by decide) hI hl (by decide) dL_544 dL_545 dL_546 dL_547 dL_548 ?_
  refine fm_ci hI (fm_runV (As := [.int (xs (i + 1))]) (rest := [.int r]) (rm := { frames := 2, cells := 0, slots := 0, locals := 46 }) hC hI (c_X12_unwrap hC.2.2.1 e2) mV_X12_unwrap q_974 ⟨rfl, rfl⟩ ⟨Nat.le_of_ble_eq_true rfl, Nat.le_of_ble_eq_true rfl⟩ fc_96 rfl (by decide) rfl hl.1 rfl (Nat.le_of_ble_eq_true rfl) dL_549 ⟨Nat.le_refl _, Nat.le_refl _⟩) (fun H locs hI => ?_)
  exact lv_icmp_eq (tgt := 1462) hx hb dL_552 (by decide) (fun _ => K σ2 H locs hI hv2) (fun hc => absurd rfl hc)
set_option maxHeartbeats 4000000 in
set_option maxRecDepth 100000 in
theorem lc_set {p : Program} {l : Launch} {e : Env} {s : State} {m : MethodId} {below : List Frame} {meth : Method} {c : Code} {G : fm_G} {σ : fm_M} {b L i : Nat} {xs : Nat → Int32} {H : Heap} {locs : List Loc} {ls : Array Slot} (hC : fm_C G p m c code 4 s #[Value.ref b] R_law) (hX : va_X b L xs s s.heap) (hbl : b < s.heap.size) (hbA : ¬ fm_A G b) (hi : i + 6 ≤ L) (hL : L ≤ 3072) (hI : fm_I G σ s H locs) (hv : Inv σ) (hl : lv_has ls 4 [(0, .ref b), (1, .ref (G.2.1 0)), (2, .ref (G.2.1 96)), (3, .int (nI i))])
    (K : ∀ (σ : fm_M) (H : Heap) (locs : List Loc), fm_I G σ s H locs → Inv σ → W p l e room_1 s m #[Value.ref b] below meth c H locs 600000 7302250 (lw_Z below #[Value.ref b] s) (F0 m 1462 ls [])) : W p l e room_1 s m #[Value.ref b] below meth c H locs 600000 7302250 (lw_Z below #[Value.ref b] s) (F0 m 557 ls []) := by
  have hx := hC.1.1
  have hb := hC.1.2.1
  have hown := hC.1.2.2.2.1
  have hts := hC.1.2.2.2.2
  obtain ⟨r, σ1, σ2, e1, e2, hv2⟩ := op_set (xs (i + 1)) (xs (i + 2)) (xs (i + 3)) hv
  refine lv_aload_n hx hb dL_557 rfl (lv_at hl 1 rfl) ?_
  refine lw_ld (k := 1) hC hX hbl hbA hi hL (by decide) hI hl (by decide) dL_558 dL_559 dL_560 dL_561 dL_562 ?_
  refine lw_ld (k := 2) hC hX hbl hbA hi hL (by decide) hI hl (by decide) dL_563 dL_564 dL_565 dL_566 dL_567 ?_
  refine lw_ld (k := 3) hC hX hbl hbA hi hL (by decide) hI hl (by decide) dL_568 dL_569 dL_570 dL_571 dL_572 ?_
  refine fm_ci hI (fm_runV (As := [.int (xs (i + 1)), .int (xs (i + 2)), .int (xs (i + 3))]) (rest := []) (rm := { frames := 2, cells := 0, slots := 0, locals := 44 }) hC hI (c_X11_set hC.2.2.1 e1) mV_X11_set q_452 ⟨rfl, rfl⟩ ⟨Nat.le_of_ble_eq_true rfl, Nat.le_of_ble_eq_true rfl⟩ fc_0 rfl (by decide) rfl hl.1 rfl (Nat.le_of_ble_eq_true rfl) dL_573 ⟨Nat.le_refl _, Nat.le_refl _⟩) (fun H locs hI => ?_)
  refine lv_aload_n hx hb dL_576 rfl (lv_at hl 2 rfl) ?_
  refine lw_ld (k := 1) hC hX hbl hbA hi hL (by decide) hI hl (by decide) dL_577 dL_578 dL_579 dL_580 dL_581 ?_
  refine lw_ld (k := 2) hC hX hbl hbA hi hL (by decide) hI hl (by decide) dL_582 dL_583 dL_584 dL_585 dL_586 ?_
  refine lw_ld (k := 3) hC hX hbl hbA hi hL (by decide) hI hl (by decide) dL_587 dL_588 dL_589 dL_590 dL_591 ?_
  refine fm_ci hI (fm_runV (As := [.int (xs (i + 1)), .int (xs (i + 2)), .int (xs (i + 3))]) (rest := [.int r]) (rm := { frames := 2, cells := 0, slots := 0, locals := 43 }) hC hI (c_X12_set hC.2.2.1 e2) mV_X12_set q_982 ⟨rfl, rfl⟩ ⟨Nat.le_of_ble_eq_true rfl, Nat.le_of_ble_eq_true rfl⟩ fc_96 rfl (by decide) rfl hl.1 rfl (Nat.le_of_ble_eq_true rfl) dL_592 ⟨Nat.le_refl _, Nat.le_refl _⟩) (fun H locs hI => ?_)
  exact lv_icmp_eq (tgt := 1462) hx hb dL_595 (by decide) (fun _ => K σ2 H locs hI hv2) (fun hc => absurd rfl hc)
set_option maxHeartbeats 4000000 in
set_option maxRecDepth 100000 in
theorem lc_days {p : Program} {l : Launch} {e : Env} {s : State} {m : MethodId} {below : List Frame} {meth : Method} {c : Code} {G : fm_G} {σ : fm_M} {b L i : Nat} {xs : Nat → Int32} {H : Heap} {locs : List Loc} {ls : Array Slot} (hC : fm_C G p m c code 4 s #[Value.ref b] R_law) (hX : va_X b L xs s s.heap) (hbl : b < s.heap.size) (hbA : ¬ fm_A G b) (hi : i + 6 ≤ L) (hL : L ≤ 3072) (hI : fm_I G σ s H locs) (hv : Inv σ) (hl : lv_has ls 4 [(0, .ref b), (1, .ref (G.2.1 0)), (2, .ref (G.2.1 96)), (3, .int (nI i))])
    (K : ∀ (σ : fm_M) (H : Heap) (locs : List Loc), fm_I G σ s H locs → Inv σ → W p l e room_1 s m #[Value.ref b] below meth c H locs 600000 7302250 (lw_Z below #[Value.ref b] s) (F0 m 1462 ls [])) : W p l e room_1 s m #[Value.ref b] below meth c H locs 600000 7302250 (lw_Z below #[Value.ref b] s) (F0 m 600 ls []) := by
  have hx := hC.1.1
  have hb := hC.1.2.1
  have hown := hC.1.2.2.2.1
  have hts := hC.1.2.2.2.2
  obtain ⟨r, σ1, σ2, e1, e2, hv2⟩ := op_days (xs (i + 1)) hv
  refine lv_aload_n hx hb dL_600 rfl (lv_at hl 1 rfl) ?_
  refine lw_ld (k := 1) hC hX hbl hbA hi hL (by decide) hI hl (by decide) dL_601 dL_602 dL_603 dL_604 dL_605 ?_
  refine fm_ci hI (fm_runV (As := [.int (xs (i + 1))]) (rest := []) (rm := { frames := 6, cells := 0, slots := 0, locals := 140 }) hC hI (c_X11_days hC.2.2.1 e1) mV_X11_days q_456 ⟨rfl, rfl⟩ ⟨Nat.le_of_ble_eq_true rfl, Nat.le_of_ble_eq_true rfl⟩ fc_0 rfl (by decide) rfl hl.1 rfl (Nat.le_of_ble_eq_true rfl) dL_606 ⟨Nat.le_refl _, Nat.le_refl _⟩) (fun H locs hI => ?_)
  refine lv_aload_n hx hb dL_609 rfl (lv_at hl 2 rfl) ?_
  refine lw_ld (k := 1) hC hX hbl hbA hi hL (by decide) hI hl (by decide) dL_610 dL_611 dL_612 dL_613 dL_614 ?_
  refine fm_ci hI (fm_runV (As := [.int (xs (i + 1))]) (rest := [.int r]) (rm := { frames := 6, cells := 0, slots := 0, locals := 136 }) hC hI (c_X12_days hC.2.2.1 e2) mV_X12_days q_986 ⟨rfl, rfl⟩ ⟨Nat.le_of_ble_eq_true rfl, Nat.le_of_ble_eq_true rfl⟩ fc_96 rfl (by decide) rfl hl.1 rfl (Nat.le_of_ble_eq_true rfl) dL_615 ⟨Nat.le_refl _, Nat.le_refl _⟩) (fun H locs hI => ?_)
  exact lv_icmp_eq (tgt := 1462) hx hb dL_618 (by decide) (fun _ => K σ2 H locs hI hv2) (fun hc => absurd rfl hc)
