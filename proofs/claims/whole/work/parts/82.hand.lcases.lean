set_option maxHeartbeats 4000000 in
set_option maxRecDepth 100000 in
theorem law_c0 {p : Program} {l : Launch} {e : Env} {s : State} {m : MethodId} {below : List Frame} {meth : Method} {c : Code} {b L : Nat} {xs : Nat → Int32} {GX GY : XG} (C0 : lw_At p s m meth c b L xs) (E : LEnv GX GY s) (x3 : Int32) (hin : ∀ k : Int32, 0 ≤ k → k ≤ 5 → vp_in (x3 + k) L) (MX MY : SX) (H : Heap) (locs : List Loc) (ls : Array Slot) (hR : Rel MX MY) (hP : LWd GX GY MX MY H) (hS : va_S (fun q : Nat => s.heap.size ≤ q) s.heap H locs) (hl : lv_has ls 4 [(0, .ref b), (1, .ref (GX.2.1 0)), (2, .ref (GY.2.1 0)), (3, .int x3)]) (next : ∀ (MX MY : SX) (H : Heap) (locs : List Loc) (ls : Array Slot), Rel MX MY → LWd GX GY MX MY H → va_S (fun q : Nat => s.heap.size ≤ q) s.heap H locs → lv_has ls 4 [(0, .ref b), (1, .ref (GX.2.1 0)), (2, .ref (GY.2.1 0)), (3, .int x3)] → WL p l e s m b below meth c H locs (F0 m 1390 ls [])) : WL p l e s m b below meth c H locs (F0 m 236 ls []) := by
  obtain ⟨hx, hb, hr, hml, hown, hts, hX, hbl, hlocks, hgv⟩ := id C0
  have hbA : ¬ (fun q : Nat => s.heap.size ≤ q) b := Nat.not_le.mpr hbl
  refine lv_aload_n hx hb dL_law_236 rfl (lv_at hl 1 rfl) ?_
  refine lv_aload_n hx hb dL_law_237 rfl (lv_at hl 0 rfl) ?_
  refine lv_iload_n hx hb dL_law_238 rfl (lv_at hl 3 rfl) ?_
  refine lv_iconst (v := 1) hx hb dL_law_239 (by decide) ?_
  refine lv_iadd hx hb dL_law_240 ?_
  refine va_sld hx hb hX hbl hbA hS (hin 1 (by decide) (by decide)) dL_law_241 ?_
  refine lv_aload_n hx hb dL_law_242 rfl (lv_at hl 0 rfl) ?_
  refine lv_iload_n hx hb dL_law_243 rfl (lv_at hl 3 rfl) ?_
  refine lv_iconst (v := 2) hx hb dL_law_244 (by decide) ?_
  refine lv_iadd hx hb dL_law_245 ?_
  refine va_sld hx hb hX hbl hbA hS (hin 2 (by decide) (by decide)) dL_law_246 ?_
  obtain ⟨r, MX1, MY1, hfX, hfY, hR1⟩ := ag_row (xs (x3 + 1).toNatClampNeg) (xs (x3 + 2).toNatClampNeg) MX MY hR
  refine l_cXi (rest := []) C0 E hl.1 vw_RL_13 (c5_row (xs (x3 + 1).toNatClampNeg) (xs (x3 + 2).toNatClampNeg) hfX) hP hS rfl rfl (Nat.le_of_ble_eq_true rfl) ⟨Nat.le_of_ble_eq_true rfl, Nat.le_of_ble_eq_true rfl⟩ dL_law_247 (fun H locs hP hS => ?_)
  refine lv_aload_n hx hb dL_law_250 rfl (lv_at hl 2 rfl) ?_
  refine lv_aload_n hx hb dL_law_251 rfl (lv_at hl 0 rfl) ?_
  refine lv_iload_n hx hb dL_law_252 rfl (lv_at hl 3 rfl) ?_
  refine lv_iconst (v := 1) hx hb dL_law_253 (by decide) ?_
  refine lv_iadd hx hb dL_law_254 ?_
  refine va_sld hx hb hX hbl hbA hS (hin 1 (by decide) (by decide)) dL_law_255 ?_
  refine lv_aload_n hx hb dL_law_256 rfl (lv_at hl 0 rfl) ?_
  refine lv_iload_n hx hb dL_law_257 rfl (lv_at hl 3 rfl) ?_
  refine lv_iconst (v := 2) hx hb dL_law_258 (by decide) ?_
  refine lv_iadd hx hb dL_law_259 ?_
  refine va_sld hx hb hX hbl hbA hS (hin 2 (by decide) (by decide)) dL_law_260 ?_
  refine l_cYi (rest := [.int r]) C0 E hl.1 vw_RL_17 (c6_row (xs (x3 + 1).toNatClampNeg) (xs (x3 + 2).toNatClampNeg) hfY) hP hS rfl rfl (Nat.le_of_ble_eq_true rfl) ⟨Nat.le_of_ble_eq_true rfl, Nat.le_of_ble_eq_true rfl⟩ dL_law_261 (fun H locs hP hS => ?_)
  refine lv_icmp_eq (tgt := 1390) hx hb dL_law_264 (by decide) (fun _ => ?_) (fun h9 => absurd rfl h9)
  exact next MX1 MY1 H locs ls hR1 hP hS hl
set_option maxHeartbeats 4000000 in
set_option maxRecDepth 100000 in
theorem law_c1 {p : Program} {l : Launch} {e : Env} {s : State} {m : MethodId} {below : List Frame} {meth : Method} {c : Code} {b L : Nat} {xs : Nat → Int32} {GX GY : XG} (C0 : lw_At p s m meth c b L xs) (E : LEnv GX GY s) (x3 : Int32) (hin : ∀ k : Int32, 0 ≤ k → k ≤ 5 → vp_in (x3 + k) L) (MX MY : SX) (H : Heap) (locs : List Loc) (ls : Array Slot) (hR : Rel MX MY) (hP : LWd GX GY MX MY H) (hS : va_S (fun q : Nat => s.heap.size ≤ q) s.heap H locs) (hl : lv_has ls 4 [(0, .ref b), (1, .ref (GX.2.1 0)), (2, .ref (GY.2.1 0)), (3, .int x3)]) (next : ∀ (MX MY : SX) (H : Heap) (locs : List Loc) (ls : Array Slot), Rel MX MY → LWd GX GY MX MY H → va_S (fun q : Nat => s.heap.size ≤ q) s.heap H locs → lv_has ls 4 [(0, .ref b), (1, .ref (GX.2.1 0)), (2, .ref (GY.2.1 0)), (3, .int x3)] → WL p l e s m b below meth c H locs (F0 m 1390 ls [])) : WL p l e s m b below meth c H locs (F0 m 269 ls []) := by
  obtain ⟨hx, hb, hr, hml, hown, hts, hX, hbl, hlocks, hgv⟩ := id C0
  have hbA : ¬ (fun q : Nat => s.heap.size ≤ q) b := Nat.not_le.mpr hbl
  refine lv_aload_n hx hb dL_law_269 rfl (lv_at hl 1 rfl) ?_
  refine lv_aload_n hx hb dL_law_270 rfl (lv_at hl 0 rfl) ?_
  refine lv_iload_n hx hb dL_law_271 rfl (lv_at hl 3 rfl) ?_
  refine lv_iconst (v := 1) hx hb dL_law_272 (by decide) ?_
  refine lv_iadd hx hb dL_law_273 ?_
  refine va_sld hx hb hX hbl hbA hS (hin 1 (by decide) (by decide)) dL_law_274 ?_
  refine lv_aload_n hx hb dL_law_275 rfl (lv_at hl 0 rfl) ?_
  refine lv_iload_n hx hb dL_law_276 rfl (lv_at hl 3 rfl) ?_
  refine lv_iconst (v := 2) hx hb dL_law_277 (by decide) ?_
  refine lv_iadd hx hb dL_law_278 ?_
  refine va_sld hx hb hX hbl hbA hS (hin 2 (by decide) (by decide)) dL_law_279 ?_
  refine lv_aload_n hx hb dL_law_280 rfl (lv_at hl 0 rfl) ?_
  refine lv_iload_n hx hb dL_law_281 rfl (lv_at hl 3 rfl) ?_
  refine lv_iconst (v := 3) hx hb dL_law_282 (by decide) ?_
  refine lv_iadd hx hb dL_law_283 ?_
  refine va_sld hx hb hX hbl hbA hS (hin 3 (by decide) (by decide)) dL_law_284 ?_
  obtain ⟨r, MX1, MY1, hfX, hfY, hR1⟩ := ag_lay (xs (x3 + 1).toNatClampNeg) (xs (x3 + 2).toNatClampNeg) (xs (x3 + 3).toNatClampNeg) MX MY hR
  refine l_cXi (rest := []) C0 E hl.1 vw_RL_18 (c5_lay (xs (x3 + 1).toNatClampNeg) (xs (x3 + 2).toNatClampNeg) (xs (x3 + 3).toNatClampNeg) hfX) hP hS rfl rfl (Nat.le_of_ble_eq_true rfl) ⟨Nat.le_of_ble_eq_true rfl, Nat.le_of_ble_eq_true rfl⟩ dL_law_285 (fun H locs hP hS => ?_)
  refine lv_aload_n hx hb dL_law_288 rfl (lv_at hl 2 rfl) ?_
  refine lv_aload_n hx hb dL_law_289 rfl (lv_at hl 0 rfl) ?_
  refine lv_iload_n hx hb dL_law_290 rfl (lv_at hl 3 rfl) ?_
  refine lv_iconst (v := 1) hx hb dL_law_291 (by decide) ?_
  refine lv_iadd hx hb dL_law_292 ?_
  refine va_sld hx hb hX hbl hbA hS (hin 1 (by decide) (by decide)) dL_law_293 ?_
  refine lv_aload_n hx hb dL_law_294 rfl (lv_at hl 0 rfl) ?_
  refine lv_iload_n hx hb dL_law_295 rfl (lv_at hl 3 rfl) ?_
  refine lv_iconst (v := 2) hx hb dL_law_296 (by decide) ?_
  refine lv_iadd hx hb dL_law_297 ?_
  refine va_sld hx hb hX hbl hbA hS (hin 2 (by decide) (by decide)) dL_law_298 ?_
  refine lv_aload_n hx hb dL_law_299 rfl (lv_at hl 0 rfl) ?_
  refine lv_iload_n hx hb dL_law_300 rfl (lv_at hl 3 rfl) ?_
  refine lv_iconst (v := 3) hx hb dL_law_301 (by decide) ?_
  refine lv_iadd hx hb dL_law_302 ?_
  refine va_sld hx hb hX hbl hbA hS (hin 3 (by decide) (by decide)) dL_law_303 ?_
  refine l_cYi (rest := [.int r]) C0 E hl.1 vw_RL_22 (c6_lay (xs (x3 + 1).toNatClampNeg) (xs (x3 + 2).toNatClampNeg) (xs (x3 + 3).toNatClampNeg) hfY) hP hS rfl rfl (Nat.le_of_ble_eq_true rfl) ⟨Nat.le_of_ble_eq_true rfl, Nat.le_of_ble_eq_true rfl⟩ dL_law_304 (fun H locs hP hS => ?_)
  refine lv_icmp_eq (tgt := 1390) hx hb dL_law_307 (by decide) (fun _ => ?_) (fun h9 => absurd rfl h9)
  exact next MX1 MY1 H locs ls hR1 hP hS hl
set_option maxHeartbeats 4000000 in
set_option maxRecDepth 100000 in
theorem law_c2 {p : Program} {l : Launch} {e : Env} {s : State} {m : MethodId} {below : List Frame} {meth : Method} {c : Code} {b L : Nat} {xs : Nat → Int32} {GX GY : XG} (C0 : lw_At p s m meth c b L xs) (E : LEnv GX GY s) (x3 : Int32) (hin : ∀ k : Int32, 0 ≤ k → k ≤ 5 → vp_in (x3 + k) L) (MX MY : SX) (H : Heap) (locs : List Loc) (ls : Array Slot) (hR : Rel MX MY) (hP : LWd GX GY MX MY H) (hS : va_S (fun q : Nat => s.heap.size ≤ q) s.heap H locs) (hl : lv_has ls 4 [(0, .ref b), (1, .ref (GX.2.1 0)), (2, .ref (GY.2.1 0)), (3, .int x3)]) (next : ∀ (MX MY : SX) (H : Heap) (locs : List Loc) (ls : Array Slot), Rel MX MY → LWd GX GY MX MY H → va_S (fun q : Nat => s.heap.size ≤ q) s.heap H locs → lv_has ls 4 [(0, .ref b), (1, .ref (GX.2.1 0)), (2, .ref (GY.2.1 0)), (3, .int x3)] → WL p l e s m b below meth c H locs (F0 m 1390 ls [])) : WL p l e s m b below meth c H locs (F0 m 312 ls []) := by
  obtain ⟨hx, hb, hr, hml, hown, hts, hX, hbl, hlocks, hgv⟩ := id C0
  have hbA : ¬ (fun q : Nat => s.heap.size ≤ q) b := Nat.not_le.mpr hbl
  refine lv_aload_n hx hb dL_law_312 rfl (lv_at hl 1 rfl) ?_
  refine lv_aload_n hx hb dL_law_313 rfl (lv_at hl 0 rfl) ?_
  refine lv_iload_n hx hb dL_law_314 rfl (lv_at hl 3 rfl) ?_
  refine lv_iconst (v := 1) hx hb dL_law_315 (by decide) ?_
  refine lv_iadd hx hb dL_law_316 ?_
  refine va_sld hx hb hX hbl hbA hS (hin 1 (by decide) (by decide)) dL_law_317 ?_
  refine lv_aload_n hx hb dL_law_318 rfl (lv_at hl 0 rfl) ?_
  refine lv_iload_n hx hb dL_law_319 rfl (lv_at hl 3 rfl) ?_
  refine lv_iconst (v := 2) hx hb dL_law_320 (by decide) ?_
  refine lv_iadd hx hb dL_law_321 ?_
  refine va_sld hx hb hX hbl hbA hS (hin 2 (by decide) (by decide)) dL_law_322 ?_
  obtain ⟨r, MX1, MY1, hfX, hfY, hR1⟩ := ag_at (xs (x3 + 1).toNatClampNeg) (xs (x3 + 2).toNatClampNeg) MX MY hR
  refine l_cXi (rest := []) C0 E hl.1 vw_RL_23 (c5_at (xs (x3 + 1).toNatClampNeg) (xs (x3 + 2).toNatClampNeg) hfX) hP hS rfl rfl (Nat.le_of_ble_eq_true rfl) ⟨Nat.le_of_ble_eq_true rfl, Nat.le_of_ble_eq_true rfl⟩ dL_law_323 (fun H locs hP hS => ?_)
  refine lv_aload_n hx hb dL_law_326 rfl (lv_at hl 2 rfl) ?_
  refine lv_aload_n hx hb dL_law_327 rfl (lv_at hl 0 rfl) ?_
  refine lv_iload_n hx hb dL_law_328 rfl (lv_at hl 3 rfl) ?_
  refine lv_iconst (v := 1) hx hb dL_law_329 (by decide) ?_
  refine lv_iadd hx hb dL_law_330 ?_
  refine va_sld hx hb hX hbl hbA hS (hin 1 (by decide) (by decide)) dL_law_331 ?_
  refine lv_aload_n hx hb dL_law_332 rfl (lv_at hl 0 rfl) ?_
  refine lv_iload_n hx hb dL_law_333 rfl (lv_at hl 3 rfl) ?_
  refine lv_iconst (v := 2) hx hb dL_law_334 (by decide) ?_
  refine lv_iadd hx hb dL_law_335 ?_
  refine va_sld hx hb hX hbl hbA hS (hin 2 (by decide) (by decide)) dL_law_336 ?_
  refine l_cYi (rest := [.int r]) C0 E hl.1 vw_RL_26 (c6_at (xs (x3 + 1).toNatClampNeg) (xs (x3 + 2).toNatClampNeg) hfY) hP hS rfl rfl (Nat.le_of_ble_eq_true rfl) ⟨Nat.le_of_ble_eq_true rfl, Nat.le_of_ble_eq_true rfl⟩ dL_law_337 (fun H locs hP hS => ?_)
  refine lv_icmp_eq (tgt := 1390) hx hb dL_law_340 (by decide) (fun _ => ?_) (fun h9 => absurd rfl h9)
  exact next MX1 MY1 H locs ls hR1 hP hS hl
set_option maxHeartbeats 4000000 in
set_option maxRecDepth 100000 in
theorem law_c3 {p : Program} {l : Launch} {e : Env} {s : State} {m : MethodId} {below : List Frame} {meth : Method} {c : Code} {b L : Nat} {xs : Nat → Int32} {GX GY : XG} (C0 : lw_At p s m meth c b L xs) (E : LEnv GX GY s) (x3 : Int32) (hin : ∀ k : Int32, 0 ≤ k → k ≤ 5 → vp_in (x3 + k) L) (MX MY : SX) (H : Heap) (locs : List Loc) (ls : Array Slot) (hR : Rel MX MY) (hP : LWd GX GY MX MY H) (hS : va_S (fun q : Nat => s.heap.size ≤ q) s.heap H locs) (hl : lv_has ls 4 [(0, .ref b), (1, .ref (GX.2.1 0)), (2, .ref (GY.2.1 0)), (3, .int x3)]) (next : ∀ (MX MY : SX) (H : Heap) (locs : List Loc) (ls : Array Slot), Rel MX MY → LWd GX GY MX MY H → va_S (fun q : Nat => s.heap.size ≤ q) s.heap H locs → lv_has ls 4 [(0, .ref b), (1, .ref (GX.2.1 0)), (2, .ref (GY.2.1 0)), (3, .int x3)] → WL p l e s m b below meth c H locs (F0 m 1390 ls [])) : WL p l e s m b below meth c H locs (F0 m 345 ls []) := by
  obtain ⟨hx, hb, hr, hml, hown, hts, hX, hbl, hlocks, hgv⟩ := id C0
  have hbA : ¬ (fun q : Nat => s.heap.size ≤ q) b := Nat.not_le.mpr hbl
  refine lv_aload_n hx hb dL_law_345 rfl (lv_at hl 1 rfl) ?_
  refine lv_aload_n hx hb dL_law_346 rfl (lv_at hl 0 rfl) ?_
  refine lv_iload_n hx hb dL_law_347 rfl (lv_at hl 3 rfl) ?_
  refine lv_iconst (v := 1) hx hb dL_law_348 (by decide) ?_
  refine lv_iadd hx hb dL_law_349 ?_
  refine va_sld hx hb hX hbl hbA hS (hin 1 (by decide) (by decide)) dL_law_350 ?_
  obtain ⟨r, MX1, MY1, hfX, hfY, hR1⟩ := ag_tear (xs (x3 + 1).toNatClampNeg) MX MY hR
  refine l_cXi (rest := []) C0 E hl.1 vw_RL_27 (c5_tear (xs (x3 + 1).toNatClampNeg) hfX) hP hS rfl rfl (Nat.le_of_ble_eq_true rfl) ⟨Nat.le_of_ble_eq_true rfl, Nat.le_of_ble_eq_true rfl⟩ dL_law_351 (fun H locs hP hS => ?_)
  refine lv_aload_n hx hb dL_law_354 rfl (lv_at hl 2 rfl) ?_
  refine lv_aload_n hx hb dL_law_355 rfl (lv_at hl 0 rfl) ?_
  refine lv_iload_n hx hb dL_law_356 rfl (lv_at hl 3 rfl) ?_
  refine lv_iconst (v := 1) hx hb dL_law_357 (by decide) ?_
  refine lv_iadd hx hb dL_law_358 ?_
  refine va_sld hx hb hX hbl hbA hS (hin 1 (by decide) (by decide)) dL_law_359 ?_
  refine l_cYi (rest := [.int r]) C0 E hl.1 vw_RL_31 (c6_tear (xs (x3 + 1).toNatClampNeg) hfY) hP hS rfl rfl (Nat.le_of_ble_eq_true rfl) ⟨Nat.le_of_ble_eq_true rfl, Nat.le_of_ble_eq_true rfl⟩ dL_law_360 (fun H locs hP hS => ?_)
  refine lv_icmp_eq (tgt := 1390) hx hb dL_law_363 (by decide) (fun _ => ?_) (fun h9 => absurd rfl h9)
  exact next MX1 MY1 H locs ls hR1 hP hS hl
set_option maxHeartbeats 4000000 in
set_option maxRecDepth 100000 in
theorem law_c4 {p : Program} {l : Launch} {e : Env} {s : State} {m : MethodId} {below : List Frame} {meth : Method} {c : Code} {b L : Nat} {xs : Nat → Int32} {GX GY : XG} (C0 : lw_At p s m meth c b L xs) (E : LEnv GX GY s) (x3 : Int32) (hin : ∀ k : Int32, 0 ≤ k → k ≤ 5 → vp_in (x3 + k) L) (MX MY : SX) (H : Heap) (locs : List Loc) (ls : Array Slot) (hR : Rel MX MY) (hP : LWd GX GY MX MY H) (hS : va_S (fun q : Nat => s.heap.size ≤ q) s.heap H locs) (hl : lv_has ls 4 [(0, .ref b), (1, .ref (GX.2.1 0)), (2, .ref (GY.2.1 0)), (3, .int x3)]) (next : ∀ (MX MY : SX) (H : Heap) (locs : List Loc) (ls : Array Slot), Rel MX MY → LWd GX GY MX MY H → va_S (fun q : Nat => s.heap.size ≤ q) s.heap H locs → lv_has ls 4 [(0, .ref b), (1, .ref (GX.2.1 0)), (2, .ref (GY.2.1 0)), (3, .int x3)] → WL p l e s m b below meth c H locs (F0 m 1390 ls [])) : WL p l e s m b below meth c H locs (F0 m 368 ls []) := by
  obtain ⟨hx, hb, hr, hml, hown, hts, hX, hbl, hlocks, hgv⟩ := id C0
  have hbA : ¬ (fun q : Nat => s.heap.size ≤ q) b := Nat.not_le.mpr hbl
  refine lv_aload_n hx hb dL_law_368 rfl (lv_at hl 1 rfl) ?_
  refine lv_aload_n hx hb dL_law_369 rfl (lv_at hl 0 rfl) ?_
  refine lv_iload_n hx hb dL_law_370 rfl (lv_at hl 3 rfl) ?_
  refine lv_iconst (v := 1) hx hb dL_law_371 (by decide) ?_
  refine lv_iadd hx hb dL_law_372 ?_
  refine va_sld hx hb hX hbl hbA hS (hin 1 (by decide) (by decide)) dL_law_373 ?_
  refine lv_aload_n hx hb dL_law_374 rfl (lv_at hl 0 rfl) ?_
  refine lv_iload_n hx hb dL_law_375 rfl (lv_at hl 3 rfl) ?_
  refine lv_iconst (v := 2) hx hb dL_law_376 (by decide) ?_
  refine lv_iadd hx hb dL_law_377 ?_
  refine va_sld hx hb hX hbl hbA hS (hin 2 (by decide) (by decide)) dL_law_378 ?_
  refine lv_aload_n hx hb dL_law_379 rfl (lv_at hl 0 rfl) ?_
  refine lv_iload_n hx hb dL_law_380 rfl (lv_at hl 3 rfl) ?_
  refine lv_iconst (v := 3) hx hb dL_law_381 (by decide) ?_
  refine lv_iadd hx hb dL_law_382 ?_
  refine va_sld hx hb hX hbl hbA hS (hin 3 (by decide) (by decide)) dL_law_383 ?_
  refine lv_aload_n hx hb dL_law_384 rfl (lv_at hl 0 rfl) ?_
  refine lv_iload_n hx hb dL_law_385 rfl (lv_at hl 3 rfl) ?_
  refine lv_iconst (v := 4) hx hb dL_law_386 (by decide) ?_
  refine lv_iadd hx hb dL_law_387 ?_
  refine va_sld hx hb hX hbl hbA hS (hin 4 (by decide) (by decide)) dL_law_388 ?_
  refine lv_aload_n hx hb dL_law_389 rfl (lv_at hl 0 rfl) ?_
  refine lv_iload_n hx hb dL_law_390 rfl (lv_at hl 3 rfl) ?_
  refine lv_iconst (v := 5) hx hb dL_law_391 (by decide) ?_
  refine lv_iadd hx hb dL_law_392 ?_
  refine va_sld hx hb hX hbl hbA hS (hin 5 (by decide) (by decide)) dL_law_393 ?_
  obtain ⟨r, MX1, MY1, hfX, hfY, hR1⟩ := ag_copy (xs (x3 + 1).toNatClampNeg) (xs (x3 + 2).toNatClampNeg) (xs (x3 + 3).toNatClampNeg) (xs (x3 + 4).toNatClampNeg) (xs (x3 + 5).toNatClampNeg) MX MY hR
  refine l_cXi (rest := []) C0 E hl.1 vw_RL_32 (c5_copy (xs (x3 + 1).toNatClampNeg) (xs (x3 + 2).toNatClampNeg) (xs (x3 + 3).toNatClampNeg) (xs (x3 + 4).toNatClampNeg) (xs (x3 + 5).toNatClampNeg) hfX) hP hS rfl rfl (Nat.le_of_ble_eq_true rfl) ⟨Nat.le_of_ble_eq_true rfl, Nat.le_of_ble_eq_true rfl⟩ dL_law_394 (fun H locs hP hS => ?_)
  refine lv_aload_n hx hb dL_law_397 rfl (lv_at hl 2 rfl) ?_
  refine lv_aload_n hx hb dL_law_398 rfl (lv_at hl 0 rfl) ?_
  refine lv_iload_n hx hb dL_law_399 rfl (lv_at hl 3 rfl) ?_
  refine lv_iconst (v := 1) hx hb dL_law_400 (by decide) ?_
  refine lv_iadd hx hb dL_law_401 ?_
  refine va_sld hx hb hX hbl hbA hS (hin 1 (by decide) (by decide)) dL_law_402 ?_
  refine lv_aload_n hx hb dL_law_403 rfl (lv_at hl 0 rfl) ?_
  refine lv_iload_n hx hb dL_law_404 rfl (lv_at hl 3 rfl) ?_
  refine lv_iconst (v := 2) hx hb dL_law_405 (by decide) ?_
  refine lv_iadd hx hb dL_law_406 ?_
  refine va_sld hx hb hX hbl hbA hS (hin 2 (by decide) (by decide)) dL_law_407 ?_
  refine lv_aload_n hx hb dL_law_408 rfl (lv_at hl 0 rfl) ?_
  refine lv_iload_n hx hb dL_law_409 rfl (lv_at hl 3 rfl) ?_
  refine lv_iconst (v := 3) hx hb dL_law_410 (by decide) ?_
  refine lv_iadd hx hb dL_law_411 ?_
  refine va_sld hx hb hX hbl hbA hS (hin 3 (by decide) (by decide)) dL_law_412 ?_
  refine lv_aload_n hx hb dL_law_413 rfl (lv_at hl 0 rfl) ?_
  refine lv_iload_n hx hb dL_law_414 rfl (lv_at hl 3 rfl) ?_
  refine lv_iconst (v := 4) hx hb dL_law_415 (by decide) ?_
  refine lv_iadd hx hb dL_law_416 ?_
  refine va_sld hx hb hX hbl hbA hS (hin 4 (by decide) (by decide)) dL_law_417 ?_
  refine lv_aload_n hx hb dL_law_418 rfl (lv_at hl 0 rfl) ?_
  refine lv_iload_n hx hb dL_law_419 rfl (lv_at hl 3 rfl) ?_
  refine lv_iconst (v := 5) hx hb dL_law_420 (by decide) ?_
  refine lv_iadd hx hb dL_law_421 ?_
  refine va_sld hx hb hX hbl hbA hS (hin 5 (by decide) (by decide)) dL_law_422 ?_
  refine l_cYi (rest := [.int r]) C0 E hl.1 vw_RL_36 (c6_copy (xs (x3 + 1).toNatClampNeg) (xs (x3 + 2).toNatClampNeg) (xs (x3 + 3).toNatClampNeg) (xs (x3 + 4).toNatClampNeg) (xs (x3 + 5).toNatClampNeg) hfY) hP hS rfl rfl (Nat.le_of_ble_eq_true rfl) ⟨Nat.le_of_ble_eq_true rfl, Nat.le_of_ble_eq_true rfl⟩ dL_law_423 (fun H locs hP hS => ?_)
  refine lv_icmp_eq (tgt := 1390) hx hb dL_law_426 (by decide) (fun _ => ?_) (fun h9 => absurd rfl h9)
  exact next MX1 MY1 H locs ls hR1 hP hS hl
set_option maxHeartbeats 4000000 in
set_option maxRecDepth 100000 in
theorem law_c5 {p : Program} {l : Launch} {e : Env} {s : State} {m : MethodId} {below : List Frame} {meth : Method} {c : Code} {b L : Nat} {xs : Nat → Int32} {GX GY : XG} (C0 : lw_At p s m meth c b L xs) (E : LEnv GX GY s) (x3 : Int32) (hin : ∀ k : Int32, 0 ≤ k → k ≤ 5 → vp_in (x3 + k) L) (MX MY : SX) (H : Heap) (locs : List Loc) (ls : Array Slot) (hR : Rel MX MY) (hP : LWd GX GY MX MY H) (hS : va_S (fun q : Nat => s.heap.size ≤ q) s.heap H locs) (hl : lv_has ls 4 [(0, .ref b), (1, .ref (GX.2.1 0)), (2, .ref (GY.2.1 0)), (3, .int x3)]) (next : ∀ (MX MY : SX) (H : Heap) (locs : List Loc) (ls : Array Slot), Rel MX MY → LWd GX GY MX MY H → va_S (fun q : Nat => s.heap.size ≤ q) s.heap H locs → lv_has ls 4 [(0, .ref b), (1, .ref (GX.2.1 0)), (2, .ref (GY.2.1 0)), (3, .int x3)] → WL p l e s m b below meth c H locs (F0 m 1390 ls [])) : WL p l e s m b below meth c H locs (F0 m 431 ls []) := by
  obtain ⟨hx, hb, hr, hml, hown, hts, hX, hbl, hlocks, hgv⟩ := id C0
  have hbA : ¬ (fun q : Nat => s.heap.size ≤ q) b := Nat.not_le.mpr hbl
  refine lv_aload_n hx hb dL_law_431 rfl (lv_at hl 1 rfl) ?_
  refine lv_aload_n hx hb dL_law_432 rfl (lv_at hl 0 rfl) ?_
  refine lv_iload_n hx hb dL_law_433 rfl (lv_at hl 3 rfl) ?_
  refine lv_iconst (v := 1) hx hb dL_law_434 (by decide) ?_
  refine lv_iadd hx hb dL_law_435 ?_
  refine va_sld hx hb hX hbl hbA hS (hin 1 (by decide) (by decide)) dL_law_436 ?_
  obtain ⟨r, MX1, MY1, hfX, hfY, hR1⟩ := ag_mean (xs (x3 + 1).toNatClampNeg) MX MY hR
  refine l_cXi (rest := []) C0 E hl.1 vw_RL_37 (c5_mean (xs (x3 + 1).toNatClampNeg) hfX) hP hS rfl rfl (Nat.le_of_ble_eq_true rfl) ⟨Nat.le_of_ble_eq_true rfl, Nat.le_of_ble_eq_true rfl⟩ dL_law_437 (fun H locs hP hS => ?_)
  refine lv_aload_n hx hb dL_law_440 rfl (lv_at hl 2 rfl) ?_
  refine lv_aload_n hx hb dL_law_441 rfl (lv_at hl 0 rfl) ?_
  refine lv_iload_n hx hb dL_law_442 rfl (lv_at hl 3 rfl) ?_
  refine lv_iconst (v := 1) hx hb dL_law_443 (by decide) ?_
  refine lv_iadd hx hb dL_law_444 ?_
  refine va_sld hx hb hX hbl hbA hS (hin 1 (by decide) (by decide)) dL_law_445 ?_
  refine l_cYi (rest := [.int r]) C0 E hl.1 vw_RL_40 (c6_mean (xs (x3 + 1).toNatClampNeg) hfY) hP hS rfl rfl (Nat.le_of_ble_eq_true rfl) ⟨Nat.le_of_ble_eq_true rfl, Nat.le_of_ble_eq_true rfl⟩ dL_law_446 (fun H locs hP hS => ?_)
  refine lv_icmp_eq (tgt := 1390) hx hb dL_law_449 (by decide) (fun _ => ?_) (fun h9 => absurd rfl h9)
  exact next MX1 MY1 H locs ls hR1 hP hS hl
set_option maxHeartbeats 4000000 in
set_option maxRecDepth 100000 in
theorem law_c6 {p : Program} {l : Launch} {e : Env} {s : State} {m : MethodId} {below : List Frame} {meth : Method} {c : Code} {b L : Nat} {xs : Nat → Int32} {GX GY : XG} (C0 : lw_At p s m meth c b L xs) (E : LEnv GX GY s) (x3 : Int32) (hin : ∀ k : Int32, 0 ≤ k → k ≤ 5 → vp_in (x3 + k) L) (MX MY : SX) (H : Heap) (locs : List Loc) (ls : Array Slot) (hR : Rel MX MY) (hP : LWd GX GY MX MY H) (hS : va_S (fun q : Nat => s.heap.size ≤ q) s.heap H locs) (hl : lv_has ls 4 [(0, .ref b), (1, .ref (GX.2.1 0)), (2, .ref (GY.2.1 0)), (3, .int x3)]) (next : ∀ (MX MY : SX) (H : Heap) (locs : List Loc) (ls : Array Slot), Rel MX MY → LWd GX GY MX MY H → va_S (fun q : Nat => s.heap.size ≤ q) s.heap H locs → lv_has ls 4 [(0, .ref b), (1, .ref (GX.2.1 0)), (2, .ref (GY.2.1 0)), (3, .int x3)] → WL p l e s m b below meth c H locs (F0 m 1390 ls [])) : WL p l e s m b below meth c H locs (F0 m 454 ls []) := by
  obtain ⟨hx, hb, hr, hml, hown, hts, hX, hbl, hlocks, hgv⟩ := id C0
  have hbA : ¬ (fun q : Nat => s.heap.size ≤ q) b := Nat.not_le.mpr hbl
  refine lv_aload_n hx hb dL_law_454 rfl (lv_at hl 1 rfl) ?_
  refine lv_aload_n hx hb dL_law_455 rfl (lv_at hl 0 rfl) ?_
  refine lv_iload_n hx hb dL_law_456 rfl (lv_at hl 3 rfl) ?_
  refine lv_iconst (v := 1) hx hb dL_law_457 (by decide) ?_
  refine lv_iadd hx hb dL_law_458 ?_
  refine va_sld hx hb hX hbl hbA hS (hin 1 (by decide) (by decide)) dL_law_459 ?_
  refine lv_aload_n hx hb dL_law_460 rfl (lv_at hl 0 rfl) ?_
  refine lv_iload_n hx hb dL_law_461 rfl (lv_at hl 3 rfl) ?_
  refine lv_iconst (v := 2) hx hb dL_law_462 (by decide) ?_
  refine lv_iadd hx hb dL_law_463 ?_
  refine va_sld hx hb hX hbl hbA hS (hin 2 (by decide) (by decide)) dL_law_464 ?_
  obtain ⟨r, MX1, MY1, hfX, hfY, hR1⟩ := ag_text (xs (x3 + 1).toNatClampNeg) (xs (x3 + 2).toNatClampNeg) MX MY hR
  refine l_cXi (rest := []) C0 E hl.1 vw_RL_41 (c5_text (xs (x3 + 1).toNatClampNeg) (xs (x3 + 2).toNatClampNeg) hfX) hP hS rfl rfl (Nat.le_of_ble_eq_true rfl) ⟨Nat.le_of_ble_eq_true rfl, Nat.le_of_ble_eq_true rfl⟩ dL_law_465 (fun H locs hP hS => ?_)
  refine lv_aload_n hx hb dL_law_468 rfl (lv_at hl 2 rfl) ?_
  refine lv_aload_n hx hb dL_law_469 rfl (lv_at hl 0 rfl) ?_
  refine lv_iload_n hx hb dL_law_470 rfl (lv_at hl 3 rfl) ?_
  refine lv_iconst (v := 1) hx hb dL_law_471 (by decide) ?_
  refine lv_iadd hx hb dL_law_472 ?_
  refine va_sld hx hb hX hbl hbA hS (hin 1 (by decide) (by decide)) dL_law_473 ?_
  refine lv_aload_n hx hb dL_law_474 rfl (lv_at hl 0 rfl) ?_
  refine lv_iload_n hx hb dL_law_475 rfl (lv_at hl 3 rfl) ?_
  refine lv_iconst (v := 2) hx hb dL_law_476 (by decide) ?_
  refine lv_iadd hx hb dL_law_477 ?_
  refine va_sld hx hb hX hbl hbA hS (hin 2 (by decide) (by decide)) dL_law_478 ?_
  refine l_cYi (rest := [.int r]) C0 E hl.1 vw_RL_44 (c6_text (xs (x3 + 1).toNatClampNeg) (xs (x3 + 2).toNatClampNeg) hfY) hP hS rfl rfl (Nat.le_of_ble_eq_true rfl) ⟨Nat.le_of_ble_eq_true rfl, Nat.le_of_ble_eq_true rfl⟩ dL_law_479 (fun H locs hP hS => ?_)
  refine lv_icmp_eq (tgt := 1390) hx hb dL_law_482 (by decide) (fun _ => ?_) (fun h9 => absurd rfl h9)
  exact next MX1 MY1 H locs ls hR1 hP hS hl
set_option maxHeartbeats 4000000 in
set_option maxRecDepth 100000 in
theorem law_c7 {p : Program} {l : Launch} {e : Env} {s : State} {m : MethodId} {below : List Frame} {meth : Method} {c : Code} {b L : Nat} {xs : Nat → Int32} {GX GY : XG} (C0 : lw_At p s m meth c b L xs) (E : LEnv GX GY s) (x3 : Int32) (hin : ∀ k : Int32, 0 ≤ k → k ≤ 5 → vp_in (x3 + k) L) (MX MY : SX) (H : Heap) (locs : List Loc) (ls : Array Slot) (hR : Rel MX MY) (hP : LWd GX GY MX MY H) (hS : va_S (fun q : Nat => s.heap.size ≤ q) s.heap H locs) (hl : lv_has ls 4 [(0, .ref b), (1, .ref (GX.2.1 0)), (2, .ref (GY.2.1 0)), (3, .int x3)]) (next : ∀ (MX MY : SX) (H : Heap) (locs : List Loc) (ls : Array Slot), Rel MX MY → LWd GX GY MX MY H → va_S (fun q : Nat => s.heap.size ≤ q) s.heap H locs → lv_has ls 4 [(0, .ref b), (1, .ref (GX.2.1 0)), (2, .ref (GY.2.1 0)), (3, .int x3)] → WL p l e s m b below meth c H locs (F0 m 1390 ls [])) : WL p l e s m b below meth c H locs (F0 m 487 ls []) := by
  obtain ⟨hx, hb, hr, hml, hown, hts, hX, hbl, hlocks, hgv⟩ := id C0
  have hbA : ¬ (fun q : Nat => s.heap.size ≤ q) b := Nat.not_le.mpr hbl
  refine lv_aload_n hx hb dL_law_487 rfl (lv_at hl 1 rfl) ?_
  refine lv_aload_n hx hb dL_law_488 rfl (lv_at hl 0 rfl) ?_
  refine lv_iload_n hx hb dL_law_489 rfl (lv_at hl 3 rfl) ?_
  refine lv_iconst (v := 1) hx hb dL_law_490 (by decide) ?_
  refine lv_iadd hx hb dL_law_491 ?_
  refine va_sld hx hb hX hbl hbA hS (hin 1 (by decide) (by decide)) dL_law_492 ?_
  refine lv_aload_n hx hb dL_law_493 rfl (lv_at hl 0 rfl) ?_
  refine lv_iload_n hx hb dL_law_494 rfl (lv_at hl 3 rfl) ?_
  refine lv_iconst (v := 2) hx hb dL_law_495 (by decide) ?_
  refine lv_iadd hx hb dL_law_496 ?_
  refine va_sld hx hb hX hbl hbA hS (hin 2 (by decide) (by decide)) dL_law_497 ?_
  refine lv_aload_n hx hb dL_law_498 rfl (lv_at hl 0 rfl) ?_
  refine lv_iload_n hx hb dL_law_499 rfl (lv_at hl 3 rfl) ?_
  refine lv_iconst (v := 3) hx hb dL_law_500 (by decide) ?_
  refine lv_iadd hx hb dL_law_501 ?_
  refine va_sld hx hb hX hbl hbA hS (hin 3 (by decide) (by decide)) dL_law_502 ?_
  obtain ⟨r, MX1, MY1, hfX, hfY, hR1⟩ := ag_put (xs (x3 + 1).toNatClampNeg) (xs (x3 + 2).toNatClampNeg) (xs (x3 + 3).toNatClampNeg) MX MY hR
  refine l_cXi (rest := []) C0 E hl.1 vw_RL_45 (c5_put (xs (x3 + 1).toNatClampNeg) (xs (x3 + 2).toNatClampNeg) (xs (x3 + 3).toNatClampNeg) hfX) hP hS rfl rfl (Nat.le_of_ble_eq_true rfl) ⟨Nat.le_of_ble_eq_true rfl, Nat.le_of_ble_eq_true rfl⟩ dL_law_503 (fun H locs hP hS => ?_)
  refine lv_aload_n hx hb dL_law_506 rfl (lv_at hl 2 rfl) ?_
  refine lv_aload_n hx hb dL_law_507 rfl (lv_at hl 0 rfl) ?_
  refine lv_iload_n hx hb dL_law_508 rfl (lv_at hl 3 rfl) ?_
  refine lv_iconst (v := 1) hx hb dL_law_509 (by decide) ?_
  refine lv_iadd hx hb dL_law_510 ?_
  refine va_sld hx hb hX hbl hbA hS (hin 1 (by decide) (by decide)) dL_law_511 ?_
  refine lv_aload_n hx hb dL_law_512 rfl (lv_at hl 0 rfl) ?_
  refine lv_iload_n hx hb dL_law_513 rfl (lv_at hl 3 rfl) ?_
  refine lv_iconst (v := 2) hx hb dL_law_514 (by decide) ?_
  refine lv_iadd hx hb dL_law_515 ?_
  refine va_sld hx hb hX hbl hbA hS (hin 2 (by decide) (by decide)) dL_law_516 ?_
  refine lv_aload_n hx hb dL_law_517 rfl (lv_at hl 0 rfl) ?_
  refine lv_iload_n hx hb dL_law_518 rfl (lv_at hl 3 rfl) ?_
  refine lv_iconst (v := 3) hx hb dL_law_519 (by decide) ?_
  refine lv_iadd hx hb dL_law_520 ?_
  refine va_sld hx hb hX hbl hbA hS (hin 3 (by decide) (by decide)) dL_law_521 ?_
  refine l_cYi (rest := [.int r]) C0 E hl.1 vw_RL_48 (c6_put (xs (x3 + 1).toNatClampNeg) (xs (x3 + 2).toNatClampNeg) (xs (x3 + 3).toNatClampNeg) hfY) hP hS rfl rfl (Nat.le_of_ble_eq_true rfl) ⟨Nat.le_of_ble_eq_true rfl, Nat.le_of_ble_eq_true rfl⟩ dL_law_522 (fun H locs hP hS => ?_)
  refine lv_icmp_eq (tgt := 1390) hx hb dL_law_525 (by decide) (fun _ => ?_) (fun h9 => absurd rfl h9)
  exact next MX1 MY1 H locs ls hR1 hP hS hl
set_option maxHeartbeats 4000000 in
set_option maxRecDepth 100000 in
theorem law_c8 {p : Program} {l : Launch} {e : Env} {s : State} {m : MethodId} {below : List Frame} {meth : Method} {c : Code} {b L : Nat} {xs : Nat → Int32} {GX GY : XG} (C0 : lw_At p s m meth c b L xs) (E : LEnv GX GY s) (x3 : Int32) (hin : ∀ k : Int32, 0 ≤ k → k ≤ 5 → vp_in (x3 + k) L) (MX MY : SX) (H : Heap) (locs : List Loc) (ls : Array Slot) (hR : Rel MX MY) (hP : LWd GX GY MX MY H) (hS : va_S (fun q : Nat => s.heap.size ≤ q) s.heap H locs) (hl : lv_has ls 4 [(0, .ref b), (1, .ref (GX.2.1 0)), (2, .ref (GY.2.1 0)), (3, .int x3)]) (next : ∀ (MX MY : SX) (H : Heap) (locs : List Loc) (ls : Array Slot), Rel MX MY → LWd GX GY MX MY H → va_S (fun q : Nat => s.heap.size ≤ q) s.heap H locs → lv_has ls 4 [(0, .ref b), (1, .ref (GX.2.1 0)), (2, .ref (GY.2.1 0)), (3, .int x3)] → WL p l e s m b below meth c H locs (F0 m 1390 ls [])) : WL p l e s m b below meth c H locs (F0 m 530 ls []) := by
  obtain ⟨hx, hb, hr, hml, hown, hts, hX, hbl, hlocks, hgv⟩ := id C0
  have hbA : ¬ (fun q : Nat => s.heap.size ≤ q) b := Nat.not_le.mpr hbl
  refine lv_aload_n hx hb dL_law_530 rfl (lv_at hl 1 rfl) ?_
  refine lv_aload_n hx hb dL_law_531 rfl (lv_at hl 0 rfl) ?_
  refine lv_iload_n hx hb dL_law_532 rfl (lv_at hl 3 rfl) ?_
  refine lv_iconst (v := 1) hx hb dL_law_533 (by decide) ?_
  refine lv_iadd hx hb dL_law_534 ?_
  refine va_sld hx hb hX hbl hbA hS (hin 1 (by decide) (by decide)) dL_law_535 ?_
  obtain ⟨r, MX1, MY1, hfX, hfY, hR1⟩ := ag_fault (xs (x3 + 1).toNatClampNeg) MX MY hR
  refine l_cXi (rest := []) C0 E hl.1 vw_RL_49 (c5_fault (xs (x3 + 1).toNatClampNeg) hfX) hP hS rfl rfl (Nat.le_of_ble_eq_true rfl) ⟨Nat.le_of_ble_eq_true rfl, Nat.le_of_ble_eq_true rfl⟩ dL_law_536 (fun H locs hP hS => ?_)
  refine lv_aload_n hx hb dL_law_539 rfl (lv_at hl 2 rfl) ?_
  refine lv_aload_n hx hb dL_law_540 rfl (lv_at hl 0 rfl) ?_
  refine lv_iload_n hx hb dL_law_541 rfl (lv_at hl 3 rfl) ?_
  refine lv_iconst (v := 1) hx hb dL_law_542 (by decide) ?_
  refine lv_iadd hx hb dL_law_543 ?_
  refine va_sld hx hb hX hbl hbA hS (hin 1 (by decide) (by decide)) dL_law_544 ?_
  refine l_cYi (rest := [.int r]) C0 E hl.1 vw_RL_52 (c6_fault (xs (x3 + 1).toNatClampNeg) hfY) hP hS rfl rfl (Nat.le_of_ble_eq_true rfl) ⟨Nat.le_of_ble_eq_true rfl, Nat.le_of_ble_eq_true rfl⟩ dL_law_545 (fun H locs hP hS => ?_)
  refine lv_icmp_eq (tgt := 1390) hx hb dL_law_548 (by decide) (fun _ => ?_) (fun h9 => absurd rfl h9)
  exact next MX1 MY1 H locs ls hR1 hP hS hl
set_option maxHeartbeats 4000000 in
set_option maxRecDepth 100000 in
theorem law_c9 {p : Program} {l : Launch} {e : Env} {s : State} {m : MethodId} {below : List Frame} {meth : Method} {c : Code} {b L : Nat} {xs : Nat → Int32} {GX GY : XG} (C0 : lw_At p s m meth c b L xs) (E : LEnv GX GY s) (x3 : Int32) (hin : ∀ k : Int32, 0 ≤ k → k ≤ 5 → vp_in (x3 + k) L) (MX MY : SX) (H : Heap) (locs : List Loc) (ls : Array Slot) (hR : Rel MX MY) (hP : LWd GX GY MX MY H) (hS : va_S (fun q : Nat => s.heap.size ≤ q) s.heap H locs) (hl : lv_has ls 4 [(0, .ref b), (1, .ref (GX.2.1 0)), (2, .ref (GY.2.1 0)), (3, .int x3)]) (next : ∀ (MX MY : SX) (H : Heap) (locs : List Loc) (ls : Array Slot), Rel MX MY → LWd GX GY MX MY H → va_S (fun q : Nat => s.heap.size ≤ q) s.heap H locs → lv_has ls 4 [(0, .ref b), (1, .ref (GX.2.1 0)), (2, .ref (GY.2.1 0)), (3, .int x3)] → WL p l e s m b below meth c H locs (F0 m 1390 ls [])) : WL p l e s m b below meth c H locs (F0 m 553 ls []) := by
  obtain ⟨hx, hb, hr, hml, hown, hts, hX, hbl, hlocks, hgv⟩ := id C0
  have hbA : ¬ (fun q : Nat => s.heap.size ≤ q) b := Nat.not_le.mpr hbl
  refine lv_aload_n hx hb dL_law_553 rfl (lv_at hl 1 rfl) ?_
  refine lv_aload_n hx hb dL_law_554 rfl (lv_at hl 0 rfl) ?_
  refine lv_iload_n hx hb dL_law_555 rfl (lv_at hl 3 rfl) ?_
  refine lv_iconst (v := 1) hx hb dL_law_556 (by decide) ?_
  refine lv_iadd hx hb dL_law_557 ?_
  refine va_sld hx hb hX hbl hbA hS (hin 1 (by decide) (by decide)) dL_law_558 ?_
  obtain ⟨r, MX1, MY1, hfX, hfY, hR1⟩ := ag_lane (xs (x3 + 1).toNatClampNeg) MX MY hR
  refine l_cXi (rest := []) C0 E hl.1 vw_RL_53 (c5_lane (xs (x3 + 1).toNatClampNeg) hfX) hP hS rfl rfl (Nat.le_of_ble_eq_true rfl) ⟨Nat.le_of_ble_eq_true rfl, Nat.le_of_ble_eq_true rfl⟩ dL_law_559 (fun H locs hP hS => ?_)
  refine lv_aload_n hx hb dL_law_562 rfl (lv_at hl 2 rfl) ?_
  refine lv_aload_n hx hb dL_law_563 rfl (lv_at hl 0 rfl) ?_
  refine lv_iload_n hx hb dL_law_564 rfl (lv_at hl 3 rfl) ?_
  refine lv_iconst (v := 1) hx hb dL_law_565 (by decide) ?_
  refine lv_iadd hx hb dL_law_566 ?_
  refine va_sld hx hb hX hbl hbA hS (hin 1 (by decide) (by decide)) dL_law_567 ?_
  refine l_cYi (rest := [.int r]) C0 E hl.1 vw_RL_56 (c6_lane (xs (x3 + 1).toNatClampNeg) hfY) hP hS rfl rfl (Nat.le_of_ble_eq_true rfl) ⟨Nat.le_of_ble_eq_true rfl, Nat.le_of_ble_eq_true rfl⟩ dL_law_568 (fun H locs hP hS => ?_)
  refine lv_icmp_eq (tgt := 1390) hx hb dL_law_571 (by decide) (fun _ => ?_) (fun h9 => absurd rfl h9)
  exact next MX1 MY1 H locs ls hR1 hP hS hl
set_option maxHeartbeats 4000000 in
set_option maxRecDepth 100000 in
theorem law_c10 {p : Program} {l : Launch} {e : Env} {s : State} {m : MethodId} {below : List Frame} {meth : Method} {c : Code} {b L : Nat} {xs : Nat → Int32} {GX GY : XG} (C0 : lw_At p s m meth c b L xs) (E : LEnv GX GY s) (x3 : Int32) (hin : ∀ k : Int32, 0 ≤ k → k ≤ 5 → vp_in (x3 + k) L) (MX MY : SX) (H : Heap) (locs : List Loc) (ls : Array Slot) (hR : Rel MX MY) (hP : LWd GX GY MX MY H) (hS : va_S (fun q : Nat => s.heap.size ≤ q) s.heap H locs) (hl : lv_has ls 4 [(0, .ref b), (1, .ref (GX.2.1 0)), (2, .ref (GY.2.1 0)), (3, .int x3)]) (next : ∀ (MX MY : SX) (H : Heap) (locs : List Loc) (ls : Array Slot), Rel MX MY → LWd GX GY MX MY H → va_S (fun q : Nat => s.heap.size ≤ q) s.heap H locs → lv_has ls 4 [(0, .ref b), (1, .ref (GX.2.1 0)), (2, .ref (GY.2.1 0)), (3, .int x3)] → WL p l e s m b below meth c H locs (F0 m 1390 ls [])) : WL p l e s m b below meth c H locs (F0 m 576 ls []) := by
  obtain ⟨hx, hb, hr, hml, hown, hts, hX, hbl, hlocks, hgv⟩ := id C0
  have hbA : ¬ (fun q : Nat => s.heap.size ≤ q) b := Nat.not_le.mpr hbl
  refine lv_aload_n hx hb dL_law_576 rfl (lv_at hl 1 rfl) ?_
  refine lv_aload_n hx hb dL_law_577 rfl (lv_at hl 0 rfl) ?_
  refine lv_iload_n hx hb dL_law_578 rfl (lv_at hl 3 rfl) ?_
  refine lv_iconst (v := 1) hx hb dL_law_579 (by decide) ?_
  refine lv_iadd hx hb dL_law_580 ?_
  refine va_sld hx hb hX hbl hbA hS (hin 1 (by decide) (by decide)) dL_law_581 ?_
  refine lv_aload_n hx hb dL_law_582 rfl (lv_at hl 0 rfl) ?_
  refine lv_iload_n hx hb dL_law_583 rfl (lv_at hl 3 rfl) ?_
  refine lv_iconst (v := 2) hx hb dL_law_584 (by decide) ?_
  refine lv_iadd hx hb dL_law_585 ?_
  refine va_sld hx hb hX hbl hbA hS (hin 2 (by decide) (by decide)) dL_law_586 ?_
  obtain ⟨r, MX1, MY1, hfX, hfY, hR1⟩ := ag_shop (xs (x3 + 1).toNatClampNeg) (xs (x3 + 2).toNatClampNeg) MX MY hR
  refine l_cXi (rest := []) C0 E hl.1 vw_RL_57 (c5_shop (xs (x3 + 1).toNatClampNeg) (xs (x3 + 2).toNatClampNeg) hfX) hP hS rfl rfl (Nat.le_of_ble_eq_true rfl) ⟨Nat.le_of_ble_eq_true rfl, Nat.le_of_ble_eq_true rfl⟩ dL_law_587 (fun H locs hP hS => ?_)
  refine lv_aload_n hx hb dL_law_590 rfl (lv_at hl 2 rfl) ?_
  refine lv_aload_n hx hb dL_law_591 rfl (lv_at hl 0 rfl) ?_
  refine lv_iload_n hx hb dL_law_592 rfl (lv_at hl 3 rfl) ?_
  refine lv_iconst (v := 1) hx hb dL_law_593 (by decide) ?_
  refine lv_iadd hx hb dL_law_594 ?_
  refine va_sld hx hb hX hbl hbA hS (hin 1 (by decide) (by decide)) dL_law_595 ?_
  refine lv_aload_n hx hb dL_law_596 rfl (lv_at hl 0 rfl) ?_
  refine lv_iload_n hx hb dL_law_597 rfl (lv_at hl 3 rfl) ?_
  refine lv_iconst (v := 2) hx hb dL_law_598 (by decide) ?_
  refine lv_iadd hx hb dL_law_599 ?_
  refine va_sld hx hb hX hbl hbA hS (hin 2 (by decide) (by decide)) dL_law_600 ?_
  refine l_cYi (rest := [.int r]) C0 E hl.1 vw_RL_60 (c6_shop (xs (x3 + 1).toNatClampNeg) (xs (x3 + 2).toNatClampNeg) hfY) hP hS rfl rfl (Nat.le_of_ble_eq_true rfl) ⟨Nat.le_of_ble_eq_true rfl, Nat.le_of_ble_eq_true rfl⟩ dL_law_601 (fun H locs hP hS => ?_)
  refine lv_icmp_eq (tgt := 1390) hx hb dL_law_604 (by decide) (fun _ => ?_) (fun h9 => absurd rfl h9)
  exact next MX1 MY1 H locs ls hR1 hP hS hl
set_option maxHeartbeats 4000000 in
set_option maxRecDepth 100000 in
theorem law_c11 {p : Program} {l : Launch} {e : Env} {s : State} {m : MethodId} {below : List Frame} {meth : Method} {c : Code} {b L : Nat} {xs : Nat → Int32} {GX GY : XG} (C0 : lw_At p s m meth c b L xs) (E : LEnv GX GY s) (x3 : Int32) (hin : ∀ k : Int32, 0 ≤ k → k ≤ 5 → vp_in (x3 + k) L) (MX MY : SX) (H : Heap) (locs : List Loc) (ls : Array Slot) (hR : Rel MX MY) (hP : LWd GX GY MX MY H) (hS : va_S (fun q : Nat => s.heap.size ≤ q) s.heap H locs) (hl : lv_has ls 4 [(0, .ref b), (1, .ref (GX.2.1 0)), (2, .ref (GY.2.1 0)), (3, .int x3)]) (next : ∀ (MX MY : SX) (H : Heap) (locs : List Loc) (ls : Array Slot), Rel MX MY → LWd GX GY MX MY H → va_S (fun q : Nat => s.heap.size ≤ q) s.heap H locs → lv_has ls 4 [(0, .ref b), (1, .ref (GX.2.1 0)), (2, .ref (GY.2.1 0)), (3, .int x3)] → WL p l e s m b below meth c H locs (F0 m 1390 ls [])) : WL p l e s m b below meth c H locs (F0 m 609 ls []) := by
  obtain ⟨hx, hb, hr, hml, hown, hts, hX, hbl, hlocks, hgv⟩ := id C0
  have hbA : ¬ (fun q : Nat => s.heap.size ≤ q) b := Nat.not_le.mpr hbl
  refine lv_aload_n hx hb dL_law_609 rfl (lv_at hl 1 rfl) ?_
  refine lv_aload_n hx hb dL_law_610 rfl (lv_at hl 0 rfl) ?_
  refine lv_iload_n hx hb dL_law_611 rfl (lv_at hl 3 rfl) ?_
  refine lv_iconst (v := 1) hx hb dL_law_612 (by decide) ?_
  refine lv_iadd hx hb dL_law_613 ?_
  refine va_sld hx hb hX hbl hbA hS (hin 1 (by decide) (by decide)) dL_law_614 ?_
  refine lv_aload_n hx hb dL_law_615 rfl (lv_at hl 0 rfl) ?_
  refine lv_iload_n hx hb dL_law_616 rfl (lv_at hl 3 rfl) ?_
  refine lv_iconst (v := 2) hx hb dL_law_617 (by decide) ?_
  refine lv_iadd hx hb dL_law_618 ?_
  refine va_sld hx hb hX hbl hbA hS (hin 2 (by decide) (by decide)) dL_law_619 ?_
  obtain ⟨r, MX1, MY1, hfX, hfY, hR1⟩ := ag_mark (xs (x3 + 1).toNatClampNeg) (xs (x3 + 2).toNatClampNeg) MX MY hR
  refine l_cXi (rest := []) C0 E hl.1 vw_RL_61 (c5_mark (xs (x3 + 1).toNatClampNeg) (xs (x3 + 2).toNatClampNeg) hfX) hP hS rfl rfl (Nat.le_of_ble_eq_true rfl) ⟨Nat.le_of_ble_eq_true rfl, Nat.le_of_ble_eq_true rfl⟩ dL_law_620 (fun H locs hP hS => ?_)
  refine lv_aload_n hx hb dL_law_623 rfl (lv_at hl 2 rfl) ?_
  refine lv_aload_n hx hb dL_law_624 rfl (lv_at hl 0 rfl) ?_
  refine lv_iload_n hx hb dL_law_625 rfl (lv_at hl 3 rfl) ?_
  refine lv_iconst (v := 1) hx hb dL_law_626 (by decide) ?_
  refine lv_iadd hx hb dL_law_627 ?_
  refine va_sld hx hb hX hbl hbA hS (hin 1 (by decide) (by decide)) dL_law_628 ?_
  refine lv_aload_n hx hb dL_law_629 rfl (lv_at hl 0 rfl) ?_
  refine lv_iload_n hx hb dL_law_630 rfl (lv_at hl 3 rfl) ?_
  refine lv_iconst (v := 2) hx hb dL_law_631 (by decide) ?_
  refine lv_iadd hx hb dL_law_632 ?_
  refine va_sld hx hb hX hbl hbA hS (hin 2 (by decide) (by decide)) dL_law_633 ?_
  refine l_cYi (rest := [.int r]) C0 E hl.1 vw_RL_64 (c6_mark (xs (x3 + 1).toNatClampNeg) (xs (x3 + 2).toNatClampNeg) hfY) hP hS rfl rfl (Nat.le_of_ble_eq_true rfl) ⟨Nat.le_of_ble_eq_true rfl, Nat.le_of_ble_eq_true rfl⟩ dL_law_634 (fun H locs hP hS => ?_)
  refine lv_icmp_eq (tgt := 1390) hx hb dL_law_637 (by decide) (fun _ => ?_) (fun h9 => absurd rfl h9)
  exact next MX1 MY1 H locs ls hR1 hP hS hl
set_option maxHeartbeats 4000000 in
set_option maxRecDepth 100000 in
theorem law_c12 {p : Program} {l : Launch} {e : Env} {s : State} {m : MethodId} {below : List Frame} {meth : Method} {c : Code} {b L : Nat} {xs : Nat → Int32} {GX GY : XG} (C0 : lw_At p s m meth c b L xs) (E : LEnv GX GY s) (x3 : Int32) (hin : ∀ k : Int32, 0 ≤ k → k ≤ 5 → vp_in (x3 + k) L) (MX MY : SX) (H : Heap) (locs : List Loc) (ls : Array Slot) (hR : Rel MX MY) (hP : LWd GX GY MX MY H) (hS : va_S (fun q : Nat => s.heap.size ≤ q) s.heap H locs) (hl : lv_has ls 4 [(0, .ref b), (1, .ref (GX.2.1 0)), (2, .ref (GY.2.1 0)), (3, .int x3)]) (next : ∀ (MX MY : SX) (H : Heap) (locs : List Loc) (ls : Array Slot), Rel MX MY → LWd GX GY MX MY H → va_S (fun q : Nat => s.heap.size ≤ q) s.heap H locs → lv_has ls 4 [(0, .ref b), (1, .ref (GX.2.1 0)), (2, .ref (GY.2.1 0)), (3, .int x3)] → WL p l e s m b below meth c H locs (F0 m 1390 ls [])) : WL p l e s m b below meth c H locs (F0 m 642 ls []) := by
  obtain ⟨hx, hb, hr, hml, hown, hts, hX, hbl, hlocks, hgv⟩ := id C0
  have hbA : ¬ (fun q : Nat => s.heap.size ≤ q) b := Nat.not_le.mpr hbl
  refine lv_aload_n hx hb dL_law_642 rfl (lv_at hl 1 rfl) ?_
  refine lv_aload_n hx hb dL_law_643 rfl (lv_at hl 0 rfl) ?_
  refine lv_iload_n hx hb dL_law_644 rfl (lv_at hl 3 rfl) ?_
  refine lv_iconst (v := 1) hx hb dL_law_645 (by decide) ?_
  refine lv_iadd hx hb dL_law_646 ?_
  refine va_sld hx hb hX hbl hbA hS (hin 1 (by decide) (by decide)) dL_law_647 ?_
  refine lv_aload_n hx hb dL_law_648 rfl (lv_at hl 0 rfl) ?_
  refine lv_iload_n hx hb dL_law_649 rfl (lv_at hl 3 rfl) ?_
  refine lv_iconst (v := 2) hx hb dL_law_650 (by decide) ?_
  refine lv_iadd hx hb dL_law_651 ?_
  refine va_sld hx hb hX hbl hbA hS (hin 2 (by decide) (by decide)) dL_law_652 ?_
  obtain ⟨r, MX1, MY1, hfX, hfY, hR1⟩ := ag_stock (xs (x3 + 1).toNatClampNeg) (xs (x3 + 2).toNatClampNeg) MX MY hR
  refine l_cXi (rest := []) C0 E hl.1 vw_RL_65 (c5_stock (xs (x3 + 1).toNatClampNeg) (xs (x3 + 2).toNatClampNeg) hfX) hP hS rfl rfl (Nat.le_of_ble_eq_true rfl) ⟨Nat.le_of_ble_eq_true rfl, Nat.le_of_ble_eq_true rfl⟩ dL_law_653 (fun H locs hP hS => ?_)
  refine lv_aload_n hx hb dL_law_656 rfl (lv_at hl 2 rfl) ?_
  refine lv_aload_n hx hb dL_law_657 rfl (lv_at hl 0 rfl) ?_
  refine lv_iload_n hx hb dL_law_658 rfl (lv_at hl 3 rfl) ?_
  refine lv_iconst (v := 1) hx hb dL_law_659 (by decide) ?_
  refine lv_iadd hx hb dL_law_660 ?_
  refine va_sld hx hb hX hbl hbA hS (hin 1 (by decide) (by decide)) dL_law_661 ?_
  refine lv_aload_n hx hb dL_law_662 rfl (lv_at hl 0 rfl) ?_
  refine lv_iload_n hx hb dL_law_663 rfl (lv_at hl 3 rfl) ?_
  refine lv_iconst (v := 2) hx hb dL_law_664 (by decide) ?_
  refine lv_iadd hx hb dL_law_665 ?_
  refine va_sld hx hb hX hbl hbA hS (hin 2 (by decide) (by decide)) dL_law_666 ?_
  refine l_cYi (rest := [.int r]) C0 E hl.1 vw_RL_68 (c6_stock (xs (x3 + 1).toNatClampNeg) (xs (x3 + 2).toNatClampNeg) hfY) hP hS rfl rfl (Nat.le_of_ble_eq_true rfl) ⟨Nat.le_of_ble_eq_true rfl, Nat.le_of_ble_eq_true rfl⟩ dL_law_667 (fun H locs hP hS => ?_)
  refine lv_icmp_eq (tgt := 1390) hx hb dL_law_670 (by decide) (fun _ => ?_) (fun h9 => absurd rfl h9)
  exact next MX1 MY1 H locs ls hR1 hP hS hl
set_option maxHeartbeats 4000000 in
set_option maxRecDepth 100000 in
theorem law_c13 {p : Program} {l : Launch} {e : Env} {s : State} {m : MethodId} {below : List Frame} {meth : Method} {c : Code} {b L : Nat} {xs : Nat → Int32} {GX GY : XG} (C0 : lw_At p s m meth c b L xs) (E : LEnv GX GY s) (x3 : Int32) (hin : ∀ k : Int32, 0 ≤ k → k ≤ 5 → vp_in (x3 + k) L) (MX MY : SX) (H : Heap) (locs : List Loc) (ls : Array Slot) (hR : Rel MX MY) (hP : LWd GX GY MX MY H) (hS : va_S (fun q : Nat => s.heap.size ≤ q) s.heap H locs) (hl : lv_has ls 4 [(0, .ref b), (1, .ref (GX.2.1 0)), (2, .ref (GY.2.1 0)), (3, .int x3)]) (next : ∀ (MX MY : SX) (H : Heap) (locs : List Loc) (ls : Array Slot), Rel MX MY → LWd GX GY MX MY H → va_S (fun q : Nat => s.heap.size ≤ q) s.heap H locs → lv_has ls 4 [(0, .ref b), (1, .ref (GX.2.1 0)), (2, .ref (GY.2.1 0)), (3, .int x3)] → WL p l e s m b below meth c H locs (F0 m 1390 ls [])) : WL p l e s m b below meth c H locs (F0 m 675 ls []) := by
  obtain ⟨hx, hb, hr, hml, hown, hts, hX, hbl, hlocks, hgv⟩ := id C0
  have hbA : ¬ (fun q : Nat => s.heap.size ≤ q) b := Nat.not_le.mpr hbl
  refine lv_aload_n hx hb dL_law_675 rfl (lv_at hl 1 rfl) ?_
  refine lv_aload_n hx hb dL_law_676 rfl (lv_at hl 0 rfl) ?_
  refine lv_iload_n hx hb dL_law_677 rfl (lv_at hl 3 rfl) ?_
  refine lv_iconst (v := 1) hx hb dL_law_678 (by decide) ?_
  refine lv_iadd hx hb dL_law_679 ?_
  refine va_sld hx hb hX hbl hbA hS (hin 1 (by decide) (by decide)) dL_law_680 ?_
  obtain ⟨r, MX1, MY1, hfX, hfY, hR1⟩ := ag_redeem (xs (x3 + 1).toNatClampNeg) MX MY hR
  refine l_cXi (rest := []) C0 E hl.1 vw_RL_69 (c5_redeem (xs (x3 + 1).toNatClampNeg) hfX) hP hS rfl rfl (Nat.le_of_ble_eq_true rfl) ⟨Nat.le_of_ble_eq_true rfl, Nat.le_of_ble_eq_true rfl⟩ dL_law_681 (fun H locs hP hS => ?_)
  refine lv_aload_n hx hb dL_law_684 rfl (lv_at hl 2 rfl) ?_
  refine lv_aload_n hx hb dL_law_685 rfl (lv_at hl 0 rfl) ?_
  refine lv_iload_n hx hb dL_law_686 rfl (lv_at hl 3 rfl) ?_
  refine lv_iconst (v := 1) hx hb dL_law_687 (by decide) ?_
  refine lv_iadd hx hb dL_law_688 ?_
  refine va_sld hx hb hX hbl hbA hS (hin 1 (by decide) (by decide)) dL_law_689 ?_
  refine l_cYi (rest := [.int r]) C0 E hl.1 vw_RL_72 (c6_redeem (xs (x3 + 1).toNatClampNeg) hfY) hP hS rfl rfl (Nat.le_of_ble_eq_true rfl) ⟨Nat.le_of_ble_eq_true rfl, Nat.le_of_ble_eq_true rfl⟩ dL_law_690 (fun H locs hP hS => ?_)
  refine lv_icmp_eq (tgt := 1390) hx hb dL_law_693 (by decide) (fun _ => ?_) (fun h9 => absurd rfl h9)
  exact next MX1 MY1 H locs ls hR1 hP hS hl
set_option maxHeartbeats 4000000 in
set_option maxRecDepth 100000 in
theorem law_c14 {p : Program} {l : Launch} {e : Env} {s : State} {m : MethodId} {below : List Frame} {meth : Method} {c : Code} {b L : Nat} {xs : Nat → Int32} {GX GY : XG} (C0 : lw_At p s m meth c b L xs) (E : LEnv GX GY s) (x3 : Int32) (hin : ∀ k : Int32, 0 ≤ k → k ≤ 5 → vp_in (x3 + k) L) (MX MY : SX) (H : Heap) (locs : List Loc) (ls : Array Slot) (hR : Rel MX MY) (hP : LWd GX GY MX MY H) (hS : va_S (fun q : Nat => s.heap.size ≤ q) s.heap H locs) (hl : lv_has ls 4 [(0, .ref b), (1, .ref (GX.2.1 0)), (2, .ref (GY.2.1 0)), (3, .int x3)]) (next : ∀ (MX MY : SX) (H : Heap) (locs : List Loc) (ls : Array Slot), Rel MX MY → LWd GX GY MX MY H → va_S (fun q : Nat => s.heap.size ≤ q) s.heap H locs → lv_has ls 4 [(0, .ref b), (1, .ref (GX.2.1 0)), (2, .ref (GY.2.1 0)), (3, .int x3)] → WL p l e s m b below meth c H locs (F0 m 1390 ls [])) : WL p l e s m b below meth c H locs (F0 m 698 ls []) := by
  obtain ⟨hx, hb, hr, hml, hown, hts, hX, hbl, hlocks, hgv⟩ := id C0
  have hbA : ¬ (fun q : Nat => s.heap.size ≤ q) b := Nat.not_le.mpr hbl
  refine lv_aload_n hx hb dL_law_698 rfl (lv_at hl 1 rfl) ?_
  refine lv_aload_n hx hb dL_law_699 rfl (lv_at hl 0 rfl) ?_
  refine lv_iload_n hx hb dL_law_700 rfl (lv_at hl 3 rfl) ?_
  refine lv_iconst (v := 1) hx hb dL_law_701 (by decide) ?_
  refine lv_iadd hx hb dL_law_702 ?_
  refine va_sld hx hb hX hbl hbA hS (hin 1 (by decide) (by decide)) dL_law_703 ?_
  refine lv_aload_n hx hb dL_law_704 rfl (lv_at hl 0 rfl) ?_
  refine lv_iload_n hx hb dL_law_705 rfl (lv_at hl 3 rfl) ?_
  refine lv_iconst (v := 2) hx hb dL_law_706 (by decide) ?_
  refine lv_iadd hx hb dL_law_707 ?_
  refine va_sld hx hb hX hbl hbA hS (hin 2 (by decide) (by decide)) dL_law_708 ?_
  refine lv_aload_n hx hb dL_law_709 rfl (lv_at hl 0 rfl) ?_
  refine lv_iload_n hx hb dL_law_710 rfl (lv_at hl 3 rfl) ?_
  refine lv_iconst (v := 3) hx hb dL_law_711 (by decide) ?_
  refine lv_iadd hx hb dL_law_712 ?_
  refine va_sld hx hb hX hbl hbA hS (hin 3 (by decide) (by decide)) dL_law_713 ?_
  obtain ⟨r, MX1, MY1, hfX, hfY, hR1⟩ := ag_pawn (xs (x3 + 1).toNatClampNeg) (xs (x3 + 2).toNatClampNeg) (xs (x3 + 3).toNatClampNeg) MX MY hR
  refine l_cXi (rest := []) C0 E hl.1 vw_RL_73 (c5_pawn (xs (x3 + 1).toNatClampNeg) (xs (x3 + 2).toNatClampNeg) (xs (x3 + 3).toNatClampNeg) hfX) hP hS rfl rfl (Nat.le_of_ble_eq_true rfl) ⟨Nat.le_of_ble_eq_true rfl, Nat.le_of_ble_eq_true rfl⟩ dL_law_714 (fun H locs hP hS => ?_)
  refine lv_aload_n hx hb dL_law_717 rfl (lv_at hl 2 rfl) ?_
  refine lv_aload_n hx hb dL_law_718 rfl (lv_at hl 0 rfl) ?_
  refine lv_iload_n hx hb dL_law_719 rfl (lv_at hl 3 rfl) ?_
  refine lv_iconst (v := 1) hx hb dL_law_720 (by decide) ?_
  refine lv_iadd hx hb dL_law_721 ?_
  refine va_sld hx hb hX hbl hbA hS (hin 1 (by decide) (by decide)) dL_law_722 ?_
  refine lv_aload_n hx hb dL_law_723 rfl (lv_at hl 0 rfl) ?_
  refine lv_iload_n hx hb dL_law_724 rfl (lv_at hl 3 rfl) ?_
  refine lv_iconst (v := 2) hx hb dL_law_725 (by decide) ?_
  refine lv_iadd hx hb dL_law_726 ?_
  refine va_sld hx hb hX hbl hbA hS (hin 2 (by decide) (by decide)) dL_law_727 ?_
  refine lv_aload_n hx hb dL_law_728 rfl (lv_at hl 0 rfl) ?_
  refine lv_iload_n hx hb dL_law_729 rfl (lv_at hl 3 rfl) ?_
  refine lv_iconst (v := 3) hx hb dL_law_730 (by decide) ?_
  refine lv_iadd hx hb dL_law_731 ?_
  refine va_sld hx hb hX hbl hbA hS (hin 3 (by decide) (by decide)) dL_law_732 ?_
  refine l_cYi (rest := [.int r]) C0 E hl.1 vw_RL_76 (c6_pawn (xs (x3 + 1).toNatClampNeg) (xs (x3 + 2).toNatClampNeg) (xs (x3 + 3).toNatClampNeg) hfY) hP hS rfl rfl (Nat.le_of_ble_eq_true rfl) ⟨Nat.le_of_ble_eq_true rfl, Nat.le_of_ble_eq_true rfl⟩ dL_law_733 (fun H locs hP hS => ?_)
  refine lv_icmp_eq (tgt := 1390) hx hb dL_law_736 (by decide) (fun _ => ?_) (fun h9 => absurd rfl h9)
  exact next MX1 MY1 H locs ls hR1 hP hS hl
set_option maxHeartbeats 4000000 in
set_option maxRecDepth 100000 in
theorem law_c15 {p : Program} {l : Launch} {e : Env} {s : State} {m : MethodId} {below : List Frame} {meth : Method} {c : Code} {b L : Nat} {xs : Nat → Int32} {GX GY : XG} (C0 : lw_At p s m meth c b L xs) (E : LEnv GX GY s) (x3 : Int32) (hin : ∀ k : Int32, 0 ≤ k → k ≤ 5 → vp_in (x3 + k) L) (MX MY : SX) (H : Heap) (locs : List Loc) (ls : Array Slot) (hR : Rel MX MY) (hP : LWd GX GY MX MY H) (hS : va_S (fun q : Nat => s.heap.size ≤ q) s.heap H locs) (hl : lv_has ls 4 [(0, .ref b), (1, .ref (GX.2.1 0)), (2, .ref (GY.2.1 0)), (3, .int x3)]) (next : ∀ (MX MY : SX) (H : Heap) (locs : List Loc) (ls : Array Slot), Rel MX MY → LWd GX GY MX MY H → va_S (fun q : Nat => s.heap.size ≤ q) s.heap H locs → lv_has ls 4 [(0, .ref b), (1, .ref (GX.2.1 0)), (2, .ref (GY.2.1 0)), (3, .int x3)] → WL p l e s m b below meth c H locs (F0 m 1390 ls [])) : WL p l e s m b below meth c H locs (F0 m 741 ls []) := by
  obtain ⟨hx, hb, hr, hml, hown, hts, hX, hbl, hlocks, hgv⟩ := id C0
  have hbA : ¬ (fun q : Nat => s.heap.size ≤ q) b := Nat.not_le.mpr hbl
  refine lv_aload_n hx hb dL_law_741 rfl (lv_at hl 1 rfl) ?_
  obtain ⟨r, MX1, MY1, hfX, hfY, hR1⟩ := ag_week MX MY hR
  refine l_cXi (rest := []) C0 E hl.1 vw_RL_77 (c5_week hfX) hP hS rfl rfl (Nat.le_of_ble_eq_true rfl) ⟨Nat.le_of_ble_eq_true rfl, Nat.le_of_ble_eq_true rfl⟩ dL_law_742 (fun H locs hP hS => ?_)
  refine lv_aload_n hx hb dL_law_745 rfl (lv_at hl 2 rfl) ?_
  refine l_cYi (rest := [.int r]) C0 E hl.1 vw_RL_81 (c6_week hfY) hP hS rfl rfl (Nat.le_of_ble_eq_true rfl) ⟨Nat.le_of_ble_eq_true rfl, Nat.le_of_ble_eq_true rfl⟩ dL_law_746 (fun H locs hP hS => ?_)
  refine lv_icmp_eq (tgt := 1390) hx hb dL_law_749 (by decide) (fun _ => ?_) (fun h9 => absurd rfl h9)
  exact next MX1 MY1 H locs ls hR1 hP hS hl
set_option maxHeartbeats 4000000 in
set_option maxRecDepth 100000 in
theorem law_c16 {p : Program} {l : Launch} {e : Env} {s : State} {m : MethodId} {below : List Frame} {meth : Method} {c : Code} {b L : Nat} {xs : Nat → Int32} {GX GY : XG} (C0 : lw_At p s m meth c b L xs) (E : LEnv GX GY s) (x3 : Int32) (hin : ∀ k : Int32, 0 ≤ k → k ≤ 5 → vp_in (x3 + k) L) (MX MY : SX) (H : Heap) (locs : List Loc) (ls : Array Slot) (hR : Rel MX MY) (hP : LWd GX GY MX MY H) (hS : va_S (fun q : Nat => s.heap.size ≤ q) s.heap H locs) (hl : lv_has ls 4 [(0, .ref b), (1, .ref (GX.2.1 0)), (2, .ref (GY.2.1 0)), (3, .int x3)]) (next : ∀ (MX MY : SX) (H : Heap) (locs : List Loc) (ls : Array Slot), Rel MX MY → LWd GX GY MX MY H → va_S (fun q : Nat => s.heap.size ≤ q) s.heap H locs → lv_has ls 4 [(0, .ref b), (1, .ref (GX.2.1 0)), (2, .ref (GY.2.1 0)), (3, .int x3)] → WL p l e s m b below meth c H locs (F0 m 1390 ls [])) : WL p l e s m b below meth c H locs (F0 m 754 ls []) := by
  obtain ⟨hx, hb, hr, hml, hown, hts, hX, hbl, hlocks, hgv⟩ := id C0
  have hbA : ¬ (fun q : Nat => s.heap.size ≤ q) b := Nat.not_le.mpr hbl
  refine lv_aload_n hx hb dL_law_754 rfl (lv_at hl 1 rfl) ?_
  refine lv_aload_n hx hb dL_law_755 rfl (lv_at hl 0 rfl) ?_
  refine lv_iload_n hx hb dL_law_756 rfl (lv_at hl 3 rfl) ?_
  refine lv_iconst (v := 1) hx hb dL_law_757 (by decide) ?_
  refine lv_iadd hx hb dL_law_758 ?_
  refine va_sld hx hb hX hbl hbA hS (hin 1 (by decide) (by decide)) dL_law_759 ?_
  refine lv_aload_n hx hb dL_law_760 rfl (lv_at hl 0 rfl) ?_
  refine lv_iload_n hx hb dL_law_761 rfl (lv_at hl 3 rfl) ?_
  refine lv_iconst (v := 2) hx hb dL_law_762 (by decide) ?_
  refine lv_iadd hx hb dL_law_763 ?_
  refine va_sld hx hb hX hbl hbA hS (hin 2 (by decide) (by decide)) dL_law_764 ?_
  obtain ⟨r, MX1, MY1, hfX, hfY, hR1⟩ := ag_give (xs (x3 + 1).toNatClampNeg) (xs (x3 + 2).toNatClampNeg) MX MY hR
  refine l_cXi (rest := []) C0 E hl.1 vw_RL_82 (c5_give (xs (x3 + 1).toNatClampNeg) (xs (x3 + 2).toNatClampNeg) hfX) hP hS rfl rfl (Nat.le_of_ble_eq_true rfl) ⟨Nat.le_of_ble_eq_true rfl, Nat.le_of_ble_eq_true rfl⟩ dL_law_765 (fun H locs hP hS => ?_)
  refine lv_aload_n hx hb dL_law_768 rfl (lv_at hl 2 rfl) ?_
  refine lv_aload_n hx hb dL_law_769 rfl (lv_at hl 0 rfl) ?_
  refine lv_iload_n hx hb dL_law_770 rfl (lv_at hl 3 rfl) ?_
  refine lv_iconst (v := 1) hx hb dL_law_771 (by decide) ?_
  refine lv_iadd hx hb dL_law_772 ?_
  refine va_sld hx hb hX hbl hbA hS (hin 1 (by decide) (by decide)) dL_law_773 ?_
  refine lv_aload_n hx hb dL_law_774 rfl (lv_at hl 0 rfl) ?_
  refine lv_iload_n hx hb dL_law_775 rfl (lv_at hl 3 rfl) ?_
  refine lv_iconst (v := 2) hx hb dL_law_776 (by decide) ?_
  refine lv_iadd hx hb dL_law_777 ?_
  refine va_sld hx hb hX hbl hbA hS (hin 2 (by decide) (by decide)) dL_law_778 ?_
  refine l_cYi (rest := [.int r]) C0 E hl.1 vw_RL_85 (c6_give (xs (x3 + 1).toNatClampNeg) (xs (x3 + 2).toNatClampNeg) hfY) hP hS rfl rfl (Nat.le_of_ble_eq_true rfl) ⟨Nat.le_of_ble_eq_true rfl, Nat.le_of_ble_eq_true rfl⟩ dL_law_779 (fun H locs hP hS => ?_)
  refine lv_icmp_eq (tgt := 1390) hx hb dL_law_782 (by decide) (fun _ => ?_) (fun h9 => absurd rfl h9)
  exact next MX1 MY1 H locs ls hR1 hP hS hl
set_option maxHeartbeats 4000000 in
set_option maxRecDepth 100000 in
theorem law_c17 {p : Program} {l : Launch} {e : Env} {s : State} {m : MethodId} {below : List Frame} {meth : Method} {c : Code} {b L : Nat} {xs : Nat → Int32} {GX GY : XG} (C0 : lw_At p s m meth c b L xs) (E : LEnv GX GY s) (x3 : Int32) (hin : ∀ k : Int32, 0 ≤ k → k ≤ 5 → vp_in (x3 + k) L) (MX MY : SX) (H : Heap) (locs : List Loc) (ls : Array Slot) (hR : Rel MX MY) (hP : LWd GX GY MX MY H) (hS : va_S (fun q : Nat => s.heap.size ≤ q) s.heap H locs) (hl : lv_has ls 4 [(0, .ref b), (1, .ref (GX.2.1 0)), (2, .ref (GY.2.1 0)), (3, .int x3)]) (next : ∀ (MX MY : SX) (H : Heap) (locs : List Loc) (ls : Array Slot), Rel MX MY → LWd GX GY MX MY H → va_S (fun q : Nat => s.heap.size ≤ q) s.heap H locs → lv_has ls 4 [(0, .ref b), (1, .ref (GX.2.1 0)), (2, .ref (GY.2.1 0)), (3, .int x3)] → WL p l e s m b below meth c H locs (F0 m 1390 ls [])) : WL p l e s m b below meth c H locs (F0 m 787 ls []) := by
  obtain ⟨hx, hb, hr, hml, hown, hts, hX, hbl, hlocks, hgv⟩ := id C0
  have hbA : ¬ (fun q : Nat => s.heap.size ≤ q) b := Nat.not_le.mpr hbl
  refine lv_aload_n hx hb dL_law_787 rfl (lv_at hl 1 rfl) ?_
  refine lv_aload_n hx hb dL_law_788 rfl (lv_at hl 0 rfl) ?_
  refine lv_iload_n hx hb dL_law_789 rfl (lv_at hl 3 rfl) ?_
  refine lv_iconst (v := 1) hx hb dL_law_790 (by decide) ?_
  refine lv_iadd hx hb dL_law_791 ?_
  refine va_sld hx hb hX hbl hbA hS (hin 1 (by decide) (by decide)) dL_law_792 ?_
  obtain ⟨r, MX1, MY1, hfX, hfY, hR1⟩ := ag_undo (xs (x3 + 1).toNatClampNeg) MX MY hR
  refine l_cXi (rest := []) C0 E hl.1 vw_RL_86 (c5_undo (xs (x3 + 1).toNatClampNeg) hfX) hP hS rfl rfl (Nat.le_of_ble_eq_true rfl) ⟨Nat.le_of_ble_eq_true rfl, Nat.le_of_ble_eq_true rfl⟩ dL_law_793 (fun H locs hP hS => ?_)
  refine lv_aload_n hx hb dL_law_796 rfl (lv_at hl 2 rfl) ?_
  refine lv_aload_n hx hb dL_law_797 rfl (lv_at hl 0 rfl) ?_
  refine lv_iload_n hx hb dL_law_798 rfl (lv_at hl 3 rfl) ?_
  refine lv_iconst (v := 1) hx hb dL_law_799 (by decide) ?_
  refine lv_iadd hx hb dL_law_800 ?_
  refine va_sld hx hb hX hbl hbA hS (hin 1 (by decide) (by decide)) dL_law_801 ?_
  refine l_cYi (rest := [.int r]) C0 E hl.1 vw_RL_89 (c6_undo (xs (x3 + 1).toNatClampNeg) hfY) hP hS rfl rfl (Nat.le_of_ble_eq_true rfl) ⟨Nat.le_of_ble_eq_true rfl, Nat.le_of_ble_eq_true rfl⟩ dL_law_802 (fun H locs hP hS => ?_)
  refine lv_icmp_eq (tgt := 1390) hx hb dL_law_805 (by decide) (fun _ => ?_) (fun h9 => absurd rfl h9)
  exact next MX1 MY1 H locs ls hR1 hP hS hl
set_option maxHeartbeats 4000000 in
set_option maxRecDepth 100000 in
theorem law_c18 {p : Program} {l : Launch} {e : Env} {s : State} {m : MethodId} {below : List Frame} {meth : Method} {c : Code} {b L : Nat} {xs : Nat → Int32} {GX GY : XG} (C0 : lw_At p s m meth c b L xs) (E : LEnv GX GY s) (x3 : Int32) (hin : ∀ k : Int32, 0 ≤ k → k ≤ 5 → vp_in (x3 + k) L) (MX MY : SX) (H : Heap) (locs : List Loc) (ls : Array Slot) (hR : Rel MX MY) (hP : LWd GX GY MX MY H) (hS : va_S (fun q : Nat => s.heap.size ≤ q) s.heap H locs) (hl : lv_has ls 4 [(0, .ref b), (1, .ref (GX.2.1 0)), (2, .ref (GY.2.1 0)), (3, .int x3)]) (next : ∀ (MX MY : SX) (H : Heap) (locs : List Loc) (ls : Array Slot), Rel MX MY → LWd GX GY MX MY H → va_S (fun q : Nat => s.heap.size ≤ q) s.heap H locs → lv_has ls 4 [(0, .ref b), (1, .ref (GX.2.1 0)), (2, .ref (GY.2.1 0)), (3, .int x3)] → WL p l e s m b below meth c H locs (F0 m 1390 ls [])) : WL p l e s m b below meth c H locs (F0 m 810 ls []) := by
  obtain ⟨hx, hb, hr, hml, hown, hts, hX, hbl, hlocks, hgv⟩ := id C0
  have hbA : ¬ (fun q : Nat => s.heap.size ≤ q) b := Nat.not_le.mpr hbl
  refine lv_aload_n hx hb dL_law_810 rfl (lv_at hl 1 rfl) ?_
  refine lv_aload_n hx hb dL_law_811 rfl (lv_at hl 0 rfl) ?_
  refine lv_iload_n hx hb dL_law_812 rfl (lv_at hl 3 rfl) ?_
  refine lv_iconst (v := 1) hx hb dL_law_813 (by decide) ?_
  refine lv_iadd hx hb dL_law_814 ?_
  refine va_sld hx hb hX hbl hbA hS (hin 1 (by decide) (by decide)) dL_law_815 ?_
  obtain ⟨r, MX1, MY1, hfX, hfY, hR1⟩ := ag_keep (xs (x3 + 1).toNatClampNeg) MX MY hR
  refine l_cXi (rest := []) C0 E hl.1 vw_RL_90 (c5_keep (xs (x3 + 1).toNatClampNeg) hfX) hP hS rfl rfl (Nat.le_of_ble_eq_true rfl) ⟨Nat.le_of_ble_eq_true rfl, Nat.le_of_ble_eq_true rfl⟩ dL_law_816 (fun H locs hP hS => ?_)
  refine lv_aload_n hx hb dL_law_819 rfl (lv_at hl 2 rfl) ?_
  refine lv_aload_n hx hb dL_law_820 rfl (lv_at hl 0 rfl) ?_
  refine lv_iload_n hx hb dL_law_821 rfl (lv_at hl 3 rfl) ?_
  refine lv_iconst (v := 1) hx hb dL_law_822 (by decide) ?_
  refine lv_iadd hx hb dL_law_823 ?_
  refine va_sld hx hb hX hbl hbA hS (hin 1 (by decide) (by decide)) dL_law_824 ?_
  refine l_cYi (rest := [.int r]) C0 E hl.1 vw_RL_93 (c6_keep (xs (x3 + 1).toNatClampNeg) hfY) hP hS rfl rfl (Nat.le_of_ble_eq_true rfl) ⟨Nat.le_of_ble_eq_true rfl, Nat.le_of_ble_eq_true rfl⟩ dL_law_825 (fun H locs hP hS => ?_)
  refine lv_icmp_eq (tgt := 1390) hx hb dL_law_828 (by decide) (fun _ => ?_) (fun h9 => absurd rfl h9)
  exact next MX1 MY1 H locs ls hR1 hP hS hl
set_option maxHeartbeats 4000000 in
set_option maxRecDepth 100000 in
theorem law_c19 {p : Program} {l : Launch} {e : Env} {s : State} {m : MethodId} {below : List Frame} {meth : Method} {c : Code} {b L : Nat} {xs : Nat → Int32} {GX GY : XG} (C0 : lw_At p s m meth c b L xs) (E : LEnv GX GY s) (x3 : Int32) (hin : ∀ k : Int32, 0 ≤ k → k ≤ 5 → vp_in (x3 + k) L) (MX MY : SX) (H : Heap) (locs : List Loc) (ls : Array Slot) (hR : Rel MX MY) (hP : LWd GX GY MX MY H) (hS : va_S (fun q : Nat => s.heap.size ≤ q) s.heap H locs) (hl : lv_has ls 4 [(0, .ref b), (1, .ref (GX.2.1 0)), (2, .ref (GY.2.1 0)), (3, .int x3)]) (next : ∀ (MX MY : SX) (H : Heap) (locs : List Loc) (ls : Array Slot), Rel MX MY → LWd GX GY MX MY H → va_S (fun q : Nat => s.heap.size ≤ q) s.heap H locs → lv_has ls 4 [(0, .ref b), (1, .ref (GX.2.1 0)), (2, .ref (GY.2.1 0)), (3, .int x3)] → WL p l e s m b below meth c H locs (F0 m 1390 ls [])) : WL p l e s m b below meth c H locs (F0 m 833 ls []) := by
  obtain ⟨hx, hb, hr, hml, hown, hts, hX, hbl, hlocks, hgv⟩ := id C0
  have hbA : ¬ (fun q : Nat => s.heap.size ≤ q) b := Nat.not_le.mpr hbl
  refine lv_aload_n hx hb dL_law_833 rfl (lv_at hl 1 rfl) ?_
  refine lv_aload_n hx hb dL_law_834 rfl (lv_at hl 0 rfl) ?_
  refine lv_iload_n hx hb dL_law_835 rfl (lv_at hl 3 rfl) ?_
  refine lv_iconst (v := 1) hx hb dL_law_836 (by decide) ?_
  refine lv_iadd hx hb dL_law_837 ?_
  refine va_sld hx hb hX hbl hbA hS (hin 1 (by decide) (by decide)) dL_law_838 ?_
  obtain ⟨r, MX1, MY1, hfX, hfY, hR1⟩ := ag_on (xs (x3 + 1).toNatClampNeg) MX MY hR
  refine l_cXi (rest := []) C0 E hl.1 vw_RL_94 (c5_on (xs (x3 + 1).toNatClampNeg) hfX) hP hS rfl rfl (Nat.le_of_ble_eq_true rfl) ⟨Nat.le_of_ble_eq_true rfl, Nat.le_of_ble_eq_true rfl⟩ dL_law_839 (fun H locs hP hS => ?_)
  refine lv_aload_n hx hb dL_law_842 rfl (lv_at hl 2 rfl) ?_
  refine lv_aload_n hx hb dL_law_843 rfl (lv_at hl 0 rfl) ?_
  refine lv_iload_n hx hb dL_law_844 rfl (lv_at hl 3 rfl) ?_
  refine lv_iconst (v := 1) hx hb dL_law_845 (by decide) ?_
  refine lv_iadd hx hb dL_law_846 ?_
  refine va_sld hx hb hX hbl hbA hS (hin 1 (by decide) (by decide)) dL_law_847 ?_
  refine l_cYi (rest := [.int r]) C0 E hl.1 vw_RL_97 (c6_on (xs (x3 + 1).toNatClampNeg) hfY) hP hS rfl rfl (Nat.le_of_ble_eq_true rfl) ⟨Nat.le_of_ble_eq_true rfl, Nat.le_of_ble_eq_true rfl⟩ dL_law_848 (fun H locs hP hS => ?_)
  refine lv_icmp_eq (tgt := 1390) hx hb dL_law_851 (by decide) (fun _ => ?_) (fun h9 => absurd rfl h9)
  exact next MX1 MY1 H locs ls hR1 hP hS hl
set_option maxHeartbeats 4000000 in
set_option maxRecDepth 100000 in
theorem law_c20 {p : Program} {l : Launch} {e : Env} {s : State} {m : MethodId} {below : List Frame} {meth : Method} {c : Code} {b L : Nat} {xs : Nat → Int32} {GX GY : XG} (C0 : lw_At p s m meth c b L xs) (E : LEnv GX GY s) (x3 : Int32) (hin : ∀ k : Int32, 0 ≤ k → k ≤ 5 → vp_in (x3 + k) L) (MX MY : SX) (H : Heap) (locs : List Loc) (ls : Array Slot) (hR : Rel MX MY) (hP : LWd GX GY MX MY H) (hS : va_S (fun q : Nat => s.heap.size ≤ q) s.heap H locs) (hl : lv_has ls 4 [(0, .ref b), (1, .ref (GX.2.1 0)), (2, .ref (GY.2.1 0)), (3, .int x3)]) (next : ∀ (MX MY : SX) (H : Heap) (locs : List Loc) (ls : Array Slot), Rel MX MY → LWd GX GY MX MY H → va_S (fun q : Nat => s.heap.size ≤ q) s.heap H locs → lv_has ls 4 [(0, .ref b), (1, .ref (GX.2.1 0)), (2, .ref (GY.2.1 0)), (3, .int x3)] → WL p l e s m b below meth c H locs (F0 m 1390 ls [])) : WL p l e s m b below meth c H locs (F0 m 856 ls []) := by
  obtain ⟨hx, hb, hr, hml, hown, hts, hX, hbl, hlocks, hgv⟩ := id C0
  have hbA : ¬ (fun q : Nat => s.heap.size ≤ q) b := Nat.not_le.mpr hbl
  refine lv_aload_n hx hb dL_law_856 rfl (lv_at hl 1 rfl) ?_
  refine lv_aload_n hx hb dL_law_857 rfl (lv_at hl 0 rfl) ?_
  refine lv_iload_n hx hb dL_law_858 rfl (lv_at hl 3 rfl) ?_
  refine lv_iconst (v := 1) hx hb dL_law_859 (by decide) ?_
  refine lv_iadd hx hb dL_law_860 ?_
  refine va_sld hx hb hX hbl hbA hS (hin 1 (by decide) (by decide)) dL_law_861 ?_
  obtain ⟨r, MX1, MY1, hfX, hfY, hR1⟩ := ag_deep (xs (x3 + 1).toNatClampNeg) MX MY hR
  refine l_cXi (rest := []) C0 E hl.1 vw_RL_98 (c5_deep (xs (x3 + 1).toNatClampNeg) hfX) hP hS rfl rfl (Nat.le_of_ble_eq_true rfl) ⟨Nat.le_of_ble_eq_true rfl, Nat.le_of_ble_eq_true rfl⟩ dL_law_862 (fun H locs hP hS => ?_)
  refine lv_aload_n hx hb dL_law_865 rfl (lv_at hl 2 rfl) ?_
  refine lv_aload_n hx hb dL_law_866 rfl (lv_at hl 0 rfl) ?_
  refine lv_iload_n hx hb dL_law_867 rfl (lv_at hl 3 rfl) ?_
  refine lv_iconst (v := 1) hx hb dL_law_868 (by decide) ?_
  refine lv_iadd hx hb dL_law_869 ?_
  refine va_sld hx hb hX hbl hbA hS (hin 1 (by decide) (by decide)) dL_law_870 ?_
  refine l_cYi (rest := [.int r]) C0 E hl.1 vw_RL_101 (c6_deep (xs (x3 + 1).toNatClampNeg) hfY) hP hS rfl rfl (Nat.le_of_ble_eq_true rfl) ⟨Nat.le_of_ble_eq_true rfl, Nat.le_of_ble_eq_true rfl⟩ dL_law_871 (fun H locs hP hS => ?_)
  refine lv_icmp_eq (tgt := 1390) hx hb dL_law_874 (by decide) (fun _ => ?_) (fun h9 => absurd rfl h9)
  exact next MX1 MY1 H locs ls hR1 hP hS hl
set_option maxHeartbeats 4000000 in
set_option maxRecDepth 100000 in
theorem law_c21 {p : Program} {l : Launch} {e : Env} {s : State} {m : MethodId} {below : List Frame} {meth : Method} {c : Code} {b L : Nat} {xs : Nat → Int32} {GX GY : XG} (C0 : lw_At p s m meth c b L xs) (E : LEnv GX GY s) (x3 : Int32) (hin : ∀ k : Int32, 0 ≤ k → k ≤ 5 → vp_in (x3 + k) L) (MX MY : SX) (H : Heap) (locs : List Loc) (ls : Array Slot) (hR : Rel MX MY) (hP : LWd GX GY MX MY H) (hS : va_S (fun q : Nat => s.heap.size ≤ q) s.heap H locs) (hl : lv_has ls 4 [(0, .ref b), (1, .ref (GX.2.1 0)), (2, .ref (GY.2.1 0)), (3, .int x3)]) (next : ∀ (MX MY : SX) (H : Heap) (locs : List Loc) (ls : Array Slot), Rel MX MY → LWd GX GY MX MY H → va_S (fun q : Nat => s.heap.size ≤ q) s.heap H locs → lv_has ls 4 [(0, .ref b), (1, .ref (GX.2.1 0)), (2, .ref (GY.2.1 0)), (3, .int x3)] → WL p l e s m b below meth c H locs (F0 m 1390 ls [])) : WL p l e s m b below meth c H locs (F0 m 879 ls []) := by
  obtain ⟨hx, hb, hr, hml, hown, hts, hX, hbl, hlocks, hgv⟩ := id C0
  have hbA : ¬ (fun q : Nat => s.heap.size ≤ q) b := Nat.not_le.mpr hbl
  refine lv_aload_n hx hb dL_law_879 rfl (lv_at hl 1 rfl) ?_
  refine lv_aload_n hx hb dL_law_880 rfl (lv_at hl 0 rfl) ?_
  refine lv_iload_n hx hb dL_law_881 rfl (lv_at hl 3 rfl) ?_
  refine lv_iconst (v := 1) hx hb dL_law_882 (by decide) ?_
  refine lv_iadd hx hb dL_law_883 ?_
  refine va_sld hx hb hX hbl hbA hS (hin 1 (by decide) (by decide)) dL_law_884 ?_
  obtain ⟨r, MX1, MY1, hfX, hfY, hR1⟩ := ag_inside (xs (x3 + 1).toNatClampNeg) MX MY hR
  refine l_cXi (rest := []) C0 E hl.1 vw_RL_102 (c5_inside (xs (x3 + 1).toNatClampNeg) hfX) hP hS rfl rfl (Nat.le_of_ble_eq_true rfl) ⟨Nat.le_of_ble_eq_true rfl, Nat.le_of_ble_eq_true rfl⟩ dL_law_885 (fun H locs hP hS => ?_)
  refine lv_aload_n hx hb dL_law_888 rfl (lv_at hl 2 rfl) ?_
  refine lv_aload_n hx hb dL_law_889 rfl (lv_at hl 0 rfl) ?_
  refine lv_iload_n hx hb dL_law_890 rfl (lv_at hl 3 rfl) ?_
  refine lv_iconst (v := 1) hx hb dL_law_891 (by decide) ?_
  refine lv_iadd hx hb dL_law_892 ?_
  refine va_sld hx hb hX hbl hbA hS (hin 1 (by decide) (by decide)) dL_law_893 ?_
  refine l_cYi (rest := [.int r]) C0 E hl.1 vw_RL_105 (c6_inside (xs (x3 + 1).toNatClampNeg) hfY) hP hS rfl rfl (Nat.le_of_ble_eq_true rfl) ⟨Nat.le_of_ble_eq_true rfl, Nat.le_of_ble_eq_true rfl⟩ dL_law_894 (fun H locs hP hS => ?_)
  refine lv_icmp_eq (tgt := 1390) hx hb dL_law_897 (by decide) (fun _ => ?_) (fun h9 => absurd rfl h9)
  exact next MX1 MY1 H locs ls hR1 hP hS hl
set_option maxHeartbeats 4000000 in
set_option maxRecDepth 100000 in
theorem law_c22 {p : Program} {l : Launch} {e : Env} {s : State} {m : MethodId} {below : List Frame} {meth : Method} {c : Code} {b L : Nat} {xs : Nat → Int32} {GX GY : XG} (C0 : lw_At p s m meth c b L xs) (E : LEnv GX GY s) (x3 : Int32) (hin : ∀ k : Int32, 0 ≤ k → k ≤ 5 → vp_in (x3 + k) L) (MX MY : SX) (H : Heap) (locs : List Loc) (ls : Array Slot) (hR : Rel MX MY) (hP : LWd GX GY MX MY H) (hS : va_S (fun q : Nat => s.heap.size ≤ q) s.heap H locs) (hl : lv_has ls 4 [(0, .ref b), (1, .ref (GX.2.1 0)), (2, .ref (GY.2.1 0)), (3, .int x3)]) (next : ∀ (MX MY : SX) (H : Heap) (locs : List Loc) (ls : Array Slot), Rel MX MY → LWd GX GY MX MY H → va_S (fun q : Nat => s.heap.size ≤ q) s.heap H locs → lv_has ls 4 [(0, .ref b), (1, .ref (GX.2.1 0)), (2, .ref (GY.2.1 0)), (3, .int x3)] → WL p l e s m b below meth c H locs (F0 m 1390 ls [])) : WL p l e s m b below meth c H locs (F0 m 902 ls []) := by
  obtain ⟨hx, hb, hr, hml, hown, hts, hX, hbl, hlocks, hgv⟩ := id C0
  have hbA : ¬ (fun q : Nat => s.heap.size ≤ q) b := Nat.not_le.mpr hbl
  refine lv_aload_n hx hb dL_law_902 rfl (lv_at hl 1 rfl) ?_
  obtain ⟨r, MX1, MY1, hfX, hfY, hR1⟩ := ag_rings MX MY hR
  refine l_cXi (rest := []) C0 E hl.1 vw_RL_106 (c5_rings hfX) hP hS rfl rfl (Nat.le_of_ble_eq_true rfl) ⟨Nat.le_of_ble_eq_true rfl, Nat.le_of_ble_eq_true rfl⟩ dL_law_903 (fun H locs hP hS => ?_)
  refine lv_aload_n hx hb dL_law_906 rfl (lv_at hl 2 rfl) ?_
  refine l_cYi (rest := [.int r]) C0 E hl.1 vw_RL_109 (c6_rings hfY) hP hS rfl rfl (Nat.le_of_ble_eq_true rfl) ⟨Nat.le_of_ble_eq_true rfl, Nat.le_of_ble_eq_true rfl⟩ dL_law_907 (fun H locs hP hS => ?_)
  refine lv_icmp_eq (tgt := 1390) hx hb dL_law_910 (by decide) (fun _ => ?_) (fun h9 => absurd rfl h9)
  exact next MX1 MY1 H locs ls hR1 hP hS hl
set_option maxHeartbeats 4000000 in
set_option maxRecDepth 100000 in
theorem law_c23 {p : Program} {l : Launch} {e : Env} {s : State} {m : MethodId} {below : List Frame} {meth : Method} {c : Code} {b L : Nat} {xs : Nat → Int32} {GX GY : XG} (C0 : lw_At p s m meth c b L xs) (E : LEnv GX GY s) (x3 : Int32) (hin : ∀ k : Int32, 0 ≤ k → k ≤ 5 → vp_in (x3 + k) L) (MX MY : SX) (H : Heap) (locs : List Loc) (ls : Array Slot) (hR : Rel MX MY) (hP : LWd GX GY MX MY H) (hS : va_S (fun q : Nat => s.heap.size ≤ q) s.heap H locs) (hl : lv_has ls 4 [(0, .ref b), (1, .ref (GX.2.1 0)), (2, .ref (GY.2.1 0)), (3, .int x3)]) (next : ∀ (MX MY : SX) (H : Heap) (locs : List Loc) (ls : Array Slot), Rel MX MY → LWd GX GY MX MY H → va_S (fun q : Nat => s.heap.size ≤ q) s.heap H locs → lv_has ls 4 [(0, .ref b), (1, .ref (GX.2.1 0)), (2, .ref (GY.2.1 0)), (3, .int x3)] → WL p l e s m b below meth c H locs (F0 m 1390 ls [])) : WL p l e s m b below meth c H locs (F0 m 915 ls []) := by
  obtain ⟨hx, hb, hr, hml, hown, hts, hX, hbl, hlocks, hgv⟩ := id C0
  have hbA : ¬ (fun q : Nat => s.heap.size ≤ q) b := Nat.not_le.mpr hbl
  refine lv_aload_n hx hb dL_law_915 rfl (lv_at hl 1 rfl) ?_
  refine lv_aload_n hx hb dL_law_916 rfl (lv_at hl 0 rfl) ?_
  refine lv_iload_n hx hb dL_law_917 rfl (lv_at hl 3 rfl) ?_
  refine lv_iconst (v := 1) hx hb dL_law_918 (by decide) ?_
  refine lv_iadd hx hb dL_law_919 ?_
  refine va_sld hx hb hX hbl hbA hS (hin 1 (by decide) (by decide)) dL_law_920 ?_
  obtain ⟨r, MX1, MY1, hfX, hfY, hR1⟩ := ag_goods (xs (x3 + 1).toNatClampNeg) MX MY hR
  refine l_cXi (rest := []) C0 E hl.1 vw_RL_110 (c5_goods (xs (x3 + 1).toNatClampNeg) hfX) hP hS rfl rfl (Nat.le_of_ble_eq_true rfl) ⟨Nat.le_of_ble_eq_true rfl, Nat.le_of_ble_eq_true rfl⟩ dL_law_921 (fun H locs hP hS => ?_)
  refine lv_aload_n hx hb dL_law_924 rfl (lv_at hl 2 rfl) ?_
  refine lv_aload_n hx hb dL_law_925 rfl (lv_at hl 0 rfl) ?_
  refine lv_iload_n hx hb dL_law_926 rfl (lv_at hl 3 rfl) ?_
  refine lv_iconst (v := 1) hx hb dL_law_927 (by decide) ?_
  refine lv_iadd hx hb dL_law_928 ?_
  refine va_sld hx hb hX hbl hbA hS (hin 1 (by decide) (by decide)) dL_law_929 ?_
  refine l_cYi (rest := [.int r]) C0 E hl.1 vw_RL_113 (c6_goods (xs (x3 + 1).toNatClampNeg) hfY) hP hS rfl rfl (Nat.le_of_ble_eq_true rfl) ⟨Nat.le_of_ble_eq_true rfl, Nat.le_of_ble_eq_true rfl⟩ dL_law_930 (fun H locs hP hS => ?_)
  refine lv_icmp_eq (tgt := 1390) hx hb dL_law_933 (by decide) (fun _ => ?_) (fun h9 => absurd rfl h9)
  exact next MX1 MY1 H locs ls hR1 hP hS hl
set_option maxHeartbeats 4000000 in
set_option maxRecDepth 100000 in
theorem law_c24 {p : Program} {l : Launch} {e : Env} {s : State} {m : MethodId} {below : List Frame} {meth : Method} {c : Code} {b L : Nat} {xs : Nat → Int32} {GX GY : XG} (C0 : lw_At p s m meth c b L xs) (E : LEnv GX GY s) (x3 : Int32) (hin : ∀ k : Int32, 0 ≤ k → k ≤ 5 → vp_in (x3 + k) L) (MX MY : SX) (H : Heap) (locs : List Loc) (ls : Array Slot) (hR : Rel MX MY) (hP : LWd GX GY MX MY H) (hS : va_S (fun q : Nat => s.heap.size ≤ q) s.heap H locs) (hl : lv_has ls 4 [(0, .ref b), (1, .ref (GX.2.1 0)), (2, .ref (GY.2.1 0)), (3, .int x3)]) (next : ∀ (MX MY : SX) (H : Heap) (locs : List Loc) (ls : Array Slot), Rel MX MY → LWd GX GY MX MY H → va_S (fun q : Nat => s.heap.size ≤ q) s.heap H locs → lv_has ls 4 [(0, .ref b), (1, .ref (GX.2.1 0)), (2, .ref (GY.2.1 0)), (3, .int x3)] → WL p l e s m b below meth c H locs (F0 m 1390 ls [])) : WL p l e s m b below meth c H locs (F0 m 938 ls []) := by
  obtain ⟨hx, hb, hr, hml, hown, hts, hX, hbl, hlocks, hgv⟩ := id C0
  have hbA : ¬ (fun q : Nat => s.heap.size ≤ q) b := Nat.not_le.mpr hbl
  refine lv_aload_n hx hb dL_law_938 rfl (lv_at hl 1 rfl) ?_
  obtain ⟨r, MX1, MY1, hfX, hfY, hR1⟩ := ag_hangs MX MY hR
  refine l_cXi (rest := []) C0 E hl.1 vw_RL_114 (c5_hangs hfX) hP hS rfl rfl (Nat.le_of_ble_eq_true rfl) ⟨Nat.le_of_ble_eq_true rfl, Nat.le_of_ble_eq_true rfl⟩ dL_law_939 (fun H locs hP hS => ?_)
  refine lv_aload_n hx hb dL_law_942 rfl (lv_at hl 2 rfl) ?_
  refine l_cYi (rest := [.int r]) C0 E hl.1 vw_RL_117 (c6_hangs hfY) hP hS rfl rfl (Nat.le_of_ble_eq_true rfl) ⟨Nat.le_of_ble_eq_true rfl, Nat.le_of_ble_eq_true rfl⟩ dL_law_943 (fun H locs hP hS => ?_)
  refine lv_icmp_eq (tgt := 1390) hx hb dL_law_946 (by decide) (fun _ => ?_) (fun h9 => absurd rfl h9)
  exact next MX1 MY1 H locs ls hR1 hP hS hl
set_option maxHeartbeats 4000000 in
set_option maxRecDepth 100000 in
theorem law_c25 {p : Program} {l : Launch} {e : Env} {s : State} {m : MethodId} {below : List Frame} {meth : Method} {c : Code} {b L : Nat} {xs : Nat → Int32} {GX GY : XG} (C0 : lw_At p s m meth c b L xs) (E : LEnv GX GY s) (x3 : Int32) (hin : ∀ k : Int32, 0 ≤ k → k ≤ 5 → vp_in (x3 + k) L) (MX MY : SX) (H : Heap) (locs : List Loc) (ls : Array Slot) (hR : Rel MX MY) (hP : LWd GX GY MX MY H) (hS : va_S (fun q : Nat => s.heap.size ≤ q) s.heap H locs) (hl : lv_has ls 4 [(0, .ref b), (1, .ref (GX.2.1 0)), (2, .ref (GY.2.1 0)), (3, .int x3)]) (next : ∀ (MX MY : SX) (H : Heap) (locs : List Loc) (ls : Array Slot), Rel MX MY → LWd GX GY MX MY H → va_S (fun q : Nat => s.heap.size ≤ q) s.heap H locs → lv_has ls 4 [(0, .ref b), (1, .ref (GX.2.1 0)), (2, .ref (GY.2.1 0)), (3, .int x3)] → WL p l e s m b below meth c H locs (F0 m 1390 ls [])) : WL p l e s m b below meth c H locs (F0 m 951 ls []) := by
  obtain ⟨hx, hb, hr, hml, hown, hts, hX, hbl, hlocks, hgv⟩ := id C0
  have hbA : ¬ (fun q : Nat => s.heap.size ≤ q) b := Nat.not_le.mpr hbl
  refine lv_aload_n hx hb dL_law_951 rfl (lv_at hl 1 rfl) ?_
  refine lv_aload_n hx hb dL_law_952 rfl (lv_at hl 0 rfl) ?_
  refine lv_iload_n hx hb dL_law_953 rfl (lv_at hl 3 rfl) ?_
  refine lv_iconst (v := 1) hx hb dL_law_954 (by decide) ?_
  refine lv_iadd hx hb dL_law_955 ?_
  refine va_sld hx hb hX hbl hbA hS (hin 1 (by decide) (by decide)) dL_law_956 ?_
  obtain ⟨r, MX1, MY1, hfX, hfY, hR1⟩ := ag_worth (xs (x3 + 1).toNatClampNeg) MX MY hR
  refine l_cXi (rest := []) C0 E hl.1 vw_RL_118 (c5_worth (xs (x3 + 1).toNatClampNeg) hfX) hP hS rfl rfl (Nat.le_of_ble_eq_true rfl) ⟨Nat.le_of_ble_eq_true rfl, Nat.le_of_ble_eq_true rfl⟩ dL_law_957 (fun H locs hP hS => ?_)
  refine lv_aload_n hx hb dL_law_960 rfl (lv_at hl 2 rfl) ?_
  refine lv_aload_n hx hb dL_law_961 rfl (lv_at hl 0 rfl) ?_
  refine lv_iload_n hx hb dL_law_962 rfl (lv_at hl 3 rfl) ?_
  refine lv_iconst (v := 1) hx hb dL_law_963 (by decide) ?_
  refine lv_iadd hx hb dL_law_964 ?_
  refine va_sld hx hb hX hbl hbA hS (hin 1 (by decide) (by decide)) dL_law_965 ?_
  refine l_cYi (rest := [.int r]) C0 E hl.1 vw_RL_121 (c6_worth (xs (x3 + 1).toNatClampNeg) hfY) hP hS rfl rfl (Nat.le_of_ble_eq_true rfl) ⟨Nat.le_of_ble_eq_true rfl, Nat.le_of_ble_eq_true rfl⟩ dL_law_966 (fun H locs hP hS => ?_)
  refine lv_icmp_eq (tgt := 1390) hx hb dL_law_969 (by decide) (fun _ => ?_) (fun h9 => absurd rfl h9)
  exact next MX1 MY1 H locs ls hR1 hP hS hl
set_option maxHeartbeats 4000000 in
set_option maxRecDepth 100000 in
theorem law_c26 {p : Program} {l : Launch} {e : Env} {s : State} {m : MethodId} {below : List Frame} {meth : Method} {c : Code} {b L : Nat} {xs : Nat → Int32} {GX GY : XG} (C0 : lw_At p s m meth c b L xs) (E : LEnv GX GY s) (x3 : Int32) (hin : ∀ k : Int32, 0 ≤ k → k ≤ 5 → vp_in (x3 + k) L) (MX MY : SX) (H : Heap) (locs : List Loc) (ls : Array Slot) (hR : Rel MX MY) (hP : LWd GX GY MX MY H) (hS : va_S (fun q : Nat => s.heap.size ≤ q) s.heap H locs) (hl : lv_has ls 4 [(0, .ref b), (1, .ref (GX.2.1 0)), (2, .ref (GY.2.1 0)), (3, .int x3)]) (next : ∀ (MX MY : SX) (H : Heap) (locs : List Loc) (ls : Array Slot), Rel MX MY → LWd GX GY MX MY H → va_S (fun q : Nat => s.heap.size ≤ q) s.heap H locs → lv_has ls 4 [(0, .ref b), (1, .ref (GX.2.1 0)), (2, .ref (GY.2.1 0)), (3, .int x3)] → WL p l e s m b below meth c H locs (F0 m 1390 ls [])) : WL p l e s m b below meth c H locs (F0 m 974 ls []) := by
  obtain ⟨hx, hb, hr, hml, hown, hts, hX, hbl, hlocks, hgv⟩ := id C0
  have hbA : ¬ (fun q : Nat => s.heap.size ≤ q) b := Nat.not_le.mpr hbl
  refine lv_aload_n hx hb dL_law_974 rfl (lv_at hl 1 rfl) ?_
  refine lv_aload_n hx hb dL_law_975 rfl (lv_at hl 0 rfl) ?_
  refine lv_iload_n hx hb dL_law_976 rfl (lv_at hl 3 rfl) ?_
  refine lv_iconst (v := 1) hx hb dL_law_977 (by decide) ?_
  refine lv_iadd hx hb dL_law_978 ?_
  refine va_sld hx hb hX hbl hbA hS (hin 1 (by decide) (by decide)) dL_law_979 ?_
  refine lv_aload_n hx hb dL_law_980 rfl (lv_at hl 0 rfl) ?_
  refine lv_iload_n hx hb dL_law_981 rfl (lv_at hl 3 rfl) ?_
  refine lv_iconst (v := 2) hx hb dL_law_982 (by decide) ?_
  refine lv_iadd hx hb dL_law_983 ?_
  refine va_sld hx hb hX hbl hbA hS (hin 2 (by decide) (by decide)) dL_law_984 ?_
  obtain ⟨r, MX1, MY1, hfX, hfY, hR1⟩ := ag_chalk (xs (x3 + 1).toNatClampNeg) (xs (x3 + 2).toNatClampNeg) MX MY hR
  refine l_cXi (rest := []) C0 E hl.1 vw_RL_122 (c5_chalk (xs (x3 + 1).toNatClampNeg) (xs (x3 + 2).toNatClampNeg) hfX) hP hS rfl rfl (Nat.le_of_ble_eq_true rfl) ⟨Nat.le_of_ble_eq_true rfl, Nat.le_of_ble_eq_true rfl⟩ dL_law_985 (fun H locs hP hS => ?_)
  refine lv_aload_n hx hb dL_law_988 rfl (lv_at hl 2 rfl) ?_
  refine lv_aload_n hx hb dL_law_989 rfl (lv_at hl 0 rfl) ?_
  refine lv_iload_n hx hb dL_law_990 rfl (lv_at hl 3 rfl) ?_
  refine lv_iconst (v := 1) hx hb dL_law_991 (by decide) ?_
  refine lv_iadd hx hb dL_law_992 ?_
  refine va_sld hx hb hX hbl hbA hS (hin 1 (by decide) (by decide)) dL_law_993 ?_
  refine lv_aload_n hx hb dL_law_994 rfl (lv_at hl 0 rfl) ?_
  refine lv_iload_n hx hb dL_law_995 rfl (lv_at hl 3 rfl) ?_
  refine lv_iconst (v := 2) hx hb dL_law_996 (by decide) ?_
  refine lv_iadd hx hb dL_law_997 ?_
  refine va_sld hx hb hX hbl hbA hS (hin 2 (by decide) (by decide)) dL_law_998 ?_
  refine l_cYi (rest := [.int r]) C0 E hl.1 vw_RL_125 (c6_chalk (xs (x3 + 1).toNatClampNeg) (xs (x3 + 2).toNatClampNeg) hfY) hP hS rfl rfl (Nat.le_of_ble_eq_true rfl) ⟨Nat.le_of_ble_eq_true rfl, Nat.le_of_ble_eq_true rfl⟩ dL_law_999 (fun H locs hP hS => ?_)
  refine lv_icmp_eq (tgt := 1390) hx hb dL_law_1002 (by decide) (fun _ => ?_) (fun h9 => absurd rfl h9)
  exact next MX1 MY1 H locs ls hR1 hP hS hl
set_option maxHeartbeats 4000000 in
set_option maxRecDepth 100000 in
theorem law_c27 {p : Program} {l : Launch} {e : Env} {s : State} {m : MethodId} {below : List Frame} {meth : Method} {c : Code} {b L : Nat} {xs : Nat → Int32} {GX GY : XG} (C0 : lw_At p s m meth c b L xs) (E : LEnv GX GY s) (x3 : Int32) (hin : ∀ k : Int32, 0 ≤ k → k ≤ 5 → vp_in (x3 + k) L) (MX MY : SX) (H : Heap) (locs : List Loc) (ls : Array Slot) (hR : Rel MX MY) (hP : LWd GX GY MX MY H) (hS : va_S (fun q : Nat => s.heap.size ≤ q) s.heap H locs) (hl : lv_has ls 4 [(0, .ref b), (1, .ref (GX.2.1 0)), (2, .ref (GY.2.1 0)), (3, .int x3)]) (next : ∀ (MX MY : SX) (H : Heap) (locs : List Loc) (ls : Array Slot), Rel MX MY → LWd GX GY MX MY H → va_S (fun q : Nat => s.heap.size ≤ q) s.heap H locs → lv_has ls 4 [(0, .ref b), (1, .ref (GX.2.1 0)), (2, .ref (GY.2.1 0)), (3, .int x3)] → WL p l e s m b below meth c H locs (F0 m 1390 ls [])) : WL p l e s m b below meth c H locs (F0 m 1007 ls []) := by
  obtain ⟨hx, hb, hr, hml, hown, hts, hX, hbl, hlocks, hgv⟩ := id C0
  have hbA : ¬ (fun q : Nat => s.heap.size ≤ q) b := Nat.not_le.mpr hbl
  refine lv_aload_n hx hb dL_law_1007 rfl (lv_at hl 1 rfl) ?_
  obtain ⟨r, MX1, MY1, hfX, hfY, hR1⟩ := ag_can MX MY hR
  refine l_cXi (rest := []) C0 E hl.1 vw_RL_126 (c5_can hfX) hP hS rfl rfl (Nat.le_of_ble_eq_true rfl) ⟨Nat.le_of_ble_eq_true rfl, Nat.le_of_ble_eq_true rfl⟩ dL_law_1008 (fun H locs hP hS => ?_)
  refine lv_aload_n hx hb dL_law_1011 rfl (lv_at hl 2 rfl) ?_
  refine l_cYi (rest := [.int r]) C0 E hl.1 vw_RL_129 (c6_can hfY) hP hS rfl rfl (Nat.le_of_ble_eq_true rfl) ⟨Nat.le_of_ble_eq_true rfl, Nat.le_of_ble_eq_true rfl⟩ dL_law_1012 (fun H locs hP hS => ?_)
  refine lv_icmp_eq (tgt := 1390) hx hb dL_law_1015 (by decide) (fun _ => ?_) (fun h9 => absurd rfl h9)
  exact next MX1 MY1 H locs ls hR1 hP hS hl
set_option maxHeartbeats 4000000 in
set_option maxRecDepth 100000 in
theorem law_c28 {p : Program} {l : Launch} {e : Env} {s : State} {m : MethodId} {below : List Frame} {meth : Method} {c : Code} {b L : Nat} {xs : Nat → Int32} {GX GY : XG} (C0 : lw_At p s m meth c b L xs) (E : LEnv GX GY s) (x3 : Int32) (hin : ∀ k : Int32, 0 ≤ k → k ≤ 5 → vp_in (x3 + k) L) (MX MY : SX) (H : Heap) (locs : List Loc) (ls : Array Slot) (hR : Rel MX MY) (hP : LWd GX GY MX MY H) (hS : va_S (fun q : Nat => s.heap.size ≤ q) s.heap H locs) (hl : lv_has ls 4 [(0, .ref b), (1, .ref (GX.2.1 0)), (2, .ref (GY.2.1 0)), (3, .int x3)]) (next : ∀ (MX MY : SX) (H : Heap) (locs : List Loc) (ls : Array Slot), Rel MX MY → LWd GX GY MX MY H → va_S (fun q : Nat => s.heap.size ≤ q) s.heap H locs → lv_has ls 4 [(0, .ref b), (1, .ref (GX.2.1 0)), (2, .ref (GY.2.1 0)), (3, .int x3)] → WL p l e s m b below meth c H locs (F0 m 1390 ls [])) : WL p l e s m b below meth c H locs (F0 m 1020 ls []) := by
  obtain ⟨hx, hb, hr, hml, hown, hts, hX, hbl, hlocks, hgv⟩ := id C0
  have hbA : ¬ (fun q : Nat => s.heap.size ≤ q) b := Nat.not_le.mpr hbl
  refine lv_aload_n hx hb dL_law_1020 rfl (lv_at hl 1 rfl) ?_
  refine lv_aload_n hx hb dL_law_1021 rfl (lv_at hl 0 rfl) ?_
  refine lv_iload_n hx hb dL_law_1022 rfl (lv_at hl 3 rfl) ?_
  refine lv_iconst (v := 1) hx hb dL_law_1023 (by decide) ?_
  refine lv_iadd hx hb dL_law_1024 ?_
  refine va_sld hx hb hX hbl hbA hS (hin 1 (by decide) (by decide)) dL_law_1025 ?_
  obtain ⟨r, MX1, MY1, hfX, hfY, hR1⟩ := ag_order (xs (x3 + 1).toNatClampNeg) MX MY hR
  refine l_cXi (rest := []) C0 E hl.1 vw_RL_130 (c5_order (xs (x3 + 1).toNatClampNeg) hfX) hP hS rfl rfl (Nat.le_of_ble_eq_true rfl) ⟨Nat.le_of_ble_eq_true rfl, Nat.le_of_ble_eq_true rfl⟩ dL_law_1026 (fun H locs hP hS => ?_)
  refine lv_aload_n hx hb dL_law_1029 rfl (lv_at hl 2 rfl) ?_
  refine lv_aload_n hx hb dL_law_1030 rfl (lv_at hl 0 rfl) ?_
  refine lv_iload_n hx hb dL_law_1031 rfl (lv_at hl 3 rfl) ?_
  refine lv_iconst (v := 1) hx hb dL_law_1032 (by decide) ?_
  refine lv_iadd hx hb dL_law_1033 ?_
  refine va_sld hx hb hX hbl hbA hS (hin 1 (by decide) (by decide)) dL_law_1034 ?_
  refine l_cYi (rest := [.int r]) C0 E hl.1 vw_RL_133 (c6_order (xs (x3 + 1).toNatClampNeg) hfY) hP hS rfl rfl (Nat.le_of_ble_eq_true rfl) ⟨Nat.le_of_ble_eq_true rfl, Nat.le_of_ble_eq_true rfl⟩ dL_law_1035 (fun H locs hP hS => ?_)
  refine lv_icmp_eq (tgt := 1390) hx hb dL_law_1038 (by decide) (fun _ => ?_) (fun h9 => absurd rfl h9)
  exact next MX1 MY1 H locs ls hR1 hP hS hl
set_option maxHeartbeats 4000000 in
set_option maxRecDepth 100000 in
theorem law_c29 {p : Program} {l : Launch} {e : Env} {s : State} {m : MethodId} {below : List Frame} {meth : Method} {c : Code} {b L : Nat} {xs : Nat → Int32} {GX GY : XG} (C0 : lw_At p s m meth c b L xs) (E : LEnv GX GY s) (x3 : Int32) (hin : ∀ k : Int32, 0 ≤ k → k ≤ 5 → vp_in (x3 + k) L) (MX MY : SX) (H : Heap) (locs : List Loc) (ls : Array Slot) (hR : Rel MX MY) (hP : LWd GX GY MX MY H) (hS : va_S (fun q : Nat => s.heap.size ≤ q) s.heap H locs) (hl : lv_has ls 4 [(0, .ref b), (1, .ref (GX.2.1 0)), (2, .ref (GY.2.1 0)), (3, .int x3)]) (next : ∀ (MX MY : SX) (H : Heap) (locs : List Loc) (ls : Array Slot), Rel MX MY → LWd GX GY MX MY H → va_S (fun q : Nat => s.heap.size ≤ q) s.heap H locs → lv_has ls 4 [(0, .ref b), (1, .ref (GX.2.1 0)), (2, .ref (GY.2.1 0)), (3, .int x3)] → WL p l e s m b below meth c H locs (F0 m 1390 ls [])) : WL p l e s m b below meth c H locs (F0 m 1043 ls []) := by
  obtain ⟨hx, hb, hr, hml, hown, hts, hX, hbl, hlocks, hgv⟩ := id C0
  have hbA : ¬ (fun q : Nat => s.heap.size ≤ q) b := Nat.not_le.mpr hbl
  refine lv_aload_n hx hb dL_law_1043 rfl (lv_at hl 1 rfl) ?_
  obtain ⟨r, MX1, MY1, hfX, hfY, hR1⟩ := ag_ways MX MY hR
  refine l_cXi (rest := []) C0 E hl.1 vw_RL_134 (c5_ways hfX) hP hS rfl rfl (Nat.le_of_ble_eq_true rfl) ⟨Nat.le_of_ble_eq_true rfl, Nat.le_of_ble_eq_true rfl⟩ dL_law_1044 (fun H locs hP hS => ?_)
  refine lv_aload_n hx hb dL_law_1047 rfl (lv_at hl 2 rfl) ?_
  refine l_cYi (rest := [.int r]) C0 E hl.1 vw_RL_137 (c6_ways hfY) hP hS rfl rfl (Nat.le_of_ble_eq_true rfl) ⟨Nat.le_of_ble_eq_true rfl, Nat.le_of_ble_eq_true rfl⟩ dL_law_1048 (fun H locs hP hS => ?_)
  refine lv_icmp_eq (tgt := 1390) hx hb dL_law_1051 (by decide) (fun _ => ?_) (fun h9 => absurd rfl h9)
  exact next MX1 MY1 H locs ls hR1 hP hS hl
set_option maxHeartbeats 4000000 in
set_option maxRecDepth 100000 in
theorem law_c30 {p : Program} {l : Launch} {e : Env} {s : State} {m : MethodId} {below : List Frame} {meth : Method} {c : Code} {b L : Nat} {xs : Nat → Int32} {GX GY : XG} (C0 : lw_At p s m meth c b L xs) (E : LEnv GX GY s) (x3 : Int32) (hin : ∀ k : Int32, 0 ≤ k → k ≤ 5 → vp_in (x3 + k) L) (MX MY : SX) (H : Heap) (locs : List Loc) (ls : Array Slot) (hR : Rel MX MY) (hP : LWd GX GY MX MY H) (hS : va_S (fun q : Nat => s.heap.size ≤ q) s.heap H locs) (hl : lv_has ls 4 [(0, .ref b), (1, .ref (GX.2.1 0)), (2, .ref (GY.2.1 0)), (3, .int x3)]) (next : ∀ (MX MY : SX) (H : Heap) (locs : List Loc) (ls : Array Slot), Rel MX MY → LWd GX GY MX MY H → va_S (fun q : Nat => s.heap.size ≤ q) s.heap H locs → lv_has ls 4 [(0, .ref b), (1, .ref (GX.2.1 0)), (2, .ref (GY.2.1 0)), (3, .int x3)] → WL p l e s m b below meth c H locs (F0 m 1390 ls [])) : WL p l e s m b below meth c H locs (F0 m 1056 ls []) := by
  obtain ⟨hx, hb, hr, hml, hown, hts, hX, hbl, hlocks, hgv⟩ := id C0
  have hbA : ¬ (fun q : Nat => s.heap.size ≤ q) b := Nat.not_le.mpr hbl
  refine lv_aload_n hx hb dL_law_1056 rfl (lv_at hl 1 rfl) ?_
  obtain ⟨r, MX1, MY1, hfX, hfY, hR1⟩ := ag_most MX MY hR
  refine l_cXi (rest := []) C0 E hl.1 vw_RL_138 (c5_most hfX) hP hS rfl rfl (Nat.le_of_ble_eq_true rfl) ⟨Nat.le_of_ble_eq_true rfl, Nat.le_of_ble_eq_true rfl⟩ dL_law_1057 (fun H locs hP hS => ?_)
  refine lv_aload_n hx hb dL_law_1060 rfl (lv_at hl 2 rfl) ?_
  refine l_cYi (rest := [.int r]) C0 E hl.1 vw_RL_141 (c6_most hfY) hP hS rfl rfl (Nat.le_of_ble_eq_true rfl) ⟨Nat.le_of_ble_eq_true rfl, Nat.le_of_ble_eq_true rfl⟩ dL_law_1061 (fun H locs hP hS => ?_)
  refine lv_icmp_eq (tgt := 1390) hx hb dL_law_1064 (by decide) (fun _ => ?_) (fun h9 => absurd rfl h9)
  exact next MX1 MY1 H locs ls hR1 hP hS hl
set_option maxHeartbeats 4000000 in
set_option maxRecDepth 100000 in
theorem law_c31 {p : Program} {l : Launch} {e : Env} {s : State} {m : MethodId} {below : List Frame} {meth : Method} {c : Code} {b L : Nat} {xs : Nat → Int32} {GX GY : XG} (C0 : lw_At p s m meth c b L xs) (E : LEnv GX GY s) (x3 : Int32) (hin : ∀ k : Int32, 0 ≤ k → k ≤ 5 → vp_in (x3 + k) L) (MX MY : SX) (H : Heap) (locs : List Loc) (ls : Array Slot) (hR : Rel MX MY) (hP : LWd GX GY MX MY H) (hS : va_S (fun q : Nat => s.heap.size ≤ q) s.heap H locs) (hl : lv_has ls 4 [(0, .ref b), (1, .ref (GX.2.1 0)), (2, .ref (GY.2.1 0)), (3, .int x3)]) (next : ∀ (MX MY : SX) (H : Heap) (locs : List Loc) (ls : Array Slot), Rel MX MY → LWd GX GY MX MY H → va_S (fun q : Nat => s.heap.size ≤ q) s.heap H locs → lv_has ls 4 [(0, .ref b), (1, .ref (GX.2.1 0)), (2, .ref (GY.2.1 0)), (3, .int x3)] → WL p l e s m b below meth c H locs (F0 m 1390 ls [])) : WL p l e s m b below meth c H locs (F0 m 1069 ls []) := by
  obtain ⟨hx, hb, hr, hml, hown, hts, hX, hbl, hlocks, hgv⟩ := id C0
  have hbA : ¬ (fun q : Nat => s.heap.size ≤ q) b := Nat.not_le.mpr hbl
  refine lv_aload_n hx hb dL_law_1069 rfl (lv_at hl 1 rfl) ?_
  obtain ⟨r, MX1, MY1, hfX, hfY, hR1⟩ := ag_least MX MY hR
  refine l_cXi (rest := []) C0 E hl.1 vw_RL_142 (c5_least hfX) hP hS rfl rfl (Nat.le_of_ble_eq_true rfl) ⟨Nat.le_of_ble_eq_true rfl, Nat.le_of_ble_eq_true rfl⟩ dL_law_1070 (fun H locs hP hS => ?_)
  refine lv_aload_n hx hb dL_law_1073 rfl (lv_at hl 2 rfl) ?_
  refine l_cYi (rest := [.int r]) C0 E hl.1 vw_RL_145 (c6_least hfY) hP hS rfl rfl (Nat.le_of_ble_eq_true rfl) ⟨Nat.le_of_ble_eq_true rfl, Nat.le_of_ble_eq_true rfl⟩ dL_law_1074 (fun H locs hP hS => ?_)
  refine lv_icmp_eq (tgt := 1390) hx hb dL_law_1077 (by decide) (fun _ => ?_) (fun h9 => absurd rfl h9)
  exact next MX1 MY1 H locs ls hR1 hP hS hl
set_option maxHeartbeats 4000000 in
set_option maxRecDepth 100000 in
theorem law_c32 {p : Program} {l : Launch} {e : Env} {s : State} {m : MethodId} {below : List Frame} {meth : Method} {c : Code} {b L : Nat} {xs : Nat → Int32} {GX GY : XG} (C0 : lw_At p s m meth c b L xs) (E : LEnv GX GY s) (x3 : Int32) (hin : ∀ k : Int32, 0 ≤ k → k ≤ 5 → vp_in (x3 + k) L) (MX MY : SX) (H : Heap) (locs : List Loc) (ls : Array Slot) (hR : Rel MX MY) (hP : LWd GX GY MX MY H) (hS : va_S (fun q : Nat => s.heap.size ≤ q) s.heap H locs) (hl : lv_has ls 4 [(0, .ref b), (1, .ref (GX.2.1 0)), (2, .ref (GY.2.1 0)), (3, .int x3)]) (next : ∀ (MX MY : SX) (H : Heap) (locs : List Loc) (ls : Array Slot), Rel MX MY → LWd GX GY MX MY H → va_S (fun q : Nat => s.heap.size ≤ q) s.heap H locs → lv_has ls 4 [(0, .ref b), (1, .ref (GX.2.1 0)), (2, .ref (GY.2.1 0)), (3, .int x3)] → WL p l e s m b below meth c H locs (F0 m 1390 ls [])) : WL p l e s m b below meth c H locs (F0 m 1082 ls []) := by
  obtain ⟨hx, hb, hr, hml, hown, hts, hX, hbl, hlocks, hgv⟩ := id C0
  have hbA : ¬ (fun q : Nat => s.heap.size ≤ q) b := Nat.not_le.mpr hbl
  refine lv_aload_n hx hb dL_law_1082 rfl (lv_at hl 1 rfl) ?_
  refine lv_aload_n hx hb dL_law_1083 rfl (lv_at hl 0 rfl) ?_
  refine lv_iload_n hx hb dL_law_1084 rfl (lv_at hl 3 rfl) ?_
  refine lv_iconst (v := 1) hx hb dL_law_1085 (by decide) ?_
  refine lv_iadd hx hb dL_law_1086 ?_
  refine va_sld hx hb hX hbl hbA hS (hin 1 (by decide) (by decide)) dL_law_1087 ?_
  refine lv_aload_n hx hb dL_law_1088 rfl (lv_at hl 0 rfl) ?_
  refine lv_iload_n hx hb dL_law_1089 rfl (lv_at hl 3 rfl) ?_
  refine lv_iconst (v := 2) hx hb dL_law_1090 (by decide) ?_
  refine lv_iadd hx hb dL_law_1091 ?_
  refine va_sld hx hb hX hbl hbA hS (hin 2 (by decide) (by decide)) dL_law_1092 ?_
  obtain ⟨r, MX1, MY1, hfX, hfY, hR1⟩ := ag_free (xs (x3 + 1).toNatClampNeg) (xs (x3 + 2).toNatClampNeg) MX MY hR
  refine l_cXi (rest := []) C0 E hl.1 vw_RL_146 (c5_free (xs (x3 + 1).toNatClampNeg) (xs (x3 + 2).toNatClampNeg) hfX) hP hS rfl rfl (Nat.le_of_ble_eq_true rfl) ⟨Nat.le_of_ble_eq_true rfl, Nat.le_of_ble_eq_true rfl⟩ dL_law_1093 (fun H locs hP hS => ?_)
  refine lv_aload_n hx hb dL_law_1096 rfl (lv_at hl 2 rfl) ?_
  refine lv_aload_n hx hb dL_law_1097 rfl (lv_at hl 0 rfl) ?_
  refine lv_iload_n hx hb dL_law_1098 rfl (lv_at hl 3 rfl) ?_
  refine lv_iconst (v := 1) hx hb dL_law_1099 (by decide) ?_
  refine lv_iadd hx hb dL_law_1100 ?_
  refine va_sld hx hb hX hbl hbA hS (hin 1 (by decide) (by decide)) dL_law_1101 ?_
  refine lv_aload_n hx hb dL_law_1102 rfl (lv_at hl 0 rfl) ?_
  refine lv_iload_n hx hb dL_law_1103 rfl (lv_at hl 3 rfl) ?_
  refine lv_iconst (v := 2) hx hb dL_law_1104 (by decide) ?_
  refine lv_iadd hx hb dL_law_1105 ?_
  refine va_sld hx hb hX hbl hbA hS (hin 2 (by decide) (by decide)) dL_law_1106 ?_
  refine l_cYi (rest := [.int r]) C0 E hl.1 vw_RL_149 (c6_free (xs (x3 + 1).toNatClampNeg) (xs (x3 + 2).toNatClampNeg) hfY) hP hS rfl rfl (Nat.le_of_ble_eq_true rfl) ⟨Nat.le_of_ble_eq_true rfl, Nat.le_of_ble_eq_true rfl⟩ dL_law_1107 (fun H locs hP hS => ?_)
  refine lv_icmp_eq (tgt := 1390) hx hb dL_law_1110 (by decide) (fun _ => ?_) (fun h9 => absurd rfl h9)
  exact next MX1 MY1 H locs ls hR1 hP hS hl
set_option maxHeartbeats 4000000 in
set_option maxRecDepth 100000 in
theorem law_c33 {p : Program} {l : Launch} {e : Env} {s : State} {m : MethodId} {below : List Frame} {meth : Method} {c : Code} {b L : Nat} {xs : Nat → Int32} {GX GY : XG} (C0 : lw_At p s m meth c b L xs) (E : LEnv GX GY s) (x3 : Int32) (hin : ∀ k : Int32, 0 ≤ k → k ≤ 5 → vp_in (x3 + k) L) (MX MY : SX) (H : Heap) (locs : List Loc) (ls : Array Slot) (hR : Rel MX MY) (hP : LWd GX GY MX MY H) (hS : va_S (fun q : Nat => s.heap.size ≤ q) s.heap H locs) (hl : lv_has ls 4 [(0, .ref b), (1, .ref (GX.2.1 0)), (2, .ref (GY.2.1 0)), (3, .int x3)]) (next : ∀ (MX MY : SX) (H : Heap) (locs : List Loc) (ls : Array Slot), Rel MX MY → LWd GX GY MX MY H → va_S (fun q : Nat => s.heap.size ≤ q) s.heap H locs → lv_has ls 4 [(0, .ref b), (1, .ref (GX.2.1 0)), (2, .ref (GY.2.1 0)), (3, .int x3)] → WL p l e s m b below meth c H locs (F0 m 1390 ls [])) : WL p l e s m b below meth c H locs (F0 m 1115 ls []) := by
  obtain ⟨hx, hb, hr, hml, hown, hts, hX, hbl, hlocks, hgv⟩ := id C0
  have hbA : ¬ (fun q : Nat => s.heap.size ≤ q) b := Nat.not_le.mpr hbl
  refine lv_aload_n hx hb dL_law_1115 rfl (lv_at hl 1 rfl) ?_
  obtain ⟨r, MX1, MY1, hfX, hfY, hR1⟩ := ag_till MX MY hR
  refine l_cXi (rest := []) C0 E hl.1 vw_RL_150 (c5_till hfX) hP hS rfl rfl (Nat.le_of_ble_eq_true rfl) ⟨Nat.le_of_ble_eq_true rfl, Nat.le_of_ble_eq_true rfl⟩ dL_law_1116 (fun H locs hP hS => ?_)
  refine lv_aload_n hx hb dL_law_1119 rfl (lv_at hl 2 rfl) ?_
  refine l_cYi (rest := [.int r]) C0 E hl.1 vw_RL_153 (c6_till hfY) hP hS rfl rfl (Nat.le_of_ble_eq_true rfl) ⟨Nat.le_of_ble_eq_true rfl, Nat.le_of_ble_eq_true rfl⟩ dL_law_1120 (fun H locs hP hS => ?_)
  refine lv_icmp_eq (tgt := 1390) hx hb dL_law_1123 (by decide) (fun _ => ?_) (fun h9 => absurd rfl h9)
  exact next MX1 MY1 H locs ls hR1 hP hS hl
set_option maxHeartbeats 4000000 in
set_option maxRecDepth 100000 in
theorem law_c34 {p : Program} {l : Launch} {e : Env} {s : State} {m : MethodId} {below : List Frame} {meth : Method} {c : Code} {b L : Nat} {xs : Nat → Int32} {GX GY : XG} (C0 : lw_At p s m meth c b L xs) (E : LEnv GX GY s) (x3 : Int32) (hin : ∀ k : Int32, 0 ≤ k → k ≤ 5 → vp_in (x3 + k) L) (MX MY : SX) (H : Heap) (locs : List Loc) (ls : Array Slot) (hR : Rel MX MY) (hP : LWd GX GY MX MY H) (hS : va_S (fun q : Nat => s.heap.size ≤ q) s.heap H locs) (hl : lv_has ls 4 [(0, .ref b), (1, .ref (GX.2.1 0)), (2, .ref (GY.2.1 0)), (3, .int x3)]) (next : ∀ (MX MY : SX) (H : Heap) (locs : List Loc) (ls : Array Slot), Rel MX MY → LWd GX GY MX MY H → va_S (fun q : Nat => s.heap.size ≤ q) s.heap H locs → lv_has ls 4 [(0, .ref b), (1, .ref (GX.2.1 0)), (2, .ref (GY.2.1 0)), (3, .int x3)] → WL p l e s m b below meth c H locs (F0 m 1390 ls [])) : WL p l e s m b below meth c H locs (F0 m 1128 ls []) := by
  obtain ⟨hx, hb, hr, hml, hown, hts, hX, hbl, hlocks, hgv⟩ := id C0
  have hbA : ¬ (fun q : Nat => s.heap.size ≤ q) b := Nat.not_le.mpr hbl
  refine lv_aload_n hx hb dL_law_1128 rfl (lv_at hl 1 rfl) ?_
  refine lv_aload_n hx hb dL_law_1129 rfl (lv_at hl 0 rfl) ?_
  refine lv_iload_n hx hb dL_law_1130 rfl (lv_at hl 3 rfl) ?_
  refine lv_iconst (v := 1) hx hb dL_law_1131 (by decide) ?_
  refine lv_iadd hx hb dL_law_1132 ?_
  refine va_sld hx hb hX hbl hbA hS (hin 1 (by decide) (by decide)) dL_law_1133 ?_
  obtain ⟨r, MX1, MY1, hfX, hfY, hR1⟩ := ag_run (xs (x3 + 1).toNatClampNeg) MX MY hR
  refine l_cXi (rest := []) C0 E hl.1 vw_RL_154 (c5_run (xs (x3 + 1).toNatClampNeg) hfX) hP hS rfl rfl (Nat.le_of_ble_eq_true rfl) ⟨Nat.le_of_ble_eq_true rfl, Nat.le_of_ble_eq_true rfl⟩ dL_law_1134 (fun H locs hP hS => ?_)
  refine lv_aload_n hx hb dL_law_1137 rfl (lv_at hl 2 rfl) ?_
  refine lv_aload_n hx hb dL_law_1138 rfl (lv_at hl 0 rfl) ?_
  refine lv_iload_n hx hb dL_law_1139 rfl (lv_at hl 3 rfl) ?_
  refine lv_iconst (v := 1) hx hb dL_law_1140 (by decide) ?_
  refine lv_iadd hx hb dL_law_1141 ?_
  refine va_sld hx hb hX hbl hbA hS (hin 1 (by decide) (by decide)) dL_law_1142 ?_
  refine l_cYi (rest := [.int r]) C0 E hl.1 vw_RL_157 (c6_run (xs (x3 + 1).toNatClampNeg) hfY) hP hS rfl rfl (Nat.le_of_ble_eq_true rfl) ⟨Nat.le_of_ble_eq_true rfl, Nat.le_of_ble_eq_true rfl⟩ dL_law_1143 (fun H locs hP hS => ?_)
  refine lv_icmp_eq (tgt := 1390) hx hb dL_law_1146 (by decide) (fun _ => ?_) (fun h9 => absurd rfl h9)
  exact next MX1 MY1 H locs ls hR1 hP hS hl
set_option maxHeartbeats 4000000 in
set_option maxRecDepth 100000 in
theorem law_c35 {p : Program} {l : Launch} {e : Env} {s : State} {m : MethodId} {below : List Frame} {meth : Method} {c : Code} {b L : Nat} {xs : Nat → Int32} {GX GY : XG} (C0 : lw_At p s m meth c b L xs) (E : LEnv GX GY s) (x3 : Int32) (hin : ∀ k : Int32, 0 ≤ k → k ≤ 5 → vp_in (x3 + k) L) (MX MY : SX) (H : Heap) (locs : List Loc) (ls : Array Slot) (hR : Rel MX MY) (hP : LWd GX GY MX MY H) (hS : va_S (fun q : Nat => s.heap.size ≤ q) s.heap H locs) (hl : lv_has ls 4 [(0, .ref b), (1, .ref (GX.2.1 0)), (2, .ref (GY.2.1 0)), (3, .int x3)]) (next : ∀ (MX MY : SX) (H : Heap) (locs : List Loc) (ls : Array Slot), Rel MX MY → LWd GX GY MX MY H → va_S (fun q : Nat => s.heap.size ≤ q) s.heap H locs → lv_has ls 4 [(0, .ref b), (1, .ref (GX.2.1 0)), (2, .ref (GY.2.1 0)), (3, .int x3)] → WL p l e s m b below meth c H locs (F0 m 1390 ls [])) : WL p l e s m b below meth c H locs (F0 m 1151 ls []) := by
  obtain ⟨hx, hb, hr, hml, hown, hts, hX, hbl, hlocks, hgv⟩ := id C0
  have hbA : ¬ (fun q : Nat => s.heap.size ≤ q) b := Nat.not_le.mpr hbl
  refine lv_aload_n hx hb dL_law_1151 rfl (lv_at hl 1 rfl) ?_
  refine lv_aload_n hx hb dL_law_1152 rfl (lv_at hl 0 rfl) ?_
  refine lv_iload_n hx hb dL_law_1153 rfl (lv_at hl 3 rfl) ?_
  refine lv_iconst (v := 1) hx hb dL_law_1154 (by decide) ?_
  refine lv_iadd hx hb dL_law_1155 ?_
  refine va_sld hx hb hX hbl hbA hS (hin 1 (by decide) (by decide)) dL_law_1156 ?_
  obtain ⟨r, MX1, MY1, hfX, hfY, hR1⟩ := ag_shuts (xs (x3 + 1).toNatClampNeg) MX MY hR
  refine l_cXi (rest := []) C0 E hl.1 vw_RL_158 (c5_shuts (xs (x3 + 1).toNatClampNeg) hfX) hP hS rfl rfl (Nat.le_of_ble_eq_true rfl) ⟨Nat.le_of_ble_eq_true rfl, Nat.le_of_ble_eq_true rfl⟩ dL_law_1157 (fun H locs hP hS => ?_)
  refine lv_aload_n hx hb dL_law_1160 rfl (lv_at hl 2 rfl) ?_
  refine lv_aload_n hx hb dL_law_1161 rfl (lv_at hl 0 rfl) ?_
  refine lv_iload_n hx hb dL_law_1162 rfl (lv_at hl 3 rfl) ?_
  refine lv_iconst (v := 1) hx hb dL_law_1163 (by decide) ?_
  refine lv_iadd hx hb dL_law_1164 ?_
  refine va_sld hx hb hX hbl hbA hS (hin 1 (by decide) (by decide)) dL_law_1165 ?_
  refine l_cYi (rest := [.int r]) C0 E hl.1 vw_RL_161 (c6_shuts (xs (x3 + 1).toNatClampNeg) hfY) hP hS rfl rfl (Nat.le_of_ble_eq_true rfl) ⟨Nat.le_of_ble_eq_true rfl, Nat.le_of_ble_eq_true rfl⟩ dL_law_1166 (fun H locs hP hS => ?_)
  refine lv_icmp_eq (tgt := 1390) hx hb dL_law_1169 (by decide) (fun _ => ?_) (fun h9 => absurd rfl h9)
  exact next MX1 MY1 H locs ls hR1 hP hS hl
set_option maxHeartbeats 4000000 in
set_option maxRecDepth 100000 in
theorem law_c36 {p : Program} {l : Launch} {e : Env} {s : State} {m : MethodId} {below : List Frame} {meth : Method} {c : Code} {b L : Nat} {xs : Nat → Int32} {GX GY : XG} (C0 : lw_At p s m meth c b L xs) (E : LEnv GX GY s) (x3 : Int32) (hin : ∀ k : Int32, 0 ≤ k → k ≤ 5 → vp_in (x3 + k) L) (MX MY : SX) (H : Heap) (locs : List Loc) (ls : Array Slot) (hR : Rel MX MY) (hP : LWd GX GY MX MY H) (hS : va_S (fun q : Nat => s.heap.size ≤ q) s.heap H locs) (hl : lv_has ls 4 [(0, .ref b), (1, .ref (GX.2.1 0)), (2, .ref (GY.2.1 0)), (3, .int x3)]) (next : ∀ (MX MY : SX) (H : Heap) (locs : List Loc) (ls : Array Slot), Rel MX MY → LWd GX GY MX MY H → va_S (fun q : Nat => s.heap.size ≤ q) s.heap H locs → lv_has ls 4 [(0, .ref b), (1, .ref (GX.2.1 0)), (2, .ref (GY.2.1 0)), (3, .int x3)] → WL p l e s m b below meth c H locs (F0 m 1390 ls [])) : WL p l e s m b below meth c H locs (F0 m 1174 ls []) := by
  obtain ⟨hx, hb, hr, hml, hown, hts, hX, hbl, hlocks, hgv⟩ := id C0
  have hbA : ¬ (fun q : Nat => s.heap.size ≤ q) b := Nat.not_le.mpr hbl
  refine lv_aload_n hx hb dL_law_1174 rfl (lv_at hl 1 rfl) ?_
  refine lv_aload_n hx hb dL_law_1175 rfl (lv_at hl 0 rfl) ?_
  refine lv_iload_n hx hb dL_law_1176 rfl (lv_at hl 3 rfl) ?_
  refine lv_iconst (v := 1) hx hb dL_law_1177 (by decide) ?_
  refine lv_iadd hx hb dL_law_1178 ?_
  refine va_sld hx hb hX hbl hbA hS (hin 1 (by decide) (by decide)) dL_law_1179 ?_
  obtain ⟨r, MX1, MY1, hfX, hfY, hR1⟩ := ag_missing (xs (x3 + 1).toNatClampNeg) MX MY hR
  refine l_cXi (rest := []) C0 E hl.1 vw_RL_162 (c5_missing (xs (x3 + 1).toNatClampNeg) hfX) hP hS rfl rfl (Nat.le_of_ble_eq_true rfl) ⟨Nat.le_of_ble_eq_true rfl, Nat.le_of_ble_eq_true rfl⟩ dL_law_1180 (fun H locs hP hS => ?_)
  refine lv_aload_n hx hb dL_law_1183 rfl (lv_at hl 2 rfl) ?_
  refine lv_aload_n hx hb dL_law_1184 rfl (lv_at hl 0 rfl) ?_
  refine lv_iload_n hx hb dL_law_1185 rfl (lv_at hl 3 rfl) ?_
  refine lv_iconst (v := 1) hx hb dL_law_1186 (by decide) ?_
  refine lv_iadd hx hb dL_law_1187 ?_
  refine va_sld hx hb hX hbl hbA hS (hin 1 (by decide) (by decide)) dL_law_1188 ?_
  refine l_cYi (rest := [.int r]) C0 E hl.1 vw_RL_165 (c6_missing (xs (x3 + 1).toNatClampNeg) hfY) hP hS rfl rfl (Nat.le_of_ble_eq_true rfl) ⟨Nat.le_of_ble_eq_true rfl, Nat.le_of_ble_eq_true rfl⟩ dL_law_1189 (fun H locs hP hS => ?_)
  refine lv_icmp_eq (tgt := 1390) hx hb dL_law_1192 (by decide) (fun _ => ?_) (fun h9 => absurd rfl h9)
  exact next MX1 MY1 H locs ls hR1 hP hS hl
set_option maxHeartbeats 4000000 in
set_option maxRecDepth 100000 in
theorem law_c37 {p : Program} {l : Launch} {e : Env} {s : State} {m : MethodId} {below : List Frame} {meth : Method} {c : Code} {b L : Nat} {xs : Nat → Int32} {GX GY : XG} (C0 : lw_At p s m meth c b L xs) (E : LEnv GX GY s) (x3 : Int32) (hin : ∀ k : Int32, 0 ≤ k → k ≤ 5 → vp_in (x3 + k) L) (MX MY : SX) (H : Heap) (locs : List Loc) (ls : Array Slot) (hR : Rel MX MY) (hP : LWd GX GY MX MY H) (hS : va_S (fun q : Nat => s.heap.size ≤ q) s.heap H locs) (hl : lv_has ls 4 [(0, .ref b), (1, .ref (GX.2.1 0)), (2, .ref (GY.2.1 0)), (3, .int x3)]) (next : ∀ (MX MY : SX) (H : Heap) (locs : List Loc) (ls : Array Slot), Rel MX MY → LWd GX GY MX MY H → va_S (fun q : Nat => s.heap.size ≤ q) s.heap H locs → lv_has ls 4 [(0, .ref b), (1, .ref (GX.2.1 0)), (2, .ref (GY.2.1 0)), (3, .int x3)] → WL p l e s m b below meth c H locs (F0 m 1390 ls [])) : WL p l e s m b below meth c H locs (F0 m 1197 ls []) := by
  obtain ⟨hx, hb, hr, hml, hown, hts, hX, hbl, hlocks, hgv⟩ := id C0
  have hbA : ¬ (fun q : Nat => s.heap.size ≤ q) b := Nat.not_le.mpr hbl
  refine lv_aload_n hx hb dL_law_1197 rfl (lv_at hl 1 rfl) ?_
  refine lv_aload_n hx hb dL_law_1198 rfl (lv_at hl 0 rfl) ?_
  refine lv_iload_n hx hb dL_law_1199 rfl (lv_at hl 3 rfl) ?_
  refine lv_iconst (v := 1) hx hb dL_law_1200 (by decide) ?_
  refine lv_iadd hx hb dL_law_1201 ?_
  refine va_sld hx hb hX hbl hbA hS (hin 1 (by decide) (by decide)) dL_law_1202 ?_
  obtain ⟨r, MX1, MY1, hfX, hfY, hR1⟩ := ag_through (xs (x3 + 1).toNatClampNeg) MX MY hR
  refine l_cXi (rest := []) C0 E hl.1 vw_RL_166 (c5_through (xs (x3 + 1).toNatClampNeg) hfX) hP hS rfl rfl (Nat.le_of_ble_eq_true rfl) ⟨Nat.le_of_ble_eq_true rfl, Nat.le_of_ble_eq_true rfl⟩ dL_law_1203 (fun H locs hP hS => ?_)
  refine lv_aload_n hx hb dL_law_1206 rfl (lv_at hl 2 rfl) ?_
  refine lv_aload_n hx hb dL_law_1207 rfl (lv_at hl 0 rfl) ?_
  refine lv_iload_n hx hb dL_law_1208 rfl (lv_at hl 3 rfl) ?_
  refine lv_iconst (v := 1) hx hb dL_law_1209 (by decide) ?_
  refine lv_iadd hx hb dL_law_1210 ?_
  refine va_sld hx hb hX hbl hbA hS (hin 1 (by decide) (by decide)) dL_law_1211 ?_
  refine l_cYi (rest := [.int r]) C0 E hl.1 vw_RL_169 (c6_through (xs (x3 + 1).toNatClampNeg) hfY) hP hS rfl rfl (Nat.le_of_ble_eq_true rfl) ⟨Nat.le_of_ble_eq_true rfl, Nat.le_of_ble_eq_true rfl⟩ dL_law_1212 (fun H locs hP hS => ?_)
  refine lv_icmp_eq (tgt := 1390) hx hb dL_law_1215 (by decide) (fun _ => ?_) (fun h9 => absurd rfl h9)
  exact next MX1 MY1 H locs ls hR1 hP hS hl
set_option maxHeartbeats 4000000 in
set_option maxRecDepth 100000 in
theorem law_c38 {p : Program} {l : Launch} {e : Env} {s : State} {m : MethodId} {below : List Frame} {meth : Method} {c : Code} {b L : Nat} {xs : Nat → Int32} {GX GY : XG} (C0 : lw_At p s m meth c b L xs) (E : LEnv GX GY s) (x3 : Int32) (hin : ∀ k : Int32, 0 ≤ k → k ≤ 5 → vp_in (x3 + k) L) (MX MY : SX) (H : Heap) (locs : List Loc) (ls : Array Slot) (hR : Rel MX MY) (hP : LWd GX GY MX MY H) (hS : va_S (fun q : Nat => s.heap.size ≤ q) s.heap H locs) (hl : lv_has ls 4 [(0, .ref b), (1, .ref (GX.2.1 0)), (2, .ref (GY.2.1 0)), (3, .int x3)]) (next : ∀ (MX MY : SX) (H : Heap) (locs : List Loc) (ls : Array Slot), Rel MX MY → LWd GX GY MX MY H → va_S (fun q : Nat => s.heap.size ≤ q) s.heap H locs → lv_has ls 4 [(0, .ref b), (1, .ref (GX.2.1 0)), (2, .ref (GY.2.1 0)), (3, .int x3)] → WL p l e s m b below meth c H locs (F0 m 1390 ls [])) : WL p l e s m b below meth c H locs (F0 m 1220 ls []) := by
  obtain ⟨hx, hb, hr, hml, hown, hts, hX, hbl, hlocks, hgv⟩ := id C0
  have hbA : ¬ (fun q : Nat => s.heap.size ≤ q) b := Nat.not_le.mpr hbl
  refine lv_aload_n hx hb dL_law_1220 rfl (lv_at hl 1 rfl) ?_
  refine lv_aload_n hx hb dL_law_1221 rfl (lv_at hl 0 rfl) ?_
  refine lv_iload_n hx hb dL_law_1222 rfl (lv_at hl 3 rfl) ?_
  refine lv_iconst (v := 1) hx hb dL_law_1223 (by decide) ?_
  refine lv_iadd hx hb dL_law_1224 ?_
  refine va_sld hx hb hX hbl hbA hS (hin 1 (by decide) (by decide)) dL_law_1225 ?_
  obtain ⟨r, MX1, MY1, hfX, hfY, hR1⟩ := ag_odds (xs (x3 + 1).toNatClampNeg) MX MY hR
  refine l_cXi (rest := []) C0 E hl.1 vw_RL_170 (c5_odds (xs (x3 + 1).toNatClampNeg) hfX) hP hS rfl rfl (Nat.le_of_ble_eq_true rfl) ⟨Nat.le_of_ble_eq_true rfl, Nat.le_of_ble_eq_true rfl⟩ dL_law_1226 (fun H locs hP hS => ?_)
  refine lv_aload_n hx hb dL_law_1229 rfl (lv_at hl 2 rfl) ?_
  refine lv_aload_n hx hb dL_law_1230 rfl (lv_at hl 0 rfl) ?_
  refine lv_iload_n hx hb dL_law_1231 rfl (lv_at hl 3 rfl) ?_
  refine lv_iconst (v := 1) hx hb dL_law_1232 (by decide) ?_
  refine lv_iadd hx hb dL_law_1233 ?_
  refine va_sld hx hb hX hbl hbA hS (hin 1 (by decide) (by decide)) dL_law_1234 ?_
  refine l_cYi (rest := [.int r]) C0 E hl.1 vw_RL_173 (c6_odds (xs (x3 + 1).toNatClampNeg) hfY) hP hS rfl rfl (Nat.le_of_ble_eq_true rfl) ⟨Nat.le_of_ble_eq_true rfl, Nat.le_of_ble_eq_true rfl⟩ dL_law_1235 (fun H locs hP hS => ?_)
  refine lv_icmp_eq (tgt := 1390) hx hb dL_law_1238 (by decide) (fun _ => ?_) (fun h9 => absurd rfl h9)
  exact next MX1 MY1 H locs ls hR1 hP hS hl
set_option maxHeartbeats 4000000 in
set_option maxRecDepth 100000 in
theorem law_c39 {p : Program} {l : Launch} {e : Env} {s : State} {m : MethodId} {below : List Frame} {meth : Method} {c : Code} {b L : Nat} {xs : Nat → Int32} {GX GY : XG} (C0 : lw_At p s m meth c b L xs) (E : LEnv GX GY s) (x3 : Int32) (hin : ∀ k : Int32, 0 ≤ k → k ≤ 5 → vp_in (x3 + k) L) (MX MY : SX) (H : Heap) (locs : List Loc) (ls : Array Slot) (hR : Rel MX MY) (hP : LWd GX GY MX MY H) (hS : va_S (fun q : Nat => s.heap.size ≤ q) s.heap H locs) (hl : lv_has ls 4 [(0, .ref b), (1, .ref (GX.2.1 0)), (2, .ref (GY.2.1 0)), (3, .int x3)]) (next : ∀ (MX MY : SX) (H : Heap) (locs : List Loc) (ls : Array Slot), Rel MX MY → LWd GX GY MX MY H → va_S (fun q : Nat => s.heap.size ≤ q) s.heap H locs → lv_has ls 4 [(0, .ref b), (1, .ref (GX.2.1 0)), (2, .ref (GY.2.1 0)), (3, .int x3)] → WL p l e s m b below meth c H locs (F0 m 1390 ls [])) : WL p l e s m b below meth c H locs (F0 m 1243 ls []) := by
  obtain ⟨hx, hb, hr, hml, hown, hts, hX, hbl, hlocks, hgv⟩ := id C0
  have hbA : ¬ (fun q : Nat => s.heap.size ≤ q) b := Nat.not_le.mpr hbl
  refine lv_aload_n hx hb dL_law_1243 rfl (lv_at hl 1 rfl) ?_
  refine lv_aload_n hx hb dL_law_1244 rfl (lv_at hl 0 rfl) ?_
  refine lv_iload_n hx hb dL_law_1245 rfl (lv_at hl 3 rfl) ?_
  refine lv_iconst (v := 1) hx hb dL_law_1246 (by decide) ?_
  refine lv_iadd hx hb dL_law_1247 ?_
  refine va_sld hx hb hX hbl hbA hS (hin 1 (by decide) (by decide)) dL_law_1248 ?_
  refine lv_aload_n hx hb dL_law_1249 rfl (lv_at hl 0 rfl) ?_
  refine lv_iload_n hx hb dL_law_1250 rfl (lv_at hl 3 rfl) ?_
  refine lv_iconst (v := 2) hx hb dL_law_1251 (by decide) ?_
  refine lv_iadd hx hb dL_law_1252 ?_
  refine va_sld hx hb hX hbl hbA hS (hin 2 (by decide) (by decide)) dL_law_1253 ?_
  obtain ⟨r, MX1, MY1, hfX, hfY, hR1⟩ := ag_lots (xs (x3 + 1).toNatClampNeg) (xs (x3 + 2).toNatClampNeg) MX MY hR
  refine l_cXi (rest := []) C0 E hl.1 vw_RL_174 (c5_lots (xs (x3 + 1).toNatClampNeg) (xs (x3 + 2).toNatClampNeg) hfX) hP hS rfl rfl (Nat.le_of_ble_eq_true rfl) ⟨Nat.le_of_ble_eq_true rfl, Nat.le_of_ble_eq_true rfl⟩ dL_law_1254 (fun H locs hP hS => ?_)
  refine lv_aload_n hx hb dL_law_1257 rfl (lv_at hl 2 rfl) ?_
  refine lv_aload_n hx hb dL_law_1258 rfl (lv_at hl 0 rfl) ?_
  refine lv_iload_n hx hb dL_law_1259 rfl (lv_at hl 3 rfl) ?_
  refine lv_iconst (v := 1) hx hb dL_law_1260 (by decide) ?_
  refine lv_iadd hx hb dL_law_1261 ?_
  refine va_sld hx hb hX hbl hbA hS (hin 1 (by decide) (by decide)) dL_law_1262 ?_
  refine lv_aload_n hx hb dL_law_1263 rfl (lv_at hl 0 rfl) ?_
  refine lv_iload_n hx hb dL_law_1264 rfl (lv_at hl 3 rfl) ?_
  refine lv_iconst (v := 2) hx hb dL_law_1265 (by decide) ?_
  refine lv_iadd hx hb dL_law_1266 ?_
  refine va_sld hx hb hX hbl hbA hS (hin 2 (by decide) (by decide)) dL_law_1267 ?_
  refine l_cYi (rest := [.int r]) C0 E hl.1 vw_RL_177 (c6_lots (xs (x3 + 1).toNatClampNeg) (xs (x3 + 2).toNatClampNeg) hfY) hP hS rfl rfl (Nat.le_of_ble_eq_true rfl) ⟨Nat.le_of_ble_eq_true rfl, Nat.le_of_ble_eq_true rfl⟩ dL_law_1268 (fun H locs hP hS => ?_)
  refine lv_icmp_eq (tgt := 1390) hx hb dL_law_1271 (by decide) (fun _ => ?_) (fun h9 => absurd rfl h9)
  exact next MX1 MY1 H locs ls hR1 hP hS hl
set_option maxHeartbeats 4000000 in
set_option maxRecDepth 100000 in
theorem law_c40 {p : Program} {l : Launch} {e : Env} {s : State} {m : MethodId} {below : List Frame} {meth : Method} {c : Code} {b L : Nat} {xs : Nat → Int32} {GX GY : XG} (C0 : lw_At p s m meth c b L xs) (E : LEnv GX GY s) (x3 : Int32) (hin : ∀ k : Int32, 0 ≤ k → k ≤ 5 → vp_in (x3 + k) L) (MX MY : SX) (H : Heap) (locs : List Loc) (ls : Array Slot) (hR : Rel MX MY) (hP : LWd GX GY MX MY H) (hS : va_S (fun q : Nat => s.heap.size ≤ q) s.heap H locs) (hl : lv_has ls 4 [(0, .ref b), (1, .ref (GX.2.1 0)), (2, .ref (GY.2.1 0)), (3, .int x3)]) (next : ∀ (MX MY : SX) (H : Heap) (locs : List Loc) (ls : Array Slot), Rel MX MY → LWd GX GY MX MY H → va_S (fun q : Nat => s.heap.size ≤ q) s.heap H locs → lv_has ls 4 [(0, .ref b), (1, .ref (GX.2.1 0)), (2, .ref (GY.2.1 0)), (3, .int x3)] → WL p l e s m b below meth c H locs (F0 m 1390 ls [])) : WL p l e s m b below meth c H locs (F0 m 1276 ls []) := by
  obtain ⟨hx, hb, hr, hml, hown, hts, hX, hbl, hlocks, hgv⟩ := id C0
  have hbA : ¬ (fun q : Nat => s.heap.size ≤ q) b := Nat.not_le.mpr hbl
  refine lv_aload_n hx hb dL_law_1276 rfl (lv_at hl 1 rfl) ?_
  obtain ⟨r, MX1, MY1, hfX, hfY, hR1⟩ := ag_asked MX MY hR
  refine l_cXi (rest := []) C0 E hl.1 vw_RL_178 (c5_asked hfX) hP hS rfl rfl (Nat.le_of_ble_eq_true rfl) ⟨Nat.le_of_ble_eq_true rfl, Nat.le_of_ble_eq_true rfl⟩ dL_law_1277 (fun H locs hP hS => ?_)
  refine lv_aload_n hx hb dL_law_1280 rfl (lv_at hl 2 rfl) ?_
  refine l_cYi (rest := [.int r]) C0 E hl.1 vw_RL_181 (c6_asked hfY) hP hS rfl rfl (Nat.le_of_ble_eq_true rfl) ⟨Nat.le_of_ble_eq_true rfl, Nat.le_of_ble_eq_true rfl⟩ dL_law_1281 (fun H locs hP hS => ?_)
  refine lv_icmp_eq (tgt := 1390) hx hb dL_law_1284 (by decide) (fun _ => ?_) (fun h9 => absurd rfl h9)
  exact next MX1 MY1 H locs ls hR1 hP hS hl
set_option maxHeartbeats 4000000 in
set_option maxRecDepth 100000 in
theorem law_c41 {p : Program} {l : Launch} {e : Env} {s : State} {m : MethodId} {below : List Frame} {meth : Method} {c : Code} {b L : Nat} {xs : Nat → Int32} {GX GY : XG} (C0 : lw_At p s m meth c b L xs) (E : LEnv GX GY s) (x3 : Int32) (hin : ∀ k : Int32, 0 ≤ k → k ≤ 5 → vp_in (x3 + k) L) (MX MY : SX) (H : Heap) (locs : List Loc) (ls : Array Slot) (hR : Rel MX MY) (hP : LWd GX GY MX MY H) (hS : va_S (fun q : Nat => s.heap.size ≤ q) s.heap H locs) (hl : lv_has ls 4 [(0, .ref b), (1, .ref (GX.2.1 0)), (2, .ref (GY.2.1 0)), (3, .int x3)]) (next : ∀ (MX MY : SX) (H : Heap) (locs : List Loc) (ls : Array Slot), Rel MX MY → LWd GX GY MX MY H → va_S (fun q : Nat => s.heap.size ≤ q) s.heap H locs → lv_has ls 4 [(0, .ref b), (1, .ref (GX.2.1 0)), (2, .ref (GY.2.1 0)), (3, .int x3)] → WL p l e s m b below meth c H locs (F0 m 1390 ls [])) : WL p l e s m b below meth c H locs (F0 m 1289 ls []) := by
  obtain ⟨hx, hb, hr, hml, hown, hts, hX, hbl, hlocks, hgv⟩ := id C0
  have hbA : ¬ (fun q : Nat => s.heap.size ≤ q) b := Nat.not_le.mpr hbl
  refine lv_aload_n hx hb dL_law_1289 rfl (lv_at hl 1 rfl) ?_
  obtain ⟨r, MX1, MY1, hfX, hfY, hR1⟩ := ag_upper MX MY hR
  refine l_cXl (rest := []) C0 E hl.1 vw_RL_182 (c5_upper hfX) hP hS rfl rfl (Nat.le_of_ble_eq_true rfl) ⟨Nat.le_of_ble_eq_true rfl, Nat.le_of_ble_eq_true rfl⟩ dL_law_1290 (fun H locs hP hS => ?_)
  refine lv_aload_n hx hb dL_law_1293 rfl (lv_at hl 2 rfl) ?_
  refine l_cYl (rest := [.long r]) C0 E hl.1 vw_RL_186 (c6_upper hfY) hP hS rfl rfl (Nat.le_of_ble_eq_true rfl) ⟨Nat.le_of_ble_eq_true rfl, Nat.le_of_ble_eq_true rfl⟩ dL_law_1294 (fun H locs hP hS => ?_)
  refine W.lcmp hx hb dL_law_1297 ?_
  refine lv_if_eq (tgt := 1390) hx hb dL_law_1298 (by decide) (fun _ => ?_) (fun h9 => absurd ((lc_eq r r).mpr rfl) h9)
  exact next MX1 MY1 H locs ls hR1 hP hS hl
set_option maxHeartbeats 4000000 in
set_option maxRecDepth 100000 in
theorem law_c42 {p : Program} {l : Launch} {e : Env} {s : State} {m : MethodId} {below : List Frame} {meth : Method} {c : Code} {b L : Nat} {xs : Nat → Int32} {GX GY : XG} (C0 : lw_At p s m meth c b L xs) (E : LEnv GX GY s) (x3 : Int32) (hin : ∀ k : Int32, 0 ≤ k → k ≤ 5 → vp_in (x3 + k) L) (MX MY : SX) (H : Heap) (locs : List Loc) (ls : Array Slot) (hR : Rel MX MY) (hP : LWd GX GY MX MY H) (hS : va_S (fun q : Nat => s.heap.size ≤ q) s.heap H locs) (hl : lv_has ls 4 [(0, .ref b), (1, .ref (GX.2.1 0)), (2, .ref (GY.2.1 0)), (3, .int x3)]) (next : ∀ (MX MY : SX) (H : Heap) (locs : List Loc) (ls : Array Slot), Rel MX MY → LWd GX GY MX MY H → va_S (fun q : Nat => s.heap.size ≤ q) s.heap H locs → lv_has ls 4 [(0, .ref b), (1, .ref (GX.2.1 0)), (2, .ref (GY.2.1 0)), (3, .int x3)] → WL p l e s m b below meth c H locs (F0 m 1390 ls [])) : WL p l e s m b below meth c H locs (F0 m 1303 ls []) := by
  obtain ⟨hx, hb, hr, hml, hown, hts, hX, hbl, hlocks, hgv⟩ := id C0
  have hbA : ¬ (fun q : Nat => s.heap.size ≤ q) b := Nat.not_le.mpr hbl
  refine lv_aload_n hx hb dL_law_1303 rfl (lv_at hl 1 rfl) ?_
  obtain ⟨r, MX1, MY1, hfX, hfY, hR1⟩ := ag_lower MX MY hR
  refine l_cXl (rest := []) C0 E hl.1 vw_RL_187 (c5_lower hfX) hP hS rfl rfl (Nat.le_of_ble_eq_true rfl) ⟨Nat.le_of_ble_eq_true rfl, Nat.le_of_ble_eq_true rfl⟩ dL_law_1304 (fun H locs hP hS => ?_)
  refine lv_aload_n hx hb dL_law_1307 rfl (lv_at hl 2 rfl) ?_
  refine l_cYl (rest := [.long r]) C0 E hl.1 vw_RL_190 (c6_lower hfY) hP hS rfl rfl (Nat.le_of_ble_eq_true rfl) ⟨Nat.le_of_ble_eq_true rfl, Nat.le_of_ble_eq_true rfl⟩ dL_law_1308 (fun H locs hP hS => ?_)
  refine W.lcmp hx hb dL_law_1311 ?_
  refine lv_if_eq (tgt := 1390) hx hb dL_law_1312 (by decide) (fun _ => ?_) (fun h9 => absurd ((lc_eq r r).mpr rfl) h9)
  exact next MX1 MY1 H locs ls hR1 hP hS hl
set_option maxHeartbeats 4000000 in
set_option maxRecDepth 100000 in
theorem law_c43 {p : Program} {l : Launch} {e : Env} {s : State} {m : MethodId} {below : List Frame} {meth : Method} {c : Code} {b L : Nat} {xs : Nat → Int32} {GX GY : XG} (C0 : lw_At p s m meth c b L xs) (E : LEnv GX GY s) (x3 : Int32) (hin : ∀ k : Int32, 0 ≤ k → k ≤ 5 → vp_in (x3 + k) L) (MX MY : SX) (H : Heap) (locs : List Loc) (ls : Array Slot) (hR : Rel MX MY) (hP : LWd GX GY MX MY H) (hS : va_S (fun q : Nat => s.heap.size ≤ q) s.heap H locs) (hl : lv_has ls 4 [(0, .ref b), (1, .ref (GX.2.1 0)), (2, .ref (GY.2.1 0)), (3, .int x3)]) (next : ∀ (MX MY : SX) (H : Heap) (locs : List Loc) (ls : Array Slot), Rel MX MY → LWd GX GY MX MY H → va_S (fun q : Nat => s.heap.size ≤ q) s.heap H locs → lv_has ls 4 [(0, .ref b), (1, .ref (GX.2.1 0)), (2, .ref (GY.2.1 0)), (3, .int x3)] → WL p l e s m b below meth c H locs (F0 m 1390 ls [])) : WL p l e s m b below meth c H locs (F0 m 1317 ls []) := by
  obtain ⟨hx, hb, hr, hml, hown, hts, hX, hbl, hlocks, hgv⟩ := id C0
  have hbA : ¬ (fun q : Nat => s.heap.size ≤ q) b := Nat.not_le.mpr hbl
  refine lv_aload_n hx hb dL_law_1317 rfl (lv_at hl 1 rfl) ?_
  refine lv_aload_n hx hb dL_law_1318 rfl (lv_at hl 0 rfl) ?_
  refine lv_iload_n hx hb dL_law_1319 rfl (lv_at hl 3 rfl) ?_
  refine lv_iconst (v := 1) hx hb dL_law_1320 (by decide) ?_
  refine lv_iadd hx hb dL_law_1321 ?_
  refine va_sld hx hb hX hbl hbA hS (hin 1 (by decide) (by decide)) dL_law_1322 ?_
  obtain ⟨r, MX1, MY1, hfX, hfY, hR1⟩ := ag_count (xs (x3 + 1).toNatClampNeg) MX MY hR
  refine l_cXi (rest := []) C0 E hl.1 vw_RL_191 (c5_count (xs (x3 + 1).toNatClampNeg) hfX) hP hS rfl rfl (Nat.le_of_ble_eq_true rfl) ⟨Nat.le_of_ble_eq_true rfl, Nat.le_of_ble_eq_true rfl⟩ dL_law_1323 (fun H locs hP hS => ?_)
  refine lv_aload_n hx hb dL_law_1326 rfl (lv_at hl 2 rfl) ?_
  refine lv_aload_n hx hb dL_law_1327 rfl (lv_at hl 0 rfl) ?_
  refine lv_iload_n hx hb dL_law_1328 rfl (lv_at hl 3 rfl) ?_
  refine lv_iconst (v := 1) hx hb dL_law_1329 (by decide) ?_
  refine lv_iadd hx hb dL_law_1330 ?_
  refine va_sld hx hb hX hbl hbA hS (hin 1 (by decide) (by decide)) dL_law_1331 ?_
  refine l_cYi (rest := [.int r]) C0 E hl.1 vw_RL_194 (c6_count (xs (x3 + 1).toNatClampNeg) hfY) hP hS rfl rfl (Nat.le_of_ble_eq_true rfl) ⟨Nat.le_of_ble_eq_true rfl, Nat.le_of_ble_eq_true rfl⟩ dL_law_1332 (fun H locs hP hS => ?_)
  refine lv_icmp_eq (tgt := 1390) hx hb dL_law_1335 (by decide) (fun _ => ?_) (fun h9 => absurd rfl h9)
  exact next MX1 MY1 H locs ls hR1 hP hS hl
set_option maxHeartbeats 4000000 in
set_option maxRecDepth 100000 in
theorem law_c44 {p : Program} {l : Launch} {e : Env} {s : State} {m : MethodId} {below : List Frame} {meth : Method} {c : Code} {b L : Nat} {xs : Nat → Int32} {GX GY : XG} (C0 : lw_At p s m meth c b L xs) (E : LEnv GX GY s) (x3 : Int32) (hin : ∀ k : Int32, 0 ≤ k → k ≤ 5 → vp_in (x3 + k) L) (MX MY : SX) (H : Heap) (locs : List Loc) (ls : Array Slot) (hR : Rel MX MY) (hP : LWd GX GY MX MY H) (hS : va_S (fun q : Nat => s.heap.size ≤ q) s.heap H locs) (hl : lv_has ls 4 [(0, .ref b), (1, .ref (GX.2.1 0)), (2, .ref (GY.2.1 0)), (3, .int x3)]) (next : ∀ (MX MY : SX) (H : Heap) (locs : List Loc) (ls : Array Slot), Rel MX MY → LWd GX GY MX MY H → va_S (fun q : Nat => s.heap.size ≤ q) s.heap H locs → lv_has ls 4 [(0, .ref b), (1, .ref (GX.2.1 0)), (2, .ref (GY.2.1 0)), (3, .int x3)] → WL p l e s m b below meth c H locs (F0 m 1390 ls [])) : WL p l e s m b below meth c H locs (F0 m 1340 ls []) := by
  obtain ⟨hx, hb, hr, hml, hown, hts, hX, hbl, hlocks, hgv⟩ := id C0
  have hbA : ¬ (fun q : Nat => s.heap.size ≤ q) b := Nat.not_le.mpr hbl
  refine lv_aload_n hx hb dL_law_1340 rfl (lv_at hl 1 rfl) ?_
  obtain ⟨r, MX1, MY1, hfX, hfY, hR1⟩ := ag_finding MX MY hR
  refine l_cXi (rest := []) C0 E hl.1 vw_RL_195 (c5_finding hfX) hP hS rfl rfl (Nat.le_of_ble_eq_true rfl) ⟨Nat.le_of_ble_eq_true rfl, Nat.le_of_ble_eq_true rfl⟩ dL_law_1341 (fun H locs hP hS => ?_)
  refine lv_aload_n hx hb dL_law_1344 rfl (lv_at hl 2 rfl) ?_
  refine l_cYi (rest := [.int r]) C0 E hl.1 vw_RL_198 (c6_finding hfY) hP hS rfl rfl (Nat.le_of_ble_eq_true rfl) ⟨Nat.le_of_ble_eq_true rfl, Nat.le_of_ble_eq_true rfl⟩ dL_law_1345 (fun H locs hP hS => ?_)
  refine lv_icmp_eq (tgt := 1390) hx hb dL_law_1348 (by decide) (fun _ => ?_) (fun h9 => absurd rfl h9)
  exact next MX1 MY1 H locs ls hR1 hP hS hl
set_option maxHeartbeats 4000000 in
set_option maxRecDepth 100000 in
theorem law_c45 {p : Program} {l : Launch} {e : Env} {s : State} {m : MethodId} {below : List Frame} {meth : Method} {c : Code} {b L : Nat} {xs : Nat → Int32} {GX GY : XG} (C0 : lw_At p s m meth c b L xs) (E : LEnv GX GY s) (x3 : Int32) (hin : ∀ k : Int32, 0 ≤ k → k ≤ 5 → vp_in (x3 + k) L) (MX MY : SX) (H : Heap) (locs : List Loc) (ls : Array Slot) (hR : Rel MX MY) (hP : LWd GX GY MX MY H) (hS : va_S (fun q : Nat => s.heap.size ≤ q) s.heap H locs) (hl : lv_has ls 4 [(0, .ref b), (1, .ref (GX.2.1 0)), (2, .ref (GY.2.1 0)), (3, .int x3)]) (next : ∀ (MX MY : SX) (H : Heap) (locs : List Loc) (ls : Array Slot), Rel MX MY → LWd GX GY MX MY H → va_S (fun q : Nat => s.heap.size ≤ q) s.heap H locs → lv_has ls 4 [(0, .ref b), (1, .ref (GX.2.1 0)), (2, .ref (GY.2.1 0)), (3, .int x3)] → WL p l e s m b below meth c H locs (F0 m 1390 ls [])) : WL p l e s m b below meth c H locs (F0 m 1353 ls []) := by
  obtain ⟨hx, hb, hr, hml, hown, hts, hX, hbl, hlocks, hgv⟩ := id C0
  have hbA : ¬ (fun q : Nat => s.heap.size ≤ q) b := Nat.not_le.mpr hbl
  refine lv_aload_n hx hb dL_law_1353 rfl (lv_at hl 1 rfl) ?_
  refine lv_aload_n hx hb dL_law_1354 rfl (lv_at hl 0 rfl) ?_
  refine lv_iload_n hx hb dL_law_1355 rfl (lv_at hl 3 rfl) ?_
  refine lv_iconst (v := 1) hx hb dL_law_1356 (by decide) ?_
  refine lv_iadd hx hb dL_law_1357 ?_
  refine va_sld hx hb hX hbl hbA hS (hin 1 (by decide) (by decide)) dL_law_1358 ?_
  obtain ⟨r, MX1, MY1, hfX, hfY, hR1⟩ := ag_findings (xs (x3 + 1).toNatClampNeg) MX MY hR
  refine l_cXi (rest := []) C0 E hl.1 vw_RL_199 (c5_findings (xs (x3 + 1).toNatClampNeg) hfX) hP hS rfl rfl (Nat.le_of_ble_eq_true rfl) ⟨Nat.le_of_ble_eq_true rfl, Nat.le_of_ble_eq_true rfl⟩ dL_law_1359 (fun H locs hP hS => ?_)
  refine lv_aload_n hx hb dL_law_1362 rfl (lv_at hl 2 rfl) ?_
  refine lv_aload_n hx hb dL_law_1363 rfl (lv_at hl 0 rfl) ?_
  refine lv_iload_n hx hb dL_law_1364 rfl (lv_at hl 3 rfl) ?_
  refine lv_iconst (v := 1) hx hb dL_law_1365 (by decide) ?_
  refine lv_iadd hx hb dL_law_1366 ?_
  refine va_sld hx hb hX hbl hbA hS (hin 1 (by decide) (by decide)) dL_law_1367 ?_
  refine l_cYi (rest := [.int r]) C0 E hl.1 vw_RL_202 (c6_findings (xs (x3 + 1).toNatClampNeg) hfY) hP hS rfl rfl (Nat.le_of_ble_eq_true rfl) ⟨Nat.le_of_ble_eq_true rfl, Nat.le_of_ble_eq_true rfl⟩ dL_law_1368 (fun H locs hP hS => ?_)
  refine lv_icmp_eq (tgt := 1390) hx hb dL_law_1371 (by decide) (fun _ => ?_) (fun h9 => absurd rfl h9)
  exact next MX1 MY1 H locs ls hR1 hP hS hl
set_option maxHeartbeats 4000000 in
set_option maxRecDepth 100000 in
theorem law_c46 {p : Program} {l : Launch} {e : Env} {s : State} {m : MethodId} {below : List Frame} {meth : Method} {c : Code} {b L : Nat} {xs : Nat → Int32} {GX GY : XG} (C0 : lw_At p s m meth c b L xs) (E : LEnv GX GY s) (x3 : Int32) (hin : ∀ k : Int32, 0 ≤ k → k ≤ 5 → vp_in (x3 + k) L) (MX MY : SX) (H : Heap) (locs : List Loc) (ls : Array Slot) (hR : Rel MX MY) (hP : LWd GX GY MX MY H) (hS : va_S (fun q : Nat => s.heap.size ≤ q) s.heap H locs) (hl : lv_has ls 4 [(0, .ref b), (1, .ref (GX.2.1 0)), (2, .ref (GY.2.1 0)), (3, .int x3)]) (next : ∀ (MX MY : SX) (H : Heap) (locs : List Loc) (ls : Array Slot), Rel MX MY → LWd GX GY MX MY H → va_S (fun q : Nat => s.heap.size ≤ q) s.heap H locs → lv_has ls 4 [(0, .ref b), (1, .ref (GX.2.1 0)), (2, .ref (GY.2.1 0)), (3, .int x3)] → WL p l e s m b below meth c H locs (F0 m 1390 ls [])) : WL p l e s m b below meth c H locs (F0 m 1376 ls []) := by
  obtain ⟨hx, hb, hr, hml, hown, hts, hX, hbl, hlocks, hgv⟩ := id C0
  have hbA : ¬ (fun q : Nat => s.heap.size ≤ q) b := Nat.not_le.mpr hbl
  refine lv_aload_n hx hb dL_law_1376 rfl (lv_at hl 1 rfl) ?_
  obtain ⟨r, MX1, MY1, hfX, hfY, hR1⟩ := ag_digest MX MY hR
  refine l_cXl (rest := []) C0 E hl.1 vw_RL_203 (c5_digest hfX) hP hS rfl rfl (Nat.le_of_ble_eq_true rfl) ⟨Nat.le_of_ble_eq_true rfl, Nat.le_of_ble_eq_true rfl⟩ dL_law_1377 (fun H locs hP hS => ?_)
  refine lv_aload_n hx hb dL_law_1380 rfl (lv_at hl 2 rfl) ?_
  refine l_cYl (rest := [.long r]) C0 E hl.1 vw_RL_206 (c6_digest hfY) hP hS rfl rfl (Nat.le_of_ble_eq_true rfl) ⟨Nat.le_of_ble_eq_true rfl, Nat.le_of_ble_eq_true rfl⟩ dL_law_1381 (fun H locs hP hS => ?_)
  refine W.lcmp hx hb dL_law_1384 ?_
  refine lv_if_eq (tgt := 1390) hx hb dL_law_1385 (by decide) (fun _ => ?_) (fun h9 => absurd ((lc_eq r r).mpr rfl) h9)
  exact next MX1 MY1 H locs ls hR1 hP hS hl
