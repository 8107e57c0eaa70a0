set_option maxHeartbeats 4000000 in
set_option maxRecDepth 100000 in
theorem law_2 {p : Program} {l : Launch} {e : Env} {s : State} {m : MethodId} {below : List Frame} {meth : Method} {c : Code} {a0 L : Nat} {xs : Nat → Int32} {D : va_G} {y : Nat → ClassId} {t q q' : Nat → Nat} (C : LC p s m meth c a0 L xs D y t q q') {i : Nat} (hL : L ≤ 3072) (hi : i + 6 ≤ L) {b R T K P B : Nat → Nat → Int32} {M : Nat → Nat → Int64} {F : Nat → Nat → Int32} {G : Nat → Int64} (g : gRel b R K P B M F G) {H : Heap} {locs : List Loc} {ls : Array Slot} (hPB : va_P D vwCl (wB y q b R T K P B M) H) (hPM : va_P D vwCl (wM y q' F G) H) (hS : va_S (AA s) s.heap H locs) (hl : lv_has ls 4 [(0, .ref a0), (1, .ref (q 0)), (2, .ref (q' 0)), (3, .int (nI i))]) (kk : lwK p l e s m below meth c a0 D y q q' ls) : W p l e room_1 s m #[Value.ref a0] below meth c H locs 46 1380 (lw_Z below #[Value.ref a0] s) (F0 m 256 ls []) := by
  obtain ⟨hx, hb, hr, hml, hown, hts, hX, hbl, hlocks, hK, hZ, hDD⟩ := C
  have hbA : ¬ AA s a0 := Nat.not_le.mpr hbl
  refine lv_aload_n hx hb dL_law_256 rfl (lv_at hl 1 rfl) ?_
  refine lv_aload_n hx hb dL_law_257 rfl (lv_at hl 0 rfl) ?_
  refine lv_iload_n hx hb dL_law_258 rfl (lv_at hl 3 rfl) ?_
  refine lv_iconst (v := 1) hx hb dL_law_259 (by decide) ?_
  refine lv_iadd hx hb dL_law_260 ?_
  refine va_sld hx hb hX hbl hbA hS (vIn hi hL 1 (by decide)) dL_law_261 ?_
  refine lv_aload_n hx hb dL_law_262 rfl (lv_at hl 0 rfl) ?_
  refine lv_iload_n hx hb dL_law_263 rfl (lv_at hl 3 rfl) ?_
  refine lv_iconst (v := 2) hx hb dL_law_264 (by decide) ?_
  refine lv_iadd hx hb dL_law_265 ?_
  refine va_sld hx hb hX hbl hbA hS (vIn hi hL 2 (by decide)) dL_law_266 ?_
  obtain ⟨r, b', F', e1, e2, g'⟩ := pr_load (N := 600) (T := T) (p1 := (xs (nI i + 1).toNatClampNeg)) (p2 := (xs (nI i + 2).toNatClampNeg)) g (by decide)
  refine q_ci1 (r := r) (va_runV (As := [.int (xs (nI i + 1).toNatClampNeg), .int (xs (nI i + 2).toNatClampNeg)]) (rest := []) ⟨hx, hb, hml, hown, hts⟩ (c_X3_load l D y t q _ 600 b R T K P B M (xs (nI i + 1).toNatClampNeg) (xs (nI i + 2).toNatClampNeg) (r, b') e1) (cwV 2 hts gL_law_X3_load rfl rfl rfl eX3_load ⟨Nat.le_of_ble_eq_true rfl, Nat.le_of_ble_eq_true rfl⟩) ⟨q_blind, va_recv hK hPB (ci := 3) (q0 := 0) rfl rfl, q_pre0 hPB hK hZ (D_left (hDD b R T K P B M F G)) AA_ok hS⟩ rfl rfl hl.1 rfl (lv_room (Nat.le_of_ble_eq_true rfl)) dL_law_267 ⟨Nat.le_of_ble_eq_true rfl, Nat.le_of_ble_eq_true rfl⟩) (hDD b R T K P B M F G) hPM AA_ok hS (fun H locs hPB hPM hS => ?_)
  have hPB : va_P D vwCl (wB y q b' R T K P B M) H := hPB
  refine lv_aload_n hx hb dL_law_270 rfl (lv_at hl 2 rfl) ?_
  refine lv_aload_n hx hb dL_law_271 rfl (lv_at hl 0 rfl) ?_
  refine lv_iload_n hx hb dL_law_272 rfl (lv_at hl 3 rfl) ?_
  refine lv_iconst (v := 1) hx hb dL_law_273 (by decide) ?_
  refine lv_iadd hx hb dL_law_274 ?_
  refine va_sld hx hb hX hbl hbA hS (vIn hi hL 1 (by decide)) dL_law_275 ?_
  refine lv_aload_n hx hb dL_law_276 rfl (lv_at hl 0 rfl) ?_
  refine lv_iload_n hx hb dL_law_277 rfl (lv_at hl 3 rfl) ?_
  refine lv_iconst (v := 2) hx hb dL_law_278 (by decide) ?_
  refine lv_iadd hx hb dL_law_279 ?_
  refine va_sld hx hb hX hbl hbA hS (vIn hi hL 2 (by decide)) dL_law_280 ?_
  refine q_ci2 (r := r) (va_runV (As := [.int (xs (nI i + 1).toNatClampNeg), .int (xs (nI i + 2).toNatClampNeg)]) (rest := [.int r]) ⟨hx, hb, hml, hown, hts⟩ (c_X4_load l D y t q' _ 600 F G (xs (nI i + 1).toNatClampNeg) (xs (nI i + 2).toNatClampNeg) (r, F') e2) (cwV 2 hts gL_law_X4_load rfl rfl rfl eX4_load ⟨Nat.le_of_ble_eq_true rfl, Nat.le_of_ble_eq_true rfl⟩) ⟨q_blind, va_recv hK hPM (ci := 4) (q0 := 0) rfl rfl, q_pre0 hPM hK hZ (D_right (hDD b' R T K P B M F G)) AA_ok hS⟩ rfl rfl hl.1 rfl (lv_room (Nat.le_of_ble_eq_true rfl)) dL_law_281 ⟨Nat.le_of_ble_eq_true rfl, Nat.le_of_ble_eq_true rfl⟩) (hDD b' R T K P B M F G) hPB AA_ok hS (fun H locs hPB hPM hS => ?_)
  have hPM : va_P D vwCl (wM y q' F' G) H := hPM
  exact lv_icmp_eq (tgt := 1325) hx hb dL_law_284 (by decide) (fun _ => kk _ _ _ _ _ _ _ _ _ _ _ g' hPB hPM hS) (fun c9 => absurd rfl c9)
set_option maxHeartbeats 4000000 in
set_option maxRecDepth 100000 in
theorem law_3 {p : Program} {l : Launch} {e : Env} {s : State} {m : MethodId} {below : List Frame} {meth : Method} {c : Code} {a0 L : Nat} {xs : Nat → Int32} {D : va_G} {y : Nat → ClassId} {t q q' : Nat → Nat} (C : LC p s m meth c a0 L xs D y t q q') {i : Nat} (hL : L ≤ 3072) (hi : i + 6 ≤ L) {b R T K P B : Nat → Nat → Int32} {M : Nat → Nat → Int64} {F : Nat → Nat → Int32} {G : Nat → Int64} (g : gRel b R K P B M F G) {H : Heap} {locs : List Loc} {ls : Array Slot} (hPB : va_P D vwCl (wB y q b R T K P B M) H) (hPM : va_P D vwCl (wM y q' F G) H) (hS : va_S (AA s) s.heap H locs) (hl : lv_has ls 4 [(0, .ref a0), (1, .ref (q 0)), (2, .ref (q' 0)), (3, .int (nI i))]) (kk : lwK p l e s m below meth c a0 D y q q' ls) : W p l e room_1 s m #[Value.ref a0] below meth c H locs 46 1380 (lw_Z below #[Value.ref a0] s) (F0 m 289 ls []) := by
  obtain ⟨hx, hb, hr, hml, hown, hts, hX, hbl, hlocks, hK, hZ, hDD⟩ := C
  have hbA : ¬ AA s a0 := Nat.not_le.mpr hbl
  refine lv_aload_n hx hb dL_law_289 rfl (lv_at hl 1 rfl) ?_
  refine lv_aload_n hx hb dL_law_290 rfl (lv_at hl 0 rfl) ?_
  refine lv_iload_n hx hb dL_law_291 rfl (lv_at hl 3 rfl) ?_
  refine lv_iconst (v := 1) hx hb dL_law_292 (by decide) ?_
  refine lv_iadd hx hb dL_law_293 ?_
  refine va_sld hx hb hX hbl hbA hS (vIn hi hL 1 (by decide)) dL_law_294 ?_
  refine lv_aload_n hx hb dL_law_295 rfl (lv_at hl 0 rfl) ?_
  refine lv_iload_n hx hb dL_law_296 rfl (lv_at hl 3 rfl) ?_
  refine lv_iconst (v := 2) hx hb dL_law_297 (by decide) ?_
  refine lv_iadd hx hb dL_law_298 ?_
  refine va_sld hx hb hX hbl hbA hS (vIn hi hL 2 (by decide)) dL_law_299 ?_
  obtain ⟨r, b', R', F', e1, e2, g'⟩ := pr_thing (N := 600) (T := T) (p1 := (xs (nI i + 1).toNatClampNeg)) (p2 := (xs (nI i + 2).toNatClampNeg)) g (by decide)
  refine q_ci1 (r := r) (va_runV (As := [.int (xs (nI i + 1).toNatClampNeg), .int (xs (nI i + 2).toNatClampNeg)]) (rest := []) ⟨hx, hb, hml, hown, hts⟩ (c_X3_thing l D y t q _ 600 b R T K P B M (xs (nI i + 1).toNatClampNeg) (xs (nI i + 2).toNatClampNeg) (r, b', R') e1) (cwV 2 hts gL_law_X3_thing rfl rfl rfl eX3_thing ⟨Nat.le_of_ble_eq_true rfl, Nat.le_of_ble_eq_true rfl⟩) ⟨q_blind, va_recv hK hPB (ci := 3) (q0 := 0) rfl rfl, q_pre0 hPB hK hZ (D_left (hDD b R T K P B M F G)) AA_ok hS⟩ rfl rfl hl.1 rfl (lv_room (Nat.le_of_ble_eq_true rfl)) dL_law_300 ⟨Nat.le_of_ble_eq_true rfl, Nat.le_of_ble_eq_true rfl⟩) (hDD b R T K P B M F G) hPM AA_ok hS (fun H locs hPB hPM hS => ?_)
  have hPB : va_P D vwCl (wB y q b' R' T K P B M) H := hPB
  refine lv_aload_n hx hb dL_law_303 rfl (lv_at hl 2 rfl) ?_
  refine lv_aload_n hx hb dL_law_304 rfl (lv_at hl 0 rfl) ?_
  refine lv_iload_n hx hb dL_law_305 rfl (lv_at hl 3 rfl) ?_
  refine lv_iconst (v := 1) hx hb dL_law_306 (by decide) ?_
  refine lv_iadd hx hb dL_law_307 ?_
  refine va_sld hx hb hX hbl hbA hS (vIn hi hL 1 (by decide)) dL_law_308 ?_
  refine lv_aload_n hx hb dL_law_309 rfl (lv_at hl 0 rfl) ?_
  refine lv_iload_n hx hb dL_law_310 rfl (lv_at hl 3 rfl) ?_
  refine lv_iconst (v := 2) hx hb dL_law_311 (by decide) ?_
  refine lv_iadd hx hb dL_law_312 ?_
  refine va_sld hx hb hX hbl hbA hS (vIn hi hL 2 (by decide)) dL_law_313 ?_
  refine q_ci2 (r := r) (va_runV (As := [.int (xs (nI i + 1).toNatClampNeg), .int (xs (nI i + 2).toNatClampNeg)]) (rest := [.int r]) ⟨hx, hb, hml, hown, hts⟩ (c_X4_thing l D y t q' _ 600 F G (xs (nI i + 1).toNatClampNeg) (xs (nI i + 2).toNatClampNeg) (r, F') e2) (cwV 2 hts gL_law_X4_thing rfl rfl rfl eX4_thing ⟨Nat.le_of_ble_eq_true rfl, Nat.le_of_ble_eq_true rfl⟩) ⟨q_blind, va_recv hK hPM (ci := 4) (q0 := 0) rfl rfl, q_pre0 hPM hK hZ (D_right (hDD b' R' T K P B M F G)) AA_ok hS⟩ rfl rfl hl.1 rfl (lv_room (Nat.le_of_ble_eq_true rfl)) dL_law_314 ⟨Nat.le_of_ble_eq_true rfl, Nat.le_of_ble_eq_true rfl⟩) (hDD b' R' T K P B M F G) hPB AA_ok hS (fun H locs hPB hPM hS => ?_)
  have hPM : va_P D vwCl (wM y q' F' G) H := hPM
  exact lv_icmp_eq (tgt := 1325) hx hb dL_law_317 (by decide) (fun _ => kk _ _ _ _ _ _ _ _ _ _ _ g' hPB hPM hS) (fun c9 => absurd rfl c9)
set_option maxHeartbeats 4000000 in
set_option maxRecDepth 100000 in
theorem law_4 {p : Program} {l : Launch} {e : Env} {s : State} {m : MethodId} {below : List Frame} {meth : Method} {c : Code} {a0 L : Nat} {xs : Nat → Int32} {D : va_G} {y : Nat → ClassId} {t q q' : Nat → Nat} (C : LC p s m meth c a0 L xs D y t q q') {i : Nat} (hL : L ≤ 3072) (hi : i + 6 ≤ L) {b R T K P B : Nat → Nat → Int32} {M : Nat → Nat → Int64} {F : Nat → Nat → Int32} {G : Nat → Int64} (g : gRel b R K P B M F G) {H : Heap} {locs : List Loc} {ls : Array Slot} (hPB : va_P D vwCl (wB y q b R T K P B M) H) (hPM : va_P D vwCl (wM y q' F G) H) (hS : va_S (AA s) s.heap H locs) (hl : lv_has ls 4 [(0, .ref a0), (1, .ref (q 0)), (2, .ref (q' 0)), (3, .int (nI i))]) (kk : lwK p l e s m below meth c a0 D y q q' ls) : W p l e room_1 s m #[Value.ref a0] below meth c H locs 46 1380 (lw_Z below #[Value.ref a0] s) (F0 m 322 ls []) := by
  obtain ⟨hx, hb, hr, hml, hown, hts, hX, hbl, hlocks, hK, hZ, hDD⟩ := C
  have hbA : ¬ AA s a0 := Nat.not_le.mpr hbl
  refine lv_aload_n hx hb dL_law_322 rfl (lv_at hl 1 rfl) ?_
  refine lv_aload_n hx hb dL_law_323 rfl (lv_at hl 0 rfl) ?_
  refine lv_iload_n hx hb dL_law_324 rfl (lv_at hl 3 rfl) ?_
  refine lv_iconst (v := 1) hx hb dL_law_325 (by decide) ?_
  refine lv_iadd hx hb dL_law_326 ?_
  refine va_sld hx hb hX hbl hbA hS (vIn hi hL 1 (by decide)) dL_law_327 ?_
  refine lv_aload_n hx hb dL_law_328 rfl (lv_at hl 0 rfl) ?_
  refine lv_iload_n hx hb dL_law_329 rfl (lv_at hl 3 rfl) ?_
  refine lv_iconst (v := 2) hx hb dL_law_330 (by decide) ?_
  refine lv_iadd hx hb dL_law_331 ?_
  refine va_sld hx hb hX hbl hbA hS (vIn hi hL 2 (by decide)) dL_law_332 ?_
  obtain ⟨r, b', F', e1, e2, g'⟩ := pr_of (N := 600) (T := T) (p1 := (xs (nI i + 1).toNatClampNeg)) (p2 := (xs (nI i + 2).toNatClampNeg)) g (by decide)
  refine q_ci1 (r := r) (va_runV (As := [.int (xs (nI i + 1).toNatClampNeg), .int (xs (nI i + 2).toNatClampNeg)]) (rest := []) ⟨hx, hb, hml, hown, hts⟩ (c_X3_of l D y t q _ 600 b R T K P B M (xs (nI i + 1).toNatClampNeg) (xs (nI i + 2).toNatClampNeg) (r, b') e1) (cwV 2 hts gL_law_X3_of rfl rfl rfl eX3_of ⟨Nat.le_of_ble_eq_true rfl, Nat.le_of_ble_eq_true rfl⟩) ⟨q_blind, va_recv hK hPB (ci := 3) (q0 := 0) rfl rfl, q_pre0 hPB hK hZ (D_left (hDD b R T K P B M F G)) AA_ok hS⟩ rfl rfl hl.1 rfl (lv_room (Nat.le_of_ble_eq_true rfl)) dL_law_333 ⟨Nat.le_of_ble_eq_true rfl, Nat.le_of_ble_eq_true rfl⟩) (hDD b R T K P B M F G) hPM AA_ok hS (fun H locs hPB hPM hS => ?_)
  have hPB : va_P D vwCl (wB y q b' R T K P B M) H := hPB
  refine lv_aload_n hx hb dL_law_336 rfl (lv_at hl 2 rfl) ?_
  refine lv_aload_n hx hb dL_law_337 rfl (lv_at hl 0 rfl) ?_
  refine lv_iload_n hx hb dL_law_338 rfl (lv_at hl 3 rfl) ?_
  refine lv_iconst (v := 1) hx hb dL_law_339 (by decide) ?_
  refine lv_iadd hx hb dL_law_340 ?_
  refine va_sld hx hb hX hbl hbA hS (vIn hi hL 1 (by decide)) dL_law_341 ?_
  refine lv_aload_n hx hb dL_law_342 rfl (lv_at hl 0 rfl) ?_
  refine lv_iload_n hx hb dL_law_343 rfl (lv_at hl 3 rfl) ?_
  refine lv_iconst (v := 2) hx hb dL_law_344 (by decide) ?_
  refine lv_iadd hx hb dL_law_345 ?_
  refine va_sld hx hb hX hbl hbA hS (vIn hi hL 2 (by decide)) dL_law_346 ?_
  refine q_ci2 (r := r) (va_runV (As := [.int (xs (nI i + 1).toNatClampNeg), .int (xs (nI i + 2).toNatClampNeg)]) (rest := [.int r]) ⟨hx, hb, hml, hown, hts⟩ (c_X4_of l D y t q' _ 600 F G (xs (nI i + 1).toNatClampNeg) (xs (nI i + 2).toNatClampNeg) (r, F') e2) (cwV 2 hts gL_law_X4_of rfl rfl rfl eX4_of ⟨Nat.le_of_ble_eq_true rfl, Nat.le_of_ble_eq_true rfl⟩) ⟨q_blind, va_recv hK hPM (ci := 4) (q0 := 0) rfl rfl, q_pre0 hPM hK hZ (D_right (hDD b' R T K P B M F G)) AA_ok hS⟩ rfl rfl hl.1 rfl (lv_room (Nat.le_of_ble_eq_true rfl)) dL_law_347 ⟨Nat.le_of_ble_eq_true rfl, Nat.le_of_ble_eq_true rfl⟩) (hDD b' R T K P B M F G) hPB AA_ok hS (fun H locs hPB hPM hS => ?_)
  have hPM : va_P D vwCl (wM y q' F' G) H := hPM
  exact lv_icmp_eq (tgt := 1325) hx hb dL_law_350 (by decide) (fun _ => kk _ _ _ _ _ _ _ _ _ _ _ g' hPB hPM hS) (fun c9 => absurd rfl c9)
set_option maxHeartbeats 4000000 in
set_option maxRecDepth 100000 in
theorem law_5 {p : Program} {l : Launch} {e : Env} {s : State} {m : MethodId} {below : List Frame} {meth : Method} {c : Code} {a0 L : Nat} {xs : Nat → Int32} {D : va_G} {y : Nat → ClassId} {t q q' : Nat → Nat} (C : LC p s m meth c a0 L xs D y t q q') {i : Nat} (hL : L ≤ 3072) (hi : i + 6 ≤ L) {b R T K P B : Nat → Nat → Int32} {M : Nat → Nat → Int64} {F : Nat → Nat → Int32} {G : Nat → Int64} (g : gRel b R K P B M F G) {H : Heap} {locs : List Loc} {ls : Array Slot} (hPB : va_P D vwCl (wB y q b R T K P B M) H) (hPM : va_P D vwCl (wM y q' F G) H) (hS : va_S (AA s) s.heap H locs) (hl : lv_has ls 4 [(0, .ref a0), (1, .ref (q 0)), (2, .ref (q' 0)), (3, .int (nI i))]) (kk : lwK p l e s m below meth c a0 D y q q' ls) : W p l e room_1 s m #[Value.ref a0] below meth c H locs 46 1380 (lw_Z below #[Value.ref a0] s) (F0 m 355 ls []) := by
  obtain ⟨hx, hb, hr, hml, hown, hts, hX, hbl, hlocks, hK, hZ, hDD⟩ := C
  have hbA : ¬ AA s a0 := Nat.not_le.mpr hbl
  refine lv_aload_n hx hb dL_law_355 rfl (lv_at hl 1 rfl) ?_
  refine lv_aload_n hx hb dL_law_356 rfl (lv_at hl 0 rfl) ?_
  refine lv_iload_n hx hb dL_law_357 rfl (lv_at hl 3 rfl) ?_
  refine lv_iconst (v := 1) hx hb dL_law_358 (by decide) ?_
  refine lv_iadd hx hb dL_law_359 ?_
  refine va_sld hx hb hX hbl hbA hS (vIn hi hL 1 (by decide)) dL_law_360 ?_
  refine lv_aload_n hx hb dL_law_361 rfl (lv_at hl 0 rfl) ?_
  refine lv_iload_n hx hb dL_law_362 rfl (lv_at hl 3 rfl) ?_
  refine lv_iconst (v := 2) hx hb dL_law_363 (by decide) ?_
  refine lv_iadd hx hb dL_law_364 ?_
  refine va_sld hx hb hX hbl hbA hS (vIn hi hL 2 (by decide)) dL_law_365 ?_
  refine lv_aload_n hx hb dL_law_366 rfl (lv_at hl 0 rfl) ?_
  refine lv_iload_n hx hb dL_law_367 rfl (lv_at hl 3 rfl) ?_
  refine lv_iconst (v := 3) hx hb dL_law_368 (by decide) ?_
  refine lv_iadd hx hb dL_law_369 ?_
  refine va_sld hx hb hX hbl hbA hS (vIn hi hL 3 (by decide)) dL_law_370 ?_
  obtain ⟨r, b', R', F', e1, e2, g'⟩ := pr_set (N := 600) (T := T) (p1 := (xs (nI i + 1).toNatClampNeg)) (p2 := (xs (nI i + 2).toNatClampNeg)) (p3 := (xs (nI i + 3).toNatClampNeg)) g (by decide)
  refine q_ci1 (r := r) (va_runV (As := [.int (xs (nI i + 1).toNatClampNeg), .int (xs (nI i + 2).toNatClampNeg), .int (xs (nI i + 3).toNatClampNeg)]) (rest := []) ⟨hx, hb, hml, hown, hts⟩ (c_X3_set l D y t q _ 600 b R T K P B M (xs (nI i + 1).toNatClampNeg) (xs (nI i + 2).toNatClampNeg) (xs (nI i + 3).toNatClampNeg) (r, b', R') e1) (cwV 3 hts gL_law_X3_set rfl rfl rfl eX3_set ⟨Nat.le_of_ble_eq_true rfl, Nat.le_of_ble_eq_true rfl⟩) ⟨q_blind, va_recv hK hPB (ci := 3) (q0 := 0) rfl rfl, q_pre0 hPB hK hZ (D_left (hDD b R T K P B M F G)) AA_ok hS⟩ rfl rfl hl.1 rfl (lv_room (Nat.le_of_ble_eq_true rfl)) dL_law_371 ⟨Nat.le_of_ble_eq_true rfl, Nat.le_of_ble_eq_true rfl⟩) (hDD b R T K P B M F G) hPM AA_ok hS (fun H locs hPB hPM hS => ?_)
  have hPB : va_P D vwCl (wB y q b' R' T K P B M) H := hPB
  refine lv_aload_n hx hb dL_law_374 rfl (lv_at hl 2 rfl) ?_
  refine lv_aload_n hx hb dL_law_375 rfl (lv_at hl 0 rfl) ?_
  refine lv_iload_n hx hb dL_law_376 rfl (lv_at hl 3 rfl) ?_
  refine lv_iconst (v := 1) hx hb dL_law_377 (by decide) ?_
  refine lv_iadd hx hb dL_law_378 ?_
  refine va_sld hx hb hX hbl hbA hS (vIn hi hL 1 (by decide)) dL_law_379 ?_
  refine lv_aload_n hx hb dL_law_380 rfl (lv_at hl 0 rfl) ?_
  refine lv_iload_n hx hb dL_law_381 rfl (lv_at hl 3 rfl) ?_
  refine lv_iconst (v := 2) hx hb dL_law_382 (by decide) ?_
  refine lv_iadd hx hb dL_law_383 ?_
  refine va_sld hx hb hX hbl hbA hS (vIn hi hL 2 (by decide)) dL_law_384 ?_
  refine lv_aload_n hx hb dL_law_385 rfl (lv_at hl 0 rfl) ?_
  refine lv_iload_n hx hb dL_law_386 rfl (lv_at hl 3 rfl) ?_
  refine lv_iconst (v := 3) hx hb dL_law_387 (by decide) ?_
  refine lv_iadd hx hb dL_law_388 ?_
  refine va_sld hx hb hX hbl hbA hS (vIn hi hL 3 (by decide)) dL_law_389 ?_
  refine q_ci2 (r := r) (va_runV (As := [.int (xs (nI i + 1).toNatClampNeg), .int (xs (nI i + 2).toNatClampNeg), .int (xs (nI i + 3).toNatClampNeg)]) (rest := [.int r]) ⟨hx, hb, hml, hown, hts⟩ (c_X4_set l D y t q' _ 600 F G (xs (nI i + 1).toNatClampNeg) (xs (nI i + 2).toNatClampNeg) (xs (nI i + 3).toNatClampNeg) (r, F') e2) (cwV 3 hts gL_law_X4_set rfl rfl rfl eX4_set ⟨Nat.le_of_ble_eq_true rfl, Nat.le_of_ble_eq_true rfl⟩) ⟨q_blind, va_recv hK hPM (ci := 4) (q0 := 0) rfl rfl, q_pre0 hPM hK hZ (D_right (hDD b' R' T K P B M F G)) AA_ok hS⟩ rfl rfl hl.1 rfl (lv_room (Nat.le_of_ble_eq_true rfl)) dL_law_390 ⟨Nat.le_of_ble_eq_true rfl, Nat.le_of_ble_eq_true rfl⟩) (hDD b' R' T K P B M F G) hPB AA_ok hS (fun H locs hPB hPM hS => ?_)
  have hPM : va_P D vwCl (wM y q' F' G) H := hPM
  exact lv_icmp_eq (tgt := 1325) hx hb dL_law_393 (by decide) (fun _ => kk _ _ _ _ _ _ _ _ _ _ _ g' hPB hPM hS) (fun c9 => absurd rfl c9)
set_option maxHeartbeats 4000000 in
set_option maxRecDepth 100000 in
theorem law_6 {p : Program} {l : Launch} {e : Env} {s : State} {m : MethodId} {below : List Frame} {meth : Method} {c : Code} {a0 L : Nat} {xs : Nat → Int32} {D : va_G} {y : Nat → ClassId} {t q q' : Nat → Nat} (C : LC p s m meth c a0 L xs D y t q q') {i : Nat} (hL : L ≤ 3072) (hi : i + 6 ≤ L) {b R T K P B : Nat → Nat → Int32} {M : Nat → Nat → Int64} {F : Nat → Nat → Int32} {G : Nat → Int64} (g : gRel b R K P B M F G) {H : Heap} {locs : List Loc} {ls : Array Slot} (hPB : va_P D vwCl (wB y q b R T K P B M) H) (hPM : va_P D vwCl (wM y q' F G) H) (hS : va_S (AA s) s.heap H locs) (hl : lv_has ls 4 [(0, .ref a0), (1, .ref (q 0)), (2, .ref (q' 0)), (3, .int (nI i))]) (kk : lwK p l e s m below meth c a0 D y q q' ls) : W p l e room_1 s m #[Value.ref a0] below meth c H locs 46 1380 (lw_Z below #[Value.ref a0] s) (F0 m 398 ls []) := by
  obtain ⟨hx, hb, hr, hml, hown, hts, hX, hbl, hlocks, hK, hZ, hDD⟩ := C
  have hbA : ¬ AA s a0 := Nat.not_le.mpr hbl
  refine lv_aload_n hx hb dL_law_398 rfl (lv_at hl 1 rfl) ?_
  refine lv_aload_n hx hb dL_law_399 rfl (lv_at hl 0 rfl) ?_
  refine lv_iload_n hx hb dL_law_400 rfl (lv_at hl 3 rfl) ?_
  refine lv_iconst (v := 1) hx hb dL_law_401 (by decide) ?_
  refine lv_iadd hx hb dL_law_402 ?_
  refine va_sld hx hb hX hbl hbA hS (vIn hi hL 1 (by decide)) dL_law_403 ?_
  refine lv_aload_n hx hb dL_law_404 rfl (lv_at hl 0 rfl) ?_
  refine lv_iload_n hx hb dL_law_405 rfl (lv_at hl 3 rfl) ?_
  refine lv_iconst (v := 2) hx hb dL_law_406 (by decide) ?_
  refine lv_iadd hx hb dL_law_407 ?_
  refine va_sld hx hb hX hbl hbA hS (vIn hi hL 2 (by decide)) dL_law_408 ?_
  obtain ⟨r, b', R', F', e1, e2, g'⟩ := pr_carry (N := 600) (T := T) (p1 := (xs (nI i + 1).toNatClampNeg)) (p2 := (xs (nI i + 2).toNatClampNeg)) g (by decide)
  refine q_ci1 (r := r) (va_runV (As := [.int (xs (nI i + 1).toNatClampNeg), .int (xs (nI i + 2).toNatClampNeg)]) (rest := []) ⟨hx, hb, hml, hown, hts⟩ (c_X3_carry l D y t q _ 600 b R T K P B M (xs (nI i + 1).toNatClampNeg) (xs (nI i + 2).toNatClampNeg) (r, b', R') e1) (cwV 2 hts gL_law_X3_carry rfl rfl rfl eX3_carry ⟨Nat.le_of_ble_eq_true rfl, Nat.le_of_ble_eq_true rfl⟩) ⟨q_blind, va_recv hK hPB (ci := 3) (q0 := 0) rfl rfl, q_pre0 hPB hK hZ (D_left (hDD b R T K P B M F G)) AA_ok hS⟩ rfl rfl hl.1 rfl (lv_room (Nat.le_of_ble_eq_true rfl)) dL_law_409 ⟨Nat.le_of_ble_eq_true rfl, Nat.le_of_ble_eq_true rfl⟩) (hDD b R T K P B M F G) hPM AA_ok hS (fun H locs hPB hPM hS => ?_)
  have hPB : va_P D vwCl (wB y q b' R' T K P B M) H := hPB
  refine lv_aload_n hx hb dL_law_412 rfl (lv_at hl 2 rfl) ?_
  refine lv_aload_n hx hb dL_law_413 rfl (lv_at hl 0 rfl) ?_
  refine lv_iload_n hx hb dL_law_414 rfl (lv_at hl 3 rfl) ?_
  refine lv_iconst (v := 1) hx hb dL_law_415 (by decide) ?_
  refine lv_iadd hx hb dL_law_416 ?_
  refine va_sld hx hb hX hbl hbA hS (vIn hi hL 1 (by decide)) dL_law_417 ?_
  refine lv_aload_n hx hb dL_law_418 rfl (lv_at hl 0 rfl) ?_
  refine lv_iload_n hx hb dL_law_419 rfl (lv_at hl 3 rfl) ?_
  refine lv_iconst (v := 2) hx hb dL_law_420 (by decide) ?_
  refine lv_iadd hx hb dL_law_421 ?_
  refine va_sld hx hb hX hbl hbA hS (vIn hi hL 2 (by decide)) dL_law_422 ?_
  refine q_ci2 (r := r) (va_runV (As := [.int (xs (nI i + 1).toNatClampNeg), .int (xs (nI i + 2).toNatClampNeg)]) (rest := [.int r]) ⟨hx, hb, hml, hown, hts⟩ (c_X4_carry l D y t q' _ 600 F G (xs (nI i + 1).toNatClampNeg) (xs (nI i + 2).toNatClampNeg) (r, F') e2) (cwV 2 hts gL_law_X4_carry rfl rfl rfl eX4_carry ⟨Nat.le_of_ble_eq_true rfl, Nat.le_of_ble_eq_true rfl⟩) ⟨q_blind, va_recv hK hPM (ci := 4) (q0 := 0) rfl rfl, q_pre0 hPM hK hZ (D_right (hDD b' R' T K P B M F G)) AA_ok hS⟩ rfl rfl hl.1 rfl (lv_room (Nat.le_of_ble_eq_true rfl)) dL_law_423 ⟨Nat.le_of_ble_eq_true rfl, Nat.le_of_ble_eq_true rfl⟩) (hDD b' R' T K P B M F G) hPB AA_ok hS (fun H locs hPB hPM hS => ?_)
  have hPM : va_P D vwCl (wM y q' F' G) H := hPM
  exact lv_icmp_eq (tgt := 1325) hx hb dL_law_426 (by decide) (fun _ => kk _ _ _ _ _ _ _ _ _ _ _ g' hPB hPM hS) (fun c9 => absurd rfl c9)
set_option maxHeartbeats 4000000 in
set_option maxRecDepth 100000 in
theorem law_7 {p : Program} {l : Launch} {e : Env} {s : State} {m : MethodId} {below : List Frame} {meth : Method} {c : Code} {a0 L : Nat} {xs : Nat → Int32} {D : va_G} {y : Nat → ClassId} {t q q' : Nat → Nat} (C : LC p s m meth c a0 L xs D y t q q') {i : Nat} (hL : L ≤ 3072) (hi : i + 6 ≤ L) {b R T K P B : Nat → Nat → Int32} {M : Nat → Nat → Int64} {F : Nat → Nat → Int32} {G : Nat → Int64} (g : gRel b R K P B M F G) {H : Heap} {locs : List Loc} {ls : Array Slot} (hPB : va_P D vwCl (wB y q b R T K P B M) H) (hPM : va_P D vwCl (wM y q' F G) H) (hS : va_S (AA s) s.heap H locs) (hl : lv_has ls 4 [(0, .ref a0), (1, .ref (q 0)), (2, .ref (q' 0)), (3, .int (nI i))]) (kk : lwK p l e s m below meth c a0 D y q q' ls) : W p l e room_1 s m #[Value.ref a0] below meth c H locs 46 1380 (lw_Z below #[Value.ref a0] s) (F0 m 431 ls []) := by
  obtain ⟨hx, hb, hr, hml, hown, hts, hX, hbl, hlocks, hK, hZ, hDD⟩ := C
  have hbA : ¬ AA s a0 := Nat.not_le.mpr hbl
  refine lv_aload_n hx hb dL_law_431 rfl (lv_at hl 1 rfl) ?_
  refine lv_aload_n hx hb dL_law_432 rfl (lv_at hl 0 rfl) ?_
  refine lv_iload_n hx hb dL_law_433 rfl (lv_at hl 3 rfl) ?_
  refine lv_iconst (v := 1) hx hb dL_law_434 (by decide) ?_
  refine lv_iadd hx hb dL_law_435 ?_
  refine va_sld hx hb hX hbl hbA hS (vIn hi hL 1 (by decide)) dL_law_436 ?_
  refine lv_aload_n hx hb dL_law_437 rfl (lv_at hl 0 rfl) ?_
  refine lv_iload_n hx hb dL_law_438 rfl (lv_at hl 3 rfl) ?_
  refine lv_iconst (v := 2) hx hb dL_law_439 (by decide) ?_
  refine lv_iadd hx hb dL_law_440 ?_
  refine va_sld hx hb hX hbl hbA hS (vIn hi hL 2 (by decide)) dL_law_441 ?_
  obtain ⟨r, b', R', F', e1, e2, g'⟩ := pr_turn (N := 600) (T := T) (p1 := (xs (nI i + 1).toNatClampNeg)) (p2 := (xs (nI i + 2).toNatClampNeg)) g (by decide)
  refine q_ci1 (r := r) (va_runV (As := [.int (xs (nI i + 1).toNatClampNeg), .int (xs (nI i + 2).toNatClampNeg)]) (rest := []) ⟨hx, hb, hml, hown, hts⟩ (c_X3_turn l D y t q _ 600 b R T K P B M (xs (nI i + 1).toNatClampNeg) (xs (nI i + 2).toNatClampNeg) (r, b', R') e1) (cwV 2 hts gL_law_X3_turn rfl rfl rfl eX3_turn ⟨Nat.le_of_ble_eq_true rfl, Nat.le_of_ble_eq_true rfl⟩) ⟨q_blind, va_recv hK hPB (ci := 3) (q0 := 0) rfl rfl, q_pre0 hPB hK hZ (D_left (hDD b R T K P B M F G)) AA_ok hS⟩ rfl rfl hl.1 rfl (lv_room (Nat.le_of_ble_eq_true rfl)) dL_law_442 ⟨Nat.le_of_ble_eq_true rfl, Nat.le_of_ble_eq_true rfl⟩) (hDD b R T K P B M F G) hPM AA_ok hS (fun H locs hPB hPM hS => ?_)
  have hPB : va_P D vwCl (wB y q b' R' T K P B M) H := hPB
  refine lv_aload_n hx hb dL_law_445 rfl (lv_at hl 2 rfl) ?_
  refine lv_aload_n hx hb dL_law_446 rfl (lv_at hl 0 rfl) ?_
  refine lv_iload_n hx hb dL_law_447 rfl (lv_at hl 3 rfl) ?_
  refine lv_iconst (v := 1) hx hb dL_law_448 (by decide) ?_
  refine lv_iadd hx hb dL_law_449 ?_
  refine va_sld hx hb hX hbl hbA hS (vIn hi hL 1 (by decide)) dL_law_450 ?_
  refine lv_aload_n hx hb dL_law_451 rfl (lv_at hl 0 rfl) ?_
  refine lv_iload_n hx hb dL_law_452 rfl (lv_at hl 3 rfl) ?_
  refine lv_iconst (v := 2) hx hb dL_law_453 (by decide) ?_
  refine lv_iadd hx hb dL_law_454 ?_
  refine va_sld hx hb hX hbl hbA hS (vIn hi hL 2 (by decide)) dL_law_455 ?_
  refine q_ci2 (r := r) (va_runV (As := [.int (xs (nI i + 1).toNatClampNeg), .int (xs (nI i + 2).toNatClampNeg)]) (rest := [.int r]) ⟨hx, hb, hml, hown, hts⟩ (c_X4_turn l D y t q' _ 600 F G (xs (nI i + 1).toNatClampNeg) (xs (nI i + 2).toNatClampNeg) (r, F') e2) (cwV 2 hts gL_law_X4_turn rfl rfl rfl eX4_turn ⟨Nat.le_of_ble_eq_true rfl, Nat.le_of_ble_eq_true rfl⟩) ⟨q_blind, va_recv hK hPM (ci := 4) (q0 := 0) rfl rfl, q_pre0 hPM hK hZ (D_right (hDD b' R' T K P B M F G)) AA_ok hS⟩ rfl rfl hl.1 rfl (lv_room (Nat.le_of_ble_eq_true rfl)) dL_law_456 ⟨Nat.le_of_ble_eq_true rfl, Nat.le_of_ble_eq_true rfl⟩) (hDD b' R' T K P B M F G) hPB AA_ok hS (fun H locs hPB hPM hS => ?_)
  have hPM : va_P D vwCl (wM y q' F' G) H := hPM
  exact lv_icmp_eq (tgt := 1325) hx hb dL_law_459 (by decide) (fun _ => kk _ _ _ _ _ _ _ _ _ _ _ g' hPB hPM hS) (fun c9 => absurd rfl c9)
set_option maxHeartbeats 4000000 in
set_option maxRecDepth 100000 in
theorem law_8 {p : Program} {l : Launch} {e : Env} {s : State} {m : MethodId} {below : List Frame} {meth : Method} {c : Code} {a0 L : Nat} {xs : Nat → Int32} {D : va_G} {y : Nat → ClassId} {t q q' : Nat → Nat} (C : LC p s m meth c a0 L xs D y t q q') {i : Nat} (hL : L ≤ 3072) (hi : i + 6 ≤ L) {b R T K P B : Nat → Nat → Int32} {M : Nat → Nat → Int64} {F : Nat → Nat → Int32} {G : Nat → Int64} (g : gRel b R K P B M F G) {H : Heap} {locs : List Loc} {ls : Array Slot} (hPB : va_P D vwCl (wB y q b R T K P B M) H) (hPM : va_P D vwCl (wM y q' F G) H) (hS : va_S (AA s) s.heap H locs) (hl : lv_has ls 4 [(0, .ref a0), (1, .ref (q 0)), (2, .ref (q' 0)), (3, .int (nI i))]) (kk : lwK p l e s m below meth c a0 D y q q' ls) : W p l e room_1 s m #[Value.ref a0] below meth c H locs 46 1380 (lw_Z below #[Value.ref a0] s) (F0 m 464 ls []) := by
  obtain ⟨hx, hb, hr, hml, hown, hts, hX, hbl, hlocks, hK, hZ, hDD⟩ := C
  have hbA : ¬ AA s a0 := Nat.not_le.mpr hbl
  refine lv_aload_n hx hb dL_law_464 rfl (lv_at hl 1 rfl) ?_
  refine lv_aload_n hx hb dL_law_465 rfl (lv_at hl 0 rfl) ?_
  refine lv_iload_n hx hb dL_law_466 rfl (lv_at hl 3 rfl) ?_
  refine lv_iconst (v := 1) hx hb dL_law_467 (by decide) ?_
  refine lv_iadd hx hb dL_law_468 ?_
  refine va_sld hx hb hX hbl hbA hS (vIn hi hL 1 (by decide)) dL_law_469 ?_
  refine lv_aload_n hx hb dL_law_470 rfl (lv_at hl 0 rfl) ?_
  refine lv_iload_n hx hb dL_law_471 rfl (lv_at hl 3 rfl) ?_
  refine lv_iconst (v := 2) hx hb dL_law_472 (by decide) ?_
  refine lv_iadd hx hb dL_law_473 ?_
  refine va_sld hx hb hX hbl hbA hS (vIn hi hL 2 (by decide)) dL_law_474 ?_
  obtain ⟨r, b', F', e1, e2, g'⟩ := pr_as (N := 600) (T := T) (p1 := (xs (nI i + 1).toNatClampNeg)) (p2 := (xs (nI i + 2).toNatClampNeg)) g (by decide)
  refine q_ci1 (r := r) (va_runV (As := [.int (xs (nI i + 1).toNatClampNeg), .int (xs (nI i + 2).toNatClampNeg)]) (rest := []) ⟨hx, hb, hml, hown, hts⟩ (c_X3_as l D y t q _ 600 b R T K P B M (xs (nI i + 1).toNatClampNeg) (xs (nI i + 2).toNatClampNeg) (r, b') e1) (cwV 2 hts gL_law_X3_as rfl rfl rfl eX3_as ⟨Nat.le_of_ble_eq_true rfl, Nat.le_of_ble_eq_true rfl⟩) ⟨q_blind, va_recv hK hPB (ci := 3) (q0 := 0) rfl rfl, q_pre0 hPB hK hZ (D_left (hDD b R T K P B M F G)) AA_ok hS⟩ rfl rfl hl.1 rfl (lv_room (Nat.le_of_ble_eq_true rfl)) dL_law_475 ⟨Nat.le_of_ble_eq_true rfl, Nat.le_of_ble_eq_true rfl⟩) (hDD b R T K P B M F G) hPM AA_ok hS (fun H locs hPB hPM hS => ?_)
  have hPB : va_P D vwCl (wB y q b' R T K P B M) H := hPB
  refine lv_aload_n hx hb dL_law_478 rfl (lv_at hl 2 rfl) ?_
  refine lv_aload_n hx hb dL_law_479 rfl (lv_at hl 0 rfl) ?_
  refine lv_iload_n hx hb dL_law_480 rfl (lv_at hl 3 rfl) ?_
  refine lv_iconst (v := 1) hx hb dL_law_481 (by decide) ?_
  refine lv_iadd hx hb dL_law_482 ?_
  refine va_sld hx hb hX hbl hbA hS (vIn hi hL 1 (by decide)) dL_law_483 ?_
  refine lv_aload_n hx hb dL_law_484 rfl (lv_at hl 0 rfl) ?_
  refine lv_iload_n hx hb dL_law_485 rfl (lv_at hl 3 rfl) ?_
  refine lv_iconst (v := 2) hx hb dL_law_486 (by decide) ?_
  refine lv_iadd hx hb dL_law_487 ?_
  refine va_sld hx hb hX hbl hbA hS (vIn hi hL 2 (by decide)) dL_law_488 ?_
  refine q_ci2 (r := r) (va_runV (As := [.int (xs (nI i + 1).toNatClampNeg), .int (xs (nI i + 2).toNatClampNeg)]) (rest := [.int r]) ⟨hx, hb, hml, hown, hts⟩ (c_X4_as l D y t q' _ 600 F G (xs (nI i + 1).toNatClampNeg) (xs (nI i + 2).toNatClampNeg) (r, F') e2) (cwV 2 hts gL_law_X4_as rfl rfl rfl eX4_as ⟨Nat.le_of_ble_eq_true rfl, Nat.le_of_ble_eq_true rfl⟩) ⟨q_blind, va_recv hK hPM (ci := 4) (q0 := 0) rfl rfl, q_pre0 hPM hK hZ (D_right (hDD b' R T K P B M F G)) AA_ok hS⟩ rfl rfl hl.1 rfl (lv_room (Nat.le_of_ble_eq_true rfl)) dL_law_489 ⟨Nat.le_of_ble_eq_true rfl, Nat.le_of_ble_eq_true rfl⟩) (hDD b' R T K P B M F G) hPB AA_ok hS (fun H locs hPB hPM hS => ?_)
  have hPM : va_P D vwCl (wM y q' F' G) H := hPM
  exact lv_icmp_eq (tgt := 1325) hx hb dL_law_492 (by decide) (fun _ => kk _ _ _ _ _ _ _ _ _ _ _ g' hPB hPM hS) (fun c9 => absurd rfl c9)
set_option maxHeartbeats 4000000 in
set_option maxRecDepth 100000 in
theorem law_9 {p : Program} {l : Launch} {e : Env} {s : State} {m : MethodId} {below : List Frame} {meth : Method} {c : Code} {a0 L : Nat} {xs : Nat → Int32} {D : va_G} {y : Nat → ClassId} {t q q' : Nat → Nat} (C : LC p s m meth c a0 L xs D y t q q') {i : Nat} (hL : L ≤ 3072) (hi : i + 6 ≤ L) {b R T K P B : Nat → Nat → Int32} {M : Nat → Nat → Int64} {F : Nat → Nat → Int32} {G : Nat → Int64} (g : gRel b R K P B M F G) {H : Heap} {locs : List Loc} {ls : Array Slot} (hPB : va_P D vwCl (wB y q b R T K P B M) H) (hPM : va_P D vwCl (wM y q' F G) H) (hS : va_S (AA s) s.heap H locs) (hl : lv_has ls 4 [(0, .ref a0), (1, .ref (q 0)), (2, .ref (q' 0)), (3, .int (nI i))]) (kk : lwK p l e s m below meth c a0 D y q q' ls) : W p l e room_1 s m #[Value.ref a0] below meth c H locs 46 1380 (lw_Z below #[Value.ref a0] s) (F0 m 497 ls []) := by
  obtain ⟨hx, hb, hr, hml, hown, hts, hX, hbl, hlocks, hK, hZ, hDD⟩ := C
  have hbA : ¬ AA s a0 := Nat.not_le.mpr hbl
  refine lv_aload_n hx hb dL_law_497 rfl (lv_at hl 1 rfl) ?_
  refine lv_aload_n hx hb dL_law_498 rfl (lv_at hl 0 rfl) ?_
  refine lv_iload_n hx hb dL_law_499 rfl (lv_at hl 3 rfl) ?_
  refine lv_iconst (v := 1) hx hb dL_law_500 (by decide) ?_
  refine lv_iadd hx hb dL_law_501 ?_
  refine va_sld hx hb hX hbl hbA hS (vIn hi hL 1 (by decide)) dL_law_502 ?_
  obtain ⟨r, b', R', F', e1, e2, g'⟩ := pr_lay (N := 600) (T := T) (p1 := (xs (nI i + 1).toNatClampNeg)) g (by decide)
  refine q_ci1 (r := r) (va_runV (As := [.int (xs (nI i + 1).toNatClampNeg)]) (rest := []) ⟨hx, hb, hml, hown, hts⟩ (c_X3_lay l D y t q _ 600 b R T K P B M (xs (nI i + 1).toNatClampNeg) (r, b', R') e1) (cwV 1 hts gL_law_X3_lay rfl rfl rfl eX3_lay ⟨Nat.le_of_ble_eq_true rfl, Nat.le_of_ble_eq_true rfl⟩) ⟨q_blind, va_recv hK hPB (ci := 3) (q0 := 0) rfl rfl, q_pre0 hPB hK hZ (D_left (hDD b R T K P B M F G)) AA_ok hS⟩ rfl rfl hl.1 rfl (lv_room (Nat.le_of_ble_eq_true rfl)) dL_law_503 ⟨Nat.le_of_ble_eq_true rfl, Nat.le_of_ble_eq_true rfl⟩) (hDD b R T K P B M F G) hPM AA_ok hS (fun H locs hPB hPM hS => ?_)
  have hPB : va_P D vwCl (wB y q b' R' T K P B M) H := hPB
  refine lv_aload_n hx hb dL_law_506 rfl (lv_at hl 2 rfl) ?_
  refine lv_aload_n hx hb dL_law_507 rfl (lv_at hl 0 rfl) ?_
  refine lv_iload_n hx hb dL_law_508 rfl (lv_at hl 3 rfl) ?_
  refine lv_iconst (v := 1) hx hb dL_law_509 (by decide) ?_
  refine lv_iadd hx hb dL_law_510 ?_
  refine va_sld hx hb hX hbl hbA hS (vIn hi hL 1 (by decide)) dL_law_511 ?_
  refine q_ci2 (r := r) (va_runV (As := [.int (xs (nI i + 1).toNatClampNeg)]) (rest := [.int r]) ⟨hx, hb, hml, hown, hts⟩ (c_X4_lay l D y t q' _ 600 F G (xs (nI i + 1).toNatClampNeg) (r, F') e2) (cwV 1 hts gL_law_X4_lay rfl rfl rfl eX4_lay ⟨Nat.le_of_ble_eq_true rfl, Nat.le_of_ble_eq_true rfl⟩) ⟨q_blind, va_recv hK hPM (ci := 4) (q0 := 0) rfl rfl, q_pre0 hPM hK hZ (D_right (hDD b' R' T K P B M F G)) AA_ok hS⟩ rfl rfl hl.1 rfl (lv_room (Nat.le_of_ble_eq_true rfl)) dL_law_512 ⟨Nat.le_of_ble_eq_true rfl, Nat.le_of_ble_eq_true rfl⟩) (hDD b' R' T K P B M F G) hPB AA_ok hS (fun H locs hPB hPM hS => ?_)
  have hPM : va_P D vwCl (wM y q' F' G) H := hPM
  exact lv_icmp_eq (tgt := 1325) hx hb dL_law_515 (by decide) (fun _ => kk _ _ _ _ _ _ _ _ _ _ _ g' hPB hPM hS) (fun c9 => absurd rfl c9)
set_option maxHeartbeats 4000000 in
set_option maxRecDepth 100000 in
theorem law_10 {p : Program} {l : Launch} {e : Env} {s : State} {m : MethodId} {below : List Frame} {meth : Method} {c : Code} {a0 L : Nat} {xs : Nat → Int32} {D : va_G} {y : Nat → ClassId} {t q q' : Nat → Nat} (C : LC p s m meth c a0 L xs D y t q q') {i : Nat} (hL : L ≤ 3072) (hi : i + 6 ≤ L) {b R T K P B : Nat → Nat → Int32} {M : Nat → Nat → Int64} {F : Nat → Nat → Int32} {G : Nat → Int64} (g : gRel b R K P B M F G) {H : Heap} {locs : List Loc} {ls : Array Slot} (hPB : va_P D vwCl (wB y q b R T K P B M) H) (hPM : va_P D vwCl (wM y q' F G) H) (hS : va_S (AA s) s.heap H locs) (hl : lv_has ls 4 [(0, .ref a0), (1, .ref (q 0)), (2, .ref (q' 0)), (3, .int (nI i))]) (kk : lwK p l e s m below meth c a0 D y q q' ls) : W p l e room_1 s m #[Value.ref a0] below meth c H locs 46 1380 (lw_Z below #[Value.ref a0] s) (F0 m 520 ls []) := by
  obtain ⟨hx, hb, hr, hml, hown, hts, hX, hbl, hlocks, hK, hZ, hDD⟩ := C
  have hbA : ¬ AA s a0 := Nat.not_le.mpr hbl
  refine lv_aload_n hx hb dL_law_520 rfl (lv_at hl 1 rfl) ?_
  refine lv_aload_n hx hb dL_law_521 rfl (lv_at hl 0 rfl) ?_
  refine lv_iload_n hx hb dL_law_522 rfl (lv_at hl 3 rfl) ?_
  refine lv_iconst (v := 1) hx hb dL_law_523 (by decide) ?_
  refine lv_iadd hx hb dL_law_524 ?_
  refine va_sld hx hb hX hbl hbA hS (vIn hi hL 1 (by decide)) dL_law_525 ?_
  obtain ⟨r, b', R', F', e1, e2, g'⟩ := pr_take (N := 600) (T := T) (p1 := (xs (nI i + 1).toNatClampNeg)) g (by decide)
  refine q_ci1 (r := r) (va_runV (As := [.int (xs (nI i + 1).toNatClampNeg)]) (rest := []) ⟨hx, hb, hml, hown, hts⟩ (c_X3_take l D y t q _ 600 b R T K P B M (xs (nI i + 1).toNatClampNeg) (r, b', R') e1) (cwV 1 hts gL_law_X3_take rfl rfl rfl eX3_take ⟨Nat.le_of_ble_eq_true rfl, Nat.le_of_ble_eq_true rfl⟩) ⟨q_blind, va_recv hK hPB (ci := 3) (q0 := 0) rfl rfl, q_pre0 hPB hK hZ (D_left (hDD b R T K P B M F G)) AA_ok hS⟩ rfl rfl hl.1 rfl (lv_room (Nat.le_of_ble_eq_true rfl)) dL_law_526 ⟨Nat.le_of_ble_eq_true rfl, Nat.le_of_ble_eq_true rfl⟩) (hDD b R T K P B M F G) hPM AA_ok hS (fun H locs hPB hPM hS => ?_)
  have hPB : va_P D vwCl (wB y q b' R' T K P B M) H := hPB
  refine lv_aload_n hx hb dL_law_529 rfl (lv_at hl 2 rfl) ?_
  refine lv_aload_n hx hb dL_law_530 rfl (lv_at hl 0 rfl) ?_
  refine lv_iload_n hx hb dL_law_531 rfl (lv_at hl 3 rfl) ?_
  refine lv_iconst (v := 1) hx hb dL_law_532 (by decide) ?_
  refine lv_iadd hx hb dL_law_533 ?_
  refine va_sld hx hb hX hbl hbA hS (vIn hi hL 1 (by decide)) dL_law_534 ?_
  refine q_ci2 (r := r) (va_runV (As := [.int (xs (nI i + 1).toNatClampNeg)]) (rest := [.int r]) ⟨hx, hb, hml, hown, hts⟩ (c_X4_take l D y t q' _ 600 F G (xs (nI i + 1).toNatClampNeg) (r, F') e2) (cwV 1 hts gL_law_X4_take rfl rfl rfl eX4_take ⟨Nat.le_of_ble_eq_true rfl, Nat.le_of_ble_eq_true rfl⟩) ⟨q_blind, va_recv hK hPM (ci := 4) (q0 := 0) rfl rfl, q_pre0 hPM hK hZ (D_right (hDD b' R' T K P B M F G)) AA_ok hS⟩ rfl rfl hl.1 rfl (lv_room (Nat.le_of_ble_eq_true rfl)) dL_law_535 ⟨Nat.le_of_ble_eq_true rfl, Nat.le_of_ble_eq_true rfl⟩) (hDD b' R' T K P B M F G) hPB AA_ok hS (fun H locs hPB hPM hS => ?_)
  have hPM : va_P D vwCl (wM y q' F' G) H := hPM
  exact lv_icmp_eq (tgt := 1325) hx hb dL_law_538 (by decide) (fun _ => kk _ _ _ _ _ _ _ _ _ _ _ g' hPB hPM hS) (fun c9 => absurd rfl c9)
set_option maxHeartbeats 4000000 in
set_option maxRecDepth 100000 in
theorem law_11 {p : Program} {l : Launch} {e : Env} {s : State} {m : MethodId} {below : List Frame} {meth : Method} {c : Code} {a0 L : Nat} {xs : Nat → Int32} {D : va_G} {y : Nat → ClassId} {t q q' : Nat → Nat} (C : LC p s m meth c a0 L xs D y t q q') {i : Nat} (hL : L ≤ 3072) (hi : i + 6 ≤ L) {b R T K P B : Nat → Nat → Int32} {M : Nat → Nat → Int64} {F : Nat → Nat → Int32} {G : Nat → Int64} (g : gRel b R K P B M F G) {H : Heap} {locs : List Loc} {ls : Array Slot} (hPB : va_P D vwCl (wB y q b R T K P B M) H) (hPM : va_P D vwCl (wM y q' F G) H) (hS : va_S (AA s) s.heap H locs) (hl : lv_has ls 4 [(0, .ref a0), (1, .ref (q 0)), (2, .ref (q' 0)), (3, .int (nI i))]) (kk : lwK p l e s m below meth c a0 D y q q' ls) : W p l e room_1 s m #[Value.ref a0] below meth c H locs 46 1380 (lw_Z below #[Value.ref a0] s) (F0 m 543 ls []) := by
  obtain ⟨hx, hb, hr, hml, hown, hts, hX, hbl, hlocks, hK, hZ, hDD⟩ := C
  have hbA : ¬ AA s a0 := Nat.not_le.mpr hbl
  refine lv_aload_n hx hb dL_law_543 rfl (lv_at hl 1 rfl) ?_
  refine lv_aload_n hx hb dL_law_544 rfl (lv_at hl 0 rfl) ?_
  refine lv_iload_n hx hb dL_law_545 rfl (lv_at hl 3 rfl) ?_
  refine lv_iconst (v := 1) hx hb dL_law_546 (by decide) ?_
  refine lv_iadd hx hb dL_law_547 ?_
  refine va_sld hx hb hX hbl hbA hS (vIn hi hL 1 (by decide)) dL_law_548 ?_
  obtain ⟨r, b', R', F', e1, e2, g'⟩ := pr_seconds (N := 600) (T := T) (p1 := (xs (nI i + 1).toNatClampNeg)) g (by decide)
  refine q_ci1 (r := r) (va_runV (As := [.int (xs (nI i + 1).toNatClampNeg)]) (rest := []) ⟨hx, hb, hml, hown, hts⟩ (c_X3_seconds l D y t q _ 600 b R T K P B M (xs (nI i + 1).toNatClampNeg) (r, b', R') e1) (cwV 1 hts gL_law_X3_seconds rfl rfl rfl eX3_seconds ⟨Nat.le_of_ble_eq_true rfl, Nat.le_of_ble_eq_true rfl⟩) ⟨q_blind, va_recv hK hPB (ci := 3) (q0 := 0) rfl rfl, q_pre0 hPB hK hZ (D_left (hDD b R T K P B M F G)) AA_ok hS⟩ rfl rfl hl.1 rfl (lv_room (Nat.le_of_ble_eq_true rfl)) dL_law_549 ⟨Nat.le_of_ble_eq_true rfl, Nat.le_of_ble_eq_true rfl⟩) (hDD b R T K P B M F G) hPM AA_ok hS (fun H locs hPB hPM hS => ?_)
  have hPB : va_P D vwCl (wB y q b' R' T K P B M) H := hPB
  refine lv_aload_n hx hb dL_law_552 rfl (lv_at hl 2 rfl) ?_
  refine lv_aload_n hx hb dL_law_553 rfl (lv_at hl 0 rfl) ?_
  refine lv_iload_n hx hb dL_law_554 rfl (lv_at hl 3 rfl) ?_
  refine lv_iconst (v := 1) hx hb dL_law_555 (by decide) ?_
  refine lv_iadd hx hb dL_law_556 ?_
  refine va_sld hx hb hX hbl hbA hS (vIn hi hL 1 (by decide)) dL_law_557 ?_
  refine q_ci2 (r := r) (va_runV (As := [.int (xs (nI i + 1).toNatClampNeg)]) (rest := [.int r]) ⟨hx, hb, hml, hown, hts⟩ (c_X4_seconds l D y t q' _ 600 F G (xs (nI i + 1).toNatClampNeg) (r, F') e2) (cwV 1 hts gL_law_X4_seconds rfl rfl rfl eX4_seconds ⟨Nat.le_of_ble_eq_true rfl, Nat.le_of_ble_eq_true rfl⟩) ⟨q_blind, va_recv hK hPM (ci := 4) (q0 := 0) rfl rfl, q_pre0 hPM hK hZ (D_right (hDD b' R' T K P B M F G)) AA_ok hS⟩ rfl rfl hl.1 rfl (lv_room (Nat.le_of_ble_eq_true rfl)) dL_law_558 ⟨Nat.le_of_ble_eq_true rfl, Nat.le_of_ble_eq_true rfl⟩) (hDD b' R' T K P B M F G) hPB AA_ok hS (fun H locs hPB hPM hS => ?_)
  have hPM : va_P D vwCl (wM y q' F' G) H := hPM
  exact lv_icmp_eq (tgt := 1325) hx hb dL_law_561 (by decide) (fun _ => kk _ _ _ _ _ _ _ _ _ _ _ g' hPB hPM hS) (fun c9 => absurd rfl c9)
set_option maxHeartbeats 4000000 in
set_option maxRecDepth 100000 in
theorem law_12 {p : Program} {l : Launch} {e : Env} {s : State} {m : MethodId} {below : List Frame} {meth : Method} {c : Code} {a0 L : Nat} {xs : Nat → Int32} {D : va_G} {y : Nat → ClassId} {t q q' : Nat → Nat} (C : LC p s m meth c a0 L xs D y t q q') {i : Nat} (hL : L ≤ 3072) (hi : i + 6 ≤ L) {b R T K P B : Nat → Nat → Int32} {M : Nat → Nat → Int64} {F : Nat → Nat → Int32} {G : Nat → Int64} (g : gRel b R K P B M F G) {H : Heap} {locs : List Loc} {ls : Array Slot} (hPB : va_P D vwCl (wB y q b R T K P B M) H) (hPM : va_P D vwCl (wM y q' F G) H) (hS : va_S (AA s) s.heap H locs) (hl : lv_has ls 4 [(0, .ref a0), (1, .ref (q 0)), (2, .ref (q' 0)), (3, .int (nI i))]) (kk : lwK p l e s m below meth c a0 D y q q' ls) : W p l e room_1 s m #[Value.ref a0] below meth c H locs 46 1380 (lw_Z below #[Value.ref a0] s) (F0 m 566 ls []) := by
  obtain ⟨hx, hb, hr, hml, hown, hts, hX, hbl, hlocks, hK, hZ, hDD⟩ := C
  have hbA : ¬ AA s a0 := Nat.not_le.mpr hbl
  refine lv_aload_n hx hb dL_law_566 rfl (lv_at hl 1 rfl) ?_
  refine lv_aload_n hx hb dL_law_567 rfl (lv_at hl 0 rfl) ?_
  refine lv_iload_n hx hb dL_law_568 rfl (lv_at hl 3 rfl) ?_
  refine lv_iconst (v := 1) hx hb dL_law_569 (by decide) ?_
  refine lv_iadd hx hb dL_law_570 ?_
  refine va_sld hx hb hX hbl hbA hS (vIn hi hL 1 (by decide)) dL_law_571 ?_
  refine lv_aload_n hx hb dL_law_572 rfl (lv_at hl 0 rfl) ?_
  refine lv_iload_n hx hb dL_law_573 rfl (lv_at hl 3 rfl) ?_
  refine lv_iconst (v := 2) hx hb dL_law_574 (by decide) ?_
  refine lv_iadd hx hb dL_law_575 ?_
  refine va_sld hx hb hX hbl hbA hS (vIn hi hL 2 (by decide)) dL_law_576 ?_
  refine lv_aload_n hx hb dL_law_577 rfl (lv_at hl 0 rfl) ?_
  refine lv_iload_n hx hb dL_law_578 rfl (lv_at hl 3 rfl) ?_
  refine lv_iconst (v := 3) hx hb dL_law_579 (by decide) ?_
  refine lv_iadd hx hb dL_law_580 ?_
  refine va_sld hx hb hX hbl hbA hS (vIn hi hL 3 (by decide)) dL_law_581 ?_
  obtain ⟨r, b', T', F', e1, e2, g'⟩ := pr_on (N := 600) (T := T) (p1 := (xs (nI i + 1).toNatClampNeg)) (p2 := (xs (nI i + 2).toNatClampNeg)) (p3 := (xs (nI i + 3).toNatClampNeg)) g (by decide)
  refine q_ci1 (r := r) (va_runV (As := [.int (xs (nI i + 1).toNatClampNeg), .int (xs (nI i + 2).toNatClampNeg), .int (xs (nI i + 3).toNatClampNeg)]) (rest := []) ⟨hx, hb, hml, hown, hts⟩ (c_X3_on l D y t q _ 600 b R T K P B M (xs (nI i + 1).toNatClampNeg) (xs (nI i + 2).toNatClampNeg) (xs (nI i + 3).toNatClampNeg) (r, b', T') e1) (cwV 3 hts gL_law_X3_on rfl rfl rfl eX3_on ⟨Nat.le_of_ble_eq_true rfl, Nat.le_of_ble_eq_true rfl⟩) ⟨q_blind, va_recv hK hPB (ci := 3) (q0 := 0) rfl rfl, q_pre0 hPB hK hZ (D_left (hDD b R T K P B M F G)) AA_ok hS⟩ rfl rfl hl.1 rfl (lv_room (Nat.le_of_ble_eq_true rfl)) dL_law_582 ⟨Nat.le_of_ble_eq_true rfl, Nat.le_of_ble_eq_true rfl⟩) (hDD b R T K P B M F G) hPM AA_ok hS (fun H locs hPB hPM hS => ?_)
  have hPB : va_P D vwCl (wB y q b' R T' K P B M) H := hPB
  refine lv_aload_n hx hb dL_law_585 rfl (lv_at hl 2 rfl) ?_
  refine lv_aload_n hx hb dL_law_586 rfl (lv_at hl 0 rfl) ?_
  refine lv_iload_n hx hb dL_law_587 rfl (lv_at hl 3 rfl) ?_
  refine lv_iconst (v := 1) hx hb dL_law_588 (by decide) ?_
  refine lv_iadd hx hb dL_law_589 ?_
  refine va_sld hx hb hX hbl hbA hS (vIn hi hL 1 (by decide)) dL_law_590 ?_
  refine lv_aload_n hx hb dL_law_591 rfl (lv_at hl 0 rfl) ?_
  refine lv_iload_n hx hb dL_law_592 rfl (lv_at hl 3 rfl) ?_
  refine lv_iconst (v := 2) hx hb dL_law_593 (by decide) ?_
  refine lv_iadd hx hb dL_law_594 ?_
  refine va_sld hx hb hX hbl hbA hS (vIn hi hL 2 (by decide)) dL_law_595 ?_
  refine lv_aload_n hx hb dL_law_596 rfl (lv_at hl 0 rfl) ?_
  refine lv_iload_n hx hb dL_law_597 rfl (lv_at hl 3 rfl) ?_
  refine lv_iconst (v := 3) hx hb dL_law_598 (by decide) ?_
  refine lv_iadd hx hb dL_law_599 ?_
  refine va_sld hx hb hX hbl hbA hS (vIn hi hL 3 (by decide)) dL_law_600 ?_
  refine q_ci2 (r := r) (va_runV (As := [.int (xs (nI i + 1).toNatClampNeg), .int (xs (nI i + 2).toNatClampNeg), .int (xs (nI i + 3).toNatClampNeg)]) (rest := [.int r]) ⟨hx, hb, hml, hown, hts⟩ (c_X4_on l D y t q' _ 600 F G (xs (nI i + 1).toNatClampNeg) (xs (nI i + 2).toNatClampNeg) (xs (nI i + 3).toNatClampNeg) (r, F') e2) (cwV 3 hts gL_law_X4_on rfl rfl rfl eX4_on ⟨Nat.le_of_ble_eq_true rfl, Nat.le_of_ble_eq_true rfl⟩) ⟨q_blind, va_recv hK hPM (ci := 4) (q0 := 0) rfl rfl, q_pre0 hPM hK hZ (D_right (hDD b' R T' K P B M F G)) AA_ok hS⟩ rfl rfl hl.1 rfl (lv_room (Nat.le_of_ble_eq_true rfl)) dL_law_601 ⟨Nat.le_of_ble_eq_true rfl, Nat.le_of_ble_eq_true rfl⟩) (hDD b' R T' K P B M F G) hPB AA_ok hS (fun H locs hPB hPM hS => ?_)
  have hPM : va_P D vwCl (wM y q' F' G) H := hPM
  exact lv_icmp_eq (tgt := 1325) hx hb dL_law_604 (by decide) (fun _ => kk _ _ _ _ _ _ _ _ _ _ _ g' hPB hPM hS) (fun c9 => absurd rfl c9)
set_option maxHeartbeats 4000000 in
set_option maxRecDepth 100000 in
theorem law_13 {p : Program} {l : Launch} {e : Env} {s : State} {m : MethodId} {below : List Frame} {meth : Method} {c : Code} {a0 L : Nat} {xs : Nat → Int32} {D : va_G} {y : Nat → ClassId} {t q q' : Nat → Nat} (C : LC p s m meth c a0 L xs D y t q q') {i : Nat} (hL : L ≤ 3072) (hi : i + 6 ≤ L) {b R T K P B : Nat → Nat → Int32} {M : Nat → Nat → Int64} {F : Nat → Nat → Int32} {G : Nat → Int64} (g : gRel b R K P B M F G) {H : Heap} {locs : List Loc} {ls : Array Slot} (hPB : va_P D vwCl (wB y q b R T K P B M) H) (hPM : va_P D vwCl (wM y q' F G) H) (hS : va_S (AA s) s.heap H locs) (hl : lv_has ls 4 [(0, .ref a0), (1, .ref (q 0)), (2, .ref (q' 0)), (3, .int (nI i))]) (kk : lwK p l e s m below meth c a0 D y q q' ls) : W p l e room_1 s m #[Value.ref a0] below meth c H locs 46 1380 (lw_Z below #[Value.ref a0] s) (F0 m 609 ls []) := by
  obtain ⟨hx, hb, hr, hml, hown, hts, hX, hbl, hlocks, hK, hZ, hDD⟩ := C
  have hbA : ¬ AA s a0 := Nat.not_le.mpr hbl
  refine lv_aload_n hx hb dL_law_609 rfl (lv_at hl 1 rfl) ?_
  refine lv_aload_n hx hb dL_law_610 rfl (lv_at hl 0 rfl) ?_
  refine lv_iload_n hx hb dL_law_611 rfl (lv_at hl 3 rfl) ?_
  refine lv_iconst (v := 1) hx hb dL_law_612 (by decide) ?_
  refine lv_iadd hx hb dL_law_613 ?_
  refine va_sld hx hb hX hbl hbA hS (vIn hi hL 1 (by decide)) dL_law_614 ?_
  refine lv_aload_n hx hb dL_law_615 rfl (lv_at hl 0 rfl) ?_
  refine lv_iload_n hx hb dL_law_616 rfl (lv_at hl 3 rfl) ?_
  refine lv_iconst (v := 2) hx hb dL_law_617 (by decide) ?_
  refine lv_iadd hx hb dL_law_618 ?_
  refine va_sld hx hb hX hbl hbA hS (vIn hi hL 2 (by decide)) dL_law_619 ?_
  obtain ⟨r, b', T', F', e1, e2, g'⟩ := pr_then (N := 600) (T := T) (p1 := (xs (nI i + 1).toNatClampNeg)) (p2 := (xs (nI i + 2).toNatClampNeg)) g (by decide)
  refine q_ci1 (r := r) (va_runV (As := [.int (xs (nI i + 1).toNatClampNeg), .int (xs (nI i + 2).toNatClampNeg)]) (rest := []) ⟨hx, hb, hml, hown, hts⟩ (c_X3_then l D y t q _ 600 b R T K P B M (xs (nI i + 1).toNatClampNeg) (xs (nI i + 2).toNatClampNeg) (r, b', T') e1) (cwV 2 hts gL_law_X3_then rfl rfl rfl eX3_then ⟨Nat.le_of_ble_eq_true rfl, Nat.le_of_ble_eq_true rfl⟩) ⟨q_blind, va_recv hK hPB (ci := 3) (q0 := 0) rfl rfl, q_pre0 hPB hK hZ (D_left (hDD b R T K P B M F G)) AA_ok hS⟩ rfl rfl hl.1 rfl (lv_room (Nat.le_of_ble_eq_true rfl)) dL_law_620 ⟨Nat.le_of_ble_eq_true rfl, Nat.le_of_ble_eq_true rfl⟩) (hDD b R T K P B M F G) hPM AA_ok hS (fun H locs hPB hPM hS => ?_)
  have hPB : va_P D vwCl (wB y q b' R T' K P B M) H := hPB
  refine lv_aload_n hx hb dL_law_623 rfl (lv_at hl 2 rfl) ?_
  refine lv_aload_n hx hb dL_law_624 rfl (lv_at hl 0 rfl) ?_
  refine lv_iload_n hx hb dL_law_625 rfl (lv_at hl 3 rfl) ?_
  refine lv_iconst (v := 1) hx hb dL_law_626 (by decide) ?_
  refine lv_iadd hx hb dL_law_627 ?_
  refine va_sld hx hb hX hbl hbA hS (vIn hi hL 1 (by decide)) dL_law_628 ?_
  refine lv_aload_n hx hb dL_law_629 rfl (lv_at hl 0 rfl) ?_
  refine lv_iload_n hx hb dL_law_630 rfl (lv_at hl 3 rfl) ?_
  refine lv_iconst (v := 2) hx hb dL_law_631 (by decide) ?_
  refine lv_iadd hx hb dL_law_632 ?_
  refine va_sld hx hb hX hbl hbA hS (vIn hi hL 2 (by decide)) dL_law_633 ?_
  refine q_ci2 (r := r) (va_runV (As := [.int (xs (nI i + 1).toNatClampNeg), .int (xs (nI i + 2).toNatClampNeg)]) (rest := [.int r]) ⟨hx, hb, hml, hown, hts⟩ (c_X4_then l D y t q' _ 600 F G (xs (nI i + 1).toNatClampNeg) (xs (nI i + 2).toNatClampNeg) (r, F') e2) (cwV 2 hts gL_law_X4_then rfl rfl rfl eX4_then ⟨Nat.le_of_ble_eq_true rfl, Nat.le_of_ble_eq_true rfl⟩) ⟨q_blind, va_recv hK hPM (ci := 4) (q0 := 0) rfl rfl, q_pre0 hPM hK hZ (D_right (hDD b' R T' K P B M F G)) AA_ok hS⟩ rfl rfl hl.1 rfl (lv_room (Nat.le_of_ble_eq_true rfl)) dL_law_634 ⟨Nat.le_of_ble_eq_true rfl, Nat.le_of_ble_eq_true rfl⟩) (hDD b' R T' K P B M F G) hPB AA_ok hS (fun H locs hPB hPM hS => ?_)
  have hPM : va_P D vwCl (wM y q' F' G) H := hPM
  exact lv_icmp_eq (tgt := 1325) hx hb dL_law_637 (by decide) (fun _ => kk _ _ _ _ _ _ _ _ _ _ _ g' hPB hPM hS) (fun c9 => absurd rfl c9)
set_option maxHeartbeats 4000000 in
set_option maxRecDepth 100000 in
theorem law_14 {p : Program} {l : Launch} {e : Env} {s : State} {m : MethodId} {below : List Frame} {meth : Method} {c : Code} {a0 L : Nat} {xs : Nat → Int32} {D : va_G} {y : Nat → ClassId} {t q q' : Nat → Nat} (C : LC p s m meth c a0 L xs D y t q q') {i : Nat} (hL : L ≤ 3072) (hi : i + 6 ≤ L) {b R T K P B : Nat → Nat → Int32} {M : Nat → Nat → Int64} {F : Nat → Nat → Int32} {G : Nat → Int64} (g : gRel b R K P B M F G) {H : Heap} {locs : List Loc} {ls : Array Slot} (hPB : va_P D vwCl (wB y q b R T K P B M) H) (hPM : va_P D vwCl (wM y q' F G) H) (hS : va_S (AA s) s.heap H locs) (hl : lv_has ls 4 [(0, .ref a0), (1, .ref (q 0)), (2, .ref (q' 0)), (3, .int (nI i))]) (kk : lwK p l e s m below meth c a0 D y q q' ls) : W p l e room_1 s m #[Value.ref a0] below meth c H locs 46 1380 (lw_Z below #[Value.ref a0] s) (F0 m 642 ls []) := by
  obtain ⟨hx, hb, hr, hml, hown, hts, hX, hbl, hlocks, hK, hZ, hDD⟩ := C
  have hbA : ¬ AA s a0 := Nat.not_le.mpr hbl
  refine lv_aload_n hx hb dL_law_642 rfl (lv_at hl 1 rfl) ?_
  refine lv_aload_n hx hb dL_law_643 rfl (lv_at hl 0 rfl) ?_
  refine lv_iload_n hx hb dL_law_644 rfl (lv_at hl 3 rfl) ?_
  refine lv_iconst (v := 1) hx hb dL_law_645 (by decide) ?_
  refine lv_iadd hx hb dL_law_646 ?_
  refine va_sld hx hb hX hbl hbA hS (vIn hi hL 1 (by decide)) dL_law_647 ?_
  obtain ⟨r, b', T', F', e1, e2, g'⟩ := pr_gets (N := 600) (T := T) (p1 := (xs (nI i + 1).toNatClampNeg)) g (by decide)
  refine q_ci1 (r := r) (va_runV (As := [.int (xs (nI i + 1).toNatClampNeg)]) (rest := []) ⟨hx, hb, hml, hown, hts⟩ (c_X3_gets l D y t q _ 600 b R T K P B M (xs (nI i + 1).toNatClampNeg) (r, b', T') e1) (cwV 1 hts gL_law_X3_gets rfl rfl rfl eX3_gets ⟨Nat.le_of_ble_eq_true rfl, Nat.le_of_ble_eq_true rfl⟩) ⟨q_blind, va_recv hK hPB (ci := 3) (q0 := 0) rfl rfl, q_pre0 hPB hK hZ (D_left (hDD b R T K P B M F G)) AA_ok hS⟩ rfl rfl hl.1 rfl (lv_room (Nat.le_of_ble_eq_true rfl)) dL_law_648 ⟨Nat.le_of_ble_eq_true rfl, Nat.le_of_ble_eq_true rfl⟩) (hDD b R T K P B M F G) hPM AA_ok hS (fun H locs hPB hPM hS => ?_)
  have hPB : va_P D vwCl (wB y q b' R T' K P B M) H := hPB
  refine lv_aload_n hx hb dL_law_651 rfl (lv_at hl 2 rfl) ?_
  refine lv_aload_n hx hb dL_law_652 rfl (lv_at hl 0 rfl) ?_
  refine lv_iload_n hx hb dL_law_653 rfl (lv_at hl 3 rfl) ?_
  refine lv_iconst (v := 1) hx hb dL_law_654 (by decide) ?_
  refine lv_iadd hx hb dL_law_655 ?_
  refine va_sld hx hb hX hbl hbA hS (vIn hi hL 1 (by decide)) dL_law_656 ?_
  refine q_ci2 (r := r) (va_runV (As := [.int (xs (nI i + 1).toNatClampNeg)]) (rest := [.int r]) ⟨hx, hb, hml, hown, hts⟩ (c_X4_gets l D y t q' _ 600 F G (xs (nI i + 1).toNatClampNeg) (r, F') e2) (cwV 1 hts gL_law_X4_gets rfl rfl rfl eX4_gets ⟨Nat.le_of_ble_eq_true rfl, Nat.le_of_ble_eq_true rfl⟩) ⟨q_blind, va_recv hK hPM (ci := 4) (q0 := 0) rfl rfl, q_pre0 hPM hK hZ (D_right (hDD b' R T' K P B M F G)) AA_ok hS⟩ rfl rfl hl.1 rfl (lv_room (Nat.le_of_ble_eq_true rfl)) dL_law_657 ⟨Nat.le_of_ble_eq_true rfl, Nat.le_of_ble_eq_true rfl⟩) (hDD b' R T' K P B M F G) hPB AA_ok hS (fun H locs hPB hPM hS => ?_)
  have hPM : va_P D vwCl (wM y q' F' G) H := hPM
  exact lv_icmp_eq (tgt := 1325) hx hb dL_law_660 (by decide) (fun _ => kk _ _ _ _ _ _ _ _ _ _ _ g' hPB hPM hS) (fun c9 => absurd rfl c9)
set_option maxHeartbeats 4000000 in
set_option maxRecDepth 100000 in
theorem law_15 {p : Program} {l : Launch} {e : Env} {s : State} {m : MethodId} {below : List Frame} {meth : Method} {c : Code} {a0 L : Nat} {xs : Nat → Int32} {D : va_G} {y : Nat → ClassId} {t q q' : Nat → Nat} (C : LC p s m meth c a0 L xs D y t q q') {i : Nat} (hL : L ≤ 3072) (hi : i + 6 ≤ L) {b R T K P B : Nat → Nat → Int32} {M : Nat → Nat → Int64} {F : Nat → Nat → Int32} {G : Nat → Int64} (g : gRel b R K P B M F G) {H : Heap} {locs : List Loc} {ls : Array Slot} (hPB : va_P D vwCl (wB y q b R T K P B M) H) (hPM : va_P D vwCl (wM y q' F G) H) (hS : va_S (AA s) s.heap H locs) (hl : lv_has ls 4 [(0, .ref a0), (1, .ref (q 0)), (2, .ref (q' 0)), (3, .int (nI i))]) (kk : lwK p l e s m below meth c a0 D y q q' ls) : W p l e room_1 s m #[Value.ref a0] below meth c H locs 46 1380 (lw_Z below #[Value.ref a0] s) (F0 m 665 ls []) := by
  obtain ⟨hx, hb, hr, hml, hown, hts, hX, hbl, hlocks, hK, hZ, hDD⟩ := C
  have hbA : ¬ AA s a0 := Nat.not_le.mpr hbl
  refine lv_aload_n hx hb dL_law_665 rfl (lv_at hl 1 rfl) ?_
  refine lv_aload_n hx hb dL_law_666 rfl (lv_at hl 0 rfl) ?_
  refine lv_iload_n hx hb dL_law_667 rfl (lv_at hl 3 rfl) ?_
  refine lv_iconst (v := 1) hx hb dL_law_668 (by decide) ?_
  refine lv_iadd hx hb dL_law_669 ?_
  refine va_sld hx hb hX hbl hbA hS (vIn hi hL 1 (by decide)) dL_law_670 ?_
  obtain ⟨r, b', T', F', e1, e2, g'⟩ := pr_dry (N := 600) (T := T) (p1 := (xs (nI i + 1).toNatClampNeg)) g (by decide)
  refine q_ci1 (r := r) (va_runV (As := [.int (xs (nI i + 1).toNatClampNeg)]) (rest := []) ⟨hx, hb, hml, hown, hts⟩ (c_X3_dry l D y t q _ 600 b R T K P B M (xs (nI i + 1).toNatClampNeg) (r, b', T') e1) (cwV 1 hts gL_law_X3_dry rfl rfl rfl eX3_dry ⟨Nat.le_of_ble_eq_true rfl, Nat.le_of_ble_eq_true rfl⟩) ⟨q_blind, va_recv hK hPB (ci := 3) (q0 := 0) rfl rfl, q_pre0 hPB hK hZ (D_left (hDD b R T K P B M F G)) AA_ok hS⟩ rfl rfl hl.1 rfl (lv_room (Nat.le_of_ble_eq_true rfl)) dL_law_671 ⟨Nat.le_of_ble_eq_true rfl, Nat.le_of_ble_eq_true rfl⟩) (hDD b R T K P B M F G) hPM AA_ok hS (fun H locs hPB hPM hS => ?_)
  have hPB : va_P D vwCl (wB y q b' R T' K P B M) H := hPB
  refine lv_aload_n hx hb dL_law_674 rfl (lv_at hl 2 rfl) ?_
  refine lv_aload_n hx hb dL_law_675 rfl (lv_at hl 0 rfl) ?_
  refine lv_iload_n hx hb dL_law_676 rfl (lv_at hl 3 rfl) ?_
  refine lv_iconst (v := 1) hx hb dL_law_677 (by decide) ?_
  refine lv_iadd hx hb dL_law_678 ?_
  refine va_sld hx hb hX hbl hbA hS (vIn hi hL 1 (by decide)) dL_law_679 ?_
  refine q_ci2 (r := r) (va_runV (As := [.int (xs (nI i + 1).toNatClampNeg)]) (rest := [.int r]) ⟨hx, hb, hml, hown, hts⟩ (c_X4_dry l D y t q' _ 600 F G (xs (nI i + 1).toNatClampNeg) (r, F') e2) (cwV 1 hts gL_law_X4_dry rfl rfl rfl eX4_dry ⟨Nat.le_of_ble_eq_true rfl, Nat.le_of_ble_eq_true rfl⟩) ⟨q_blind, va_recv hK hPM (ci := 4) (q0 := 0) rfl rfl, q_pre0 hPM hK hZ (D_right (hDD b' R T' K P B M F G)) AA_ok hS⟩ rfl rfl hl.1 rfl (lv_room (Nat.le_of_ble_eq_true rfl)) dL_law_680 ⟨Nat.le_of_ble_eq_true rfl, Nat.le_of_ble_eq_true rfl⟩) (hDD b' R T' K P B M F G) hPB AA_ok hS (fun H locs hPB hPM hS => ?_)
  have hPM : va_P D vwCl (wM y q' F' G) H := hPM
  exact lv_icmp_eq (tgt := 1325) hx hb dL_law_683 (by decide) (fun _ => kk _ _ _ _ _ _ _ _ _ _ _ g' hPB hPM hS) (fun c9 => absurd rfl c9)
set_option maxHeartbeats 4000000 in
set_option maxRecDepth 100000 in
theorem law_16 {p : Program} {l : Launch} {e : Env} {s : State} {m : MethodId} {below : List Frame} {meth : Method} {c : Code} {a0 L : Nat} {xs : Nat → Int32} {D : va_G} {y : Nat → ClassId} {t q q' : Nat → Nat} (C : LC p s m meth c a0 L xs D y t q q') {i : Nat} (hL : L ≤ 3072) (hi : i + 6 ≤ L) {b R T K P B : Nat → Nat → Int32} {M : Nat → Nat → Int64} {F : Nat → Nat → Int32} {G : Nat → Int64} (g : gRel b R K P B M F G) {H : Heap} {locs : List Loc} {ls : Array Slot} (hPB : va_P D vwCl (wB y q b R T K P B M) H) (hPM : va_P D vwCl (wM y q' F G) H) (hS : va_S (AA s) s.heap H locs) (hl : lv_has ls 4 [(0, .ref a0), (1, .ref (q 0)), (2, .ref (q' 0)), (3, .int (nI i))]) (kk : lwK p l e s m below meth c a0 D y q q' ls) : W p l e room_1 s m #[Value.ref a0] below meth c H locs 46 1380 (lw_Z below #[Value.ref a0] s) (F0 m 688 ls []) := by
  obtain ⟨hx, hb, hr, hml, hown, hts, hX, hbl, hlocks, hK, hZ, hDD⟩ := C
  have hbA : ¬ AA s a0 := Nat.not_le.mpr hbl
  refine lv_aload_n hx hb dL_law_688 rfl (lv_at hl 1 rfl) ?_
  refine lv_aload_n hx hb dL_law_689 rfl (lv_at hl 0 rfl) ?_
  refine lv_iload_n hx hb dL_law_690 rfl (lv_at hl 3 rfl) ?_
  refine lv_iconst (v := 1) hx hb dL_law_691 (by decide) ?_
  refine lv_iadd hx hb dL_law_692 ?_
  refine va_sld hx hb hX hbl hbA hS (vIn hi hL 1 (by decide)) dL_law_693 ?_
  obtain ⟨r, b', T', F', e1, e2, g'⟩ := pr_lost (N := 600) (T := T) (p1 := (xs (nI i + 1).toNatClampNeg)) g (by decide)
  refine q_ci1 (r := r) (va_runV (As := [.int (xs (nI i + 1).toNatClampNeg)]) (rest := []) ⟨hx, hb, hml, hown, hts⟩ (c_X3_lost l D y t q _ 600 b R T K P B M (xs (nI i + 1).toNatClampNeg) (r, b', T') e1) (cwV 1 hts gL_law_X3_lost rfl rfl rfl eX3_lost ⟨Nat.le_of_ble_eq_true rfl, Nat.le_of_ble_eq_true rfl⟩) ⟨q_blind, va_recv hK hPB (ci := 3) (q0 := 0) rfl rfl, q_pre0 hPB hK hZ (D_left (hDD b R T K P B M F G)) AA_ok hS⟩ rfl rfl hl.1 rfl (lv_room (Nat.le_of_ble_eq_true rfl)) dL_law_694 ⟨Nat.le_of_ble_eq_true rfl, Nat.le_of_ble_eq_true rfl⟩) (hDD b R T K P B M F G) hPM AA_ok hS (fun H locs hPB hPM hS => ?_)
  have hPB : va_P D vwCl (wB y q b' R T' K P B M) H := hPB
  refine lv_aload_n hx hb dL_law_697 rfl (lv_at hl 2 rfl) ?_
  refine lv_aload_n hx hb dL_law_698 rfl (lv_at hl 0 rfl) ?_
  refine lv_iload_n hx hb dL_law_699 rfl (lv_at hl 3 rfl) ?_
  refine lv_iconst (v := 1) hx hb dL_law_700 (by decide) ?_
  refine lv_iadd hx hb dL_law_701 ?_
  refine va_sld hx hb hX hbl hbA hS (vIn hi hL 1 (by decide)) dL_law_702 ?_
  refine q_ci2 (r := r) (va_runV (As := [.int (xs (nI i + 1).toNatClampNeg)]) (rest := [.int r]) ⟨hx, hb, hml, hown, hts⟩ (c_X4_lost l D y t q' _ 600 F G (xs (nI i + 1).toNatClampNeg) (r, F') e2) (cwV 1 hts gL_law_X4_lost rfl rfl rfl eX4_lost ⟨Nat.le_of_ble_eq_true rfl, Nat.le_of_ble_eq_true rfl⟩) ⟨q_blind, va_recv hK hPM (ci := 4) (q0 := 0) rfl rfl, q_pre0 hPM hK hZ (D_right (hDD b' R T' K P B M F G)) AA_ok hS⟩ rfl rfl hl.1 rfl (lv_room (Nat.le_of_ble_eq_true rfl)) dL_law_703 ⟨Nat.le_of_ble_eq_true rfl, Nat.le_of_ble_eq_true rfl⟩) (hDD b' R T' K P B M F G) hPB AA_ok hS (fun H locs hPB hPM hS => ?_)
  have hPM : va_P D vwCl (wM y q' F' G) H := hPM
  exact lv_icmp_eq (tgt := 1325) hx hb dL_law_706 (by decide) (fun _ => kk _ _ _ _ _ _ _ _ _ _ _ g' hPB hPM hS) (fun c9 => absurd rfl c9)
set_option maxHeartbeats 4000000 in
set_option maxRecDepth 100000 in
theorem law_17 {p : Program} {l : Launch} {e : Env} {s : State} {m : MethodId} {below : List Frame} {meth : Method} {c : Code} {a0 L : Nat} {xs : Nat → Int32} {D : va_G} {y : Nat → ClassId} {t q q' : Nat → Nat} (C : LC p s m meth c a0 L xs D y t q q') {i : Nat} (hL : L ≤ 3072) (hi : i + 6 ≤ L) {b R T K P B : Nat → Nat → Int32} {M : Nat → Nat → Int64} {F : Nat → Nat → Int32} {G : Nat → Int64} (g : gRel b R K P B M F G) {H : Heap} {locs : List Loc} {ls : Array Slot} (hPB : va_P D vwCl (wB y q b R T K P B M) H) (hPM : va_P D vwCl (wM y q' F G) H) (hS : va_S (AA s) s.heap H locs) (hl : lv_has ls 4 [(0, .ref a0), (1, .ref (q 0)), (2, .ref (q' 0)), (3, .int (nI i))]) (kk : lwK p l e s m below meth c a0 D y q q' ls) : W p l e room_1 s m #[Value.ref a0] below meth c H locs 46 1380 (lw_Z below #[Value.ref a0] s) (F0 m 711 ls []) := by
  obtain ⟨hx, hb, hr, hml, hown, hts, hX, hbl, hlocks, hK, hZ, hDD⟩ := C
  have hbA : ¬ AA s a0 := Nat.not_le.mpr hbl
  refine lv_aload_n hx hb dL_law_711 rfl (lv_at hl 1 rfl) ?_
  refine lv_aload_n hx hb dL_law_712 rfl (lv_at hl 0 rfl) ?_
  refine lv_iload_n hx hb dL_law_713 rfl (lv_at hl 3 rfl) ?_
  refine lv_iconst (v := 1) hx hb dL_law_714 (by decide) ?_
  refine lv_iadd hx hb dL_law_715 ?_
  refine va_sld hx hb hX hbl hbA hS (vIn hi hL 1 (by decide)) dL_law_716 ?_
  obtain ⟨r, b', T', F', e1, e2, g'⟩ := pr_arrives (N := 600) (T := T) (p1 := (xs (nI i + 1).toNatClampNeg)) g (by decide)
  refine q_ci1 (r := r) (va_runV (As := [.int (xs (nI i + 1).toNatClampNeg)]) (rest := []) ⟨hx, hb, hml, hown, hts⟩ (c_X3_arrives l D y t q _ 600 b R T K P B M (xs (nI i + 1).toNatClampNeg) (r, b', T') e1) (cwV 1 hts gL_law_X3_arrives rfl rfl rfl eX3_arrives ⟨Nat.le_of_ble_eq_true rfl, Nat.le_of_ble_eq_true rfl⟩) ⟨q_blind, va_recv hK hPB (ci := 3) (q0 := 0) rfl rfl, q_pre0 hPB hK hZ (D_left (hDD b R T K P B M F G)) AA_ok hS⟩ rfl rfl hl.1 rfl (lv_room (Nat.le_of_ble_eq_true rfl)) dL_law_717 ⟨Nat.le_of_ble_eq_true rfl, Nat.le_of_ble_eq_true rfl⟩) (hDD b R T K P B M F G) hPM AA_ok hS (fun H locs hPB hPM hS => ?_)
  have hPB : va_P D vwCl (wB y q b' R T' K P B M) H := hPB
  refine lv_aload_n hx hb dL_law_720 rfl (lv_at hl 2 rfl) ?_
  refine lv_aload_n hx hb dL_law_721 rfl (lv_at hl 0 rfl) ?_
  refine lv_iload_n hx hb dL_law_722 rfl (lv_at hl 3 rfl) ?_
  refine lv_iconst (v := 1) hx hb dL_law_723 (by decide) ?_
  refine lv_iadd hx hb dL_law_724 ?_
  refine va_sld hx hb hX hbl hbA hS (vIn hi hL 1 (by decide)) dL_law_725 ?_
  refine q_ci2 (r := r) (va_runV (As := [.int (xs (nI i + 1).toNatClampNeg)]) (rest := [.int r]) ⟨hx, hb, hml, hown, hts⟩ (c_X4_arrives l D y t q' _ 600 F G (xs (nI i + 1).toNatClampNeg) (r, F') e2) (cwV 1 hts gL_law_X4_arrives rfl rfl rfl eX4_arrives ⟨Nat.le_of_ble_eq_true rfl, Nat.le_of_ble_eq_true rfl⟩) ⟨q_blind, va_recv hK hPM (ci := 4) (q0 := 0) rfl rfl, q_pre0 hPM hK hZ (D_right (hDD b' R T' K P B M F G)) AA_ok hS⟩ rfl rfl hl.1 rfl (lv_room (Nat.le_of_ble_eq_true rfl)) dL_law_726 ⟨Nat.le_of_ble_eq_true rfl, Nat.le_of_ble_eq_true rfl⟩) (hDD b' R T' K P B M F G) hPB AA_ok hS (fun H locs hPB hPM hS => ?_)
  have hPM : va_P D vwCl (wM y q' F' G) H := hPM
  exact lv_icmp_eq (tgt := 1325) hx hb dL_law_729 (by decide) (fun _ => kk _ _ _ _ _ _ _ _ _ _ _ g' hPB hPM hS) (fun c9 => absurd rfl c9)
set_option maxHeartbeats 4000000 in
set_option maxRecDepth 100000 in
theorem law_18 {p : Program} {l : Launch} {e : Env} {s : State} {m : MethodId} {below : List Frame} {meth : Method} {c : Code} {a0 L : Nat} {xs : Nat → Int32} {D : va_G} {y : Nat → ClassId} {t q q' : Nat → Nat} (C : LC p s m meth c a0 L xs D y t q q') {i : Nat} (hL : L ≤ 3072) (hi : i + 6 ≤ L) {b R T K P B : Nat → Nat → Int32} {M : Nat → Nat → Int64} {F : Nat → Nat → Int32} {G : Nat → Int64} (g : gRel b R K P B M F G) {H : Heap} {locs : List Loc} {ls : Array Slot} (hPB : va_P D vwCl (wB y q b R T K P B M) H) (hPM : va_P D vwCl (wM y q' F G) H) (hS : va_S (AA s) s.heap H locs) (hl : lv_has ls 4 [(0, .ref a0), (1, .ref (q 0)), (2, .ref (q' 0)), (3, .int (nI i))]) (kk : lwK p l e s m below meth c a0 D y q q' ls) : W p l e room_1 s m #[Value.ref a0] below meth c H locs 46 1380 (lw_Z below #[Value.ref a0] s) (F0 m 734 ls []) := by
  obtain ⟨hx, hb, hr, hml, hown, hts, hX, hbl, hlocks, hK, hZ, hDD⟩ := C
  have hbA : ¬ AA s a0 := Nat.not_le.mpr hbl
  refine lv_aload_n hx hb dL_law_734 rfl (lv_at hl 1 rfl) ?_
  refine lv_aload_n hx hb dL_law_735 rfl (lv_at hl 0 rfl) ?_
  refine lv_iload_n hx hb dL_law_736 rfl (lv_at hl 3 rfl) ?_
  refine lv_iconst (v := 1) hx hb dL_law_737 (by decide) ?_
  refine lv_iadd hx hb dL_law_738 ?_
  refine va_sld hx hb hX hbl hbA hS (vIn hi hL 1 (by decide)) dL_law_739 ?_
  refine lv_aload_n hx hb dL_law_740 rfl (lv_at hl 0 rfl) ?_
  refine lv_iload_n hx hb dL_law_741 rfl (lv_at hl 3 rfl) ?_
  refine lv_iconst (v := 2) hx hb dL_law_742 (by decide) ?_
  refine lv_iadd hx hb dL_law_743 ?_
  refine va_sld hx hb hX hbl hbA hS (vIn hi hL 2 (by decide)) dL_law_744 ?_
  obtain ⟨r, b', T', F', e1, e2, g'⟩ := pr_speed (N := 600) (T := T) (p1 := (xs (nI i + 1).toNatClampNeg)) (p2 := (xs (nI i + 2).toNatClampNeg)) g (by decide)
  refine q_ci1 (r := r) (va_runV (As := [.int (xs (nI i + 1).toNatClampNeg), .int (xs (nI i + 2).toNatClampNeg)]) (rest := []) ⟨hx, hb, hml, hown, hts⟩ (c_X3_speed l D y t q _ 600 b R T K P B M (xs (nI i + 1).toNatClampNeg) (xs (nI i + 2).toNatClampNeg) (r, b', T') e1) (cwV 2 hts gL_law_X3_speed rfl rfl rfl eX3_speed ⟨Nat.le_of_ble_eq_true rfl, Nat.le_of_ble_eq_true rfl⟩) ⟨q_blind, va_recv hK hPB (ci := 3) (q0 := 0) rfl rfl, q_pre0 hPB hK hZ (D_left (hDD b R T K P B M F G)) AA_ok hS⟩ rfl rfl hl.1 rfl (lv_room (Nat.le_of_ble_eq_true rfl)) dL_law_745 ⟨Nat.le_of_ble_eq_true rfl, Nat.le_of_ble_eq_true rfl⟩) (hDD b R T K P B M F G) hPM AA_ok hS (fun H locs hPB hPM hS => ?_)
  have hPB : va_P D vwCl (wB y q b' R T' K P B M) H := hPB
  refine lv_aload_n hx hb dL_law_748 rfl (lv_at hl 2 rfl) ?_
  refine lv_aload_n hx hb dL_law_749 rfl (lv_at hl 0 rfl) ?_
  refine lv_iload_n hx hb dL_law_750 rfl (lv_at hl 3 rfl) ?_
  refine lv_iconst (v := 1) hx hb dL_law_751 (by decide) ?_
  refine lv_iadd hx hb dL_law_752 ?_
  refine va_sld hx hb hX hbl hbA hS (vIn hi hL 1 (by decide)) dL_law_753 ?_
  refine lv_aload_n hx hb dL_law_754 rfl (lv_at hl 0 rfl) ?_
  refine lv_iload_n hx hb dL_law_755 rfl (lv_at hl 3 rfl) ?_
  refine lv_iconst (v := 2) hx hb dL_law_756 (by decide) ?_
  refine lv_iadd hx hb dL_law_757 ?_
  refine va_sld hx hb hX hbl hbA hS (vIn hi hL 2 (by decide)) dL_law_758 ?_
  refine q_ci2 (r := r) (va_runV (As := [.int (xs (nI i + 1).toNatClampNeg), .int (xs (nI i + 2).toNatClampNeg)]) (rest := [.int r]) ⟨hx, hb, hml, hown, hts⟩ (c_X4_speed l D y t q' _ 600 F G (xs (nI i + 1).toNatClampNeg) (xs (nI i + 2).toNatClampNeg) (r, F') e2) (cwV 2 hts gL_law_X4_speed rfl rfl rfl eX4_speed ⟨Nat.le_of_ble_eq_true rfl, Nat.le_of_ble_eq_true rfl⟩) ⟨q_blind, va_recv hK hPM (ci := 4) (q0 := 0) rfl rfl, q_pre0 hPM hK hZ (D_right (hDD b' R T' K P B M F G)) AA_ok hS⟩ rfl rfl hl.1 rfl (lv_room (Nat.le_of_ble_eq_true rfl)) dL_law_759 ⟨Nat.le_of_ble_eq_true rfl, Nat.le_of_ble_eq_true rfl⟩) (hDD b' R T' K P B M F G) hPB AA_ok hS (fun H locs hPB hPM hS => ?_)
  have hPM : va_P D vwCl (wM y q' F' G) H := hPM
  exact lv_icmp_eq (tgt := 1325) hx hb dL_law_762 (by decide) (fun _ => kk _ _ _ _ _ _ _ _ _ _ _ g' hPB hPM hS) (fun c9 => absurd rfl c9)
set_option maxHeartbeats 4000000 in
set_option maxRecDepth 100000 in
theorem law_19 {p : Program} {l : Launch} {e : Env} {s : State} {m : MethodId} {below : List Frame} {meth : Method} {c : Code} {a0 L : Nat} {xs : Nat → Int32} {D : va_G} {y : Nat → ClassId} {t q q' : Nat → Nat} (C : LC p s m meth c a0 L xs D y t q q') {i : Nat} (hL : L ≤ 3072) (hi : i + 6 ≤ L) {b R T K P B : Nat → Nat → Int32} {M : Nat → Nat → Int64} {F : Nat → Nat → Int32} {G : Nat → Int64} (g : gRel b R K P B M F G) {H : Heap} {locs : List Loc} {ls : Array Slot} (hPB : va_P D vwCl (wB y q b R T K P B M) H) (hPM : va_P D vwCl (wM y q' F G) H) (hS : va_S (AA s) s.heap H locs) (hl : lv_has ls 4 [(0, .ref a0), (1, .ref (q 0)), (2, .ref (q' 0)), (3, .int (nI i))]) (kk : lwK p l e s m below meth c a0 D y q q' ls) : W p l e room_1 s m #[Value.ref a0] below meth c H locs 46 1380 (lw_Z below #[Value.ref a0] s) (F0 m 767 ls []) := by
  obtain ⟨hx, hb, hr, hml, hown, hts, hX, hbl, hlocks, hK, hZ, hDD⟩ := C
  have hbA : ¬ AA s a0 := Nat.not_le.mpr hbl
  refine lv_aload_n hx hb dL_law_767 rfl (lv_at hl 1 rfl) ?_
  refine lv_aload_n hx hb dL_law_768 rfl (lv_at hl 0 rfl) ?_
  refine lv_iload_n hx hb dL_law_769 rfl (lv_at hl 3 rfl) ?_
  refine lv_iconst (v := 1) hx hb dL_law_770 (by decide) ?_
  refine lv_iadd hx hb dL_law_771 ?_
  refine va_sld hx hb hX hbl hbA hS (vIn hi hL 1 (by decide)) dL_law_772 ?_
  refine lv_aload_n hx hb dL_law_773 rfl (lv_at hl 0 rfl) ?_
  refine lv_iload_n hx hb dL_law_774 rfl (lv_at hl 3 rfl) ?_
  refine lv_iconst (v := 2) hx hb dL_law_775 (by decide) ?_
  refine lv_iadd hx hb dL_law_776 ?_
  refine va_sld hx hb hX hbl hbA hS (vIn hi hL 2 (by decide)) dL_law_777 ?_
  obtain ⟨r, b', T', F', e1, e2, g'⟩ := pr_far (N := 600) (T := T) (p1 := (xs (nI i + 1).toNatClampNeg)) (p2 := (xs (nI i + 2).toNatClampNeg)) g (by decide)
  refine q_ci1 (r := r) (va_runV (As := [.int (xs (nI i + 1).toNatClampNeg), .int (xs (nI i + 2).toNatClampNeg)]) (rest := []) ⟨hx, hb, hml, hown, hts⟩ (c_X3_far l D y t q _ 600 b R T K P B M (xs (nI i + 1).toNatClampNeg) (xs (nI i + 2).toNatClampNeg) (r, b', T') e1) (cwV 2 hts gL_law_X3_far rfl rfl rfl eX3_far ⟨Nat.le_of_ble_eq_true rfl, Nat.le_of_ble_eq_true rfl⟩) ⟨q_blind, va_recv hK hPB (ci := 3) (q0 := 0) rfl rfl, q_pre0 hPB hK hZ (D_left (hDD b R T K P B M F G)) AA_ok hS⟩ rfl rfl hl.1 rfl (lv_room (Nat.le_of_ble_eq_true rfl)) dL_law_778 ⟨Nat.le_of_ble_eq_true rfl, Nat.le_of_ble_eq_true rfl⟩) (hDD b R T K P B M F G) hPM AA_ok hS (fun H locs hPB hPM hS => ?_)
  have hPB : va_P D vwCl (wB y q b' R T' K P B M) H := hPB
  refine lv_aload_n hx hb dL_law_781 rfl (lv_at hl 2 rfl) ?_
  refine lv_aload_n hx hb dL_law_782 rfl (lv_at hl 0 rfl) ?_
  refine lv_iload_n hx hb dL_law_783 rfl (lv_at hl 3 rfl) ?_
  refine lv_iconst (v := 1) hx hb dL_law_784 (by decide) ?_
  refine lv_iadd hx hb dL_law_785 ?_
  refine va_sld hx hb hX hbl hbA hS (vIn hi hL 1 (by decide)) dL_law_786 ?_
  refine lv_aload_n hx hb dL_law_787 rfl (lv_at hl 0 rfl) ?_
  refine lv_iload_n hx hb dL_law_788 rfl (lv_at hl 3 rfl) ?_
  refine lv_iconst (v := 2) hx hb dL_law_789 (by decide) ?_
  refine lv_iadd hx hb dL_law_790 ?_
  refine va_sld hx hb hX hbl hbA hS (vIn hi hL 2 (by decide)) dL_law_791 ?_
  refine q_ci2 (r := r) (va_runV (As := [.int (xs (nI i + 1).toNatClampNeg), .int (xs (nI i + 2).toNatClampNeg)]) (rest := [.int r]) ⟨hx, hb, hml, hown, hts⟩ (c_X4_far l D y t q' _ 600 F G (xs (nI i + 1).toNatClampNeg) (xs (nI i + 2).toNatClampNeg) (r, F') e2) (cwV 2 hts gL_law_X4_far rfl rfl rfl eX4_far ⟨Nat.le_of_ble_eq_true rfl, Nat.le_of_ble_eq_true rfl⟩) ⟨q_blind, va_recv hK hPM (ci := 4) (q0 := 0) rfl rfl, q_pre0 hPM hK hZ (D_right (hDD b' R T' K P B M F G)) AA_ok hS⟩ rfl rfl hl.1 rfl (lv_room (Nat.le_of_ble_eq_true rfl)) dL_law_792 ⟨Nat.le_of_ble_eq_true rfl, Nat.le_of_ble_eq_true rfl⟩) (hDD b' R T' K P B M F G) hPB AA_ok hS (fun H locs hPB hPM hS => ?_)
  have hPM : va_P D vwCl (wM y q' F' G) H := hPM
  exact lv_icmp_eq (tgt := 1325) hx hb dL_law_795 (by decide) (fun _ => kk _ _ _ _ _ _ _ _ _ _ _ g' hPB hPM hS) (fun c9 => absurd rfl c9)
