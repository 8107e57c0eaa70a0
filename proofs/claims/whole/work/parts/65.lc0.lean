theorem kL_law_c : Cond.constantLong RL 129 (4294967295) ∈ wsL_law := List.mem_of_getElem? (i := 6) (by decide +kernel)
set_option maxHeartbeats 4000000 in
set_option maxRecDepth 100000 in
theorem law_0 {p : Program} {l : Launch} {e : Env} {s : State} {m : MethodId} {below : List Frame} {meth : Method} {c : Code} {a0 L : Nat} {xs : Nat → Int32} {D : va_G} {y : Nat → ClassId} {t q q' : Nat → Nat} (C : LC p s m meth c a0 L xs D y t q q') {i : Nat} (hL : L ≤ 3072) (hi : i + 6 ≤ L) {b R T K P B : Nat → Nat → Int32} {M : Nat → Nat → Int64} {F : Nat → Nat → Int32} {G : Nat → Int64} (g : gRel b R K P B M F G) {H : Heap} {locs : List Loc} {ls : Array Slot} (hPB : va_P D vwCl (wB y q b R T K P B M) H) (hPM : va_P D vwCl (wM y q' F G) H) (hS : va_S (AA s) s.heap H locs) (hl : lv_has ls 4 [(0, .ref a0), (1, .ref (q 0)), (2, .ref (q' 0)), (3, .int (nI i))]) (kk : lwK p l e s m below meth c a0 D y q q' ls) : W p l e room_1 s m #[Value.ref a0] below meth c H locs 46 1380 (lw_Z below #[Value.ref a0] s) (F0 m 200 ls []) := by
  obtain ⟨hx, hb, hr, hml, hown, hts, hX, hbl, hlocks, hK, hZ, hDD⟩ := C
  have hbA : ¬ AA s a0 := Nat.not_le.mpr hbl
  refine lv_aload_n hx hb dL_law_200 rfl (lv_at hl 1 rfl) ?_
  refine lv_aload_n hx hb dL_law_201 rfl (lv_at hl 0 rfl) ?_
  refine lv_iload_n hx hb dL_law_202 rfl (lv_at hl 3 rfl) ?_
  refine lv_iconst (v := 1) hx hb dL_law_203 (by decide) ?_
  refine lv_iadd hx hb dL_law_204 ?_
  refine va_sld hx hb hX hbl hbA hS (vIn hi hL 1 (by decide)) dL_law_205 ?_
  refine lv_aload_n hx hb dL_law_206 rfl (lv_at hl 0 rfl) ?_
  refine lv_iload_n hx hb dL_law_207 rfl (lv_at hl 3 rfl) ?_
  refine lv_iconst (v := 2) hx hb dL_law_208 (by decide) ?_
  refine lv_iadd hx hb dL_law_209 ?_
  refine va_sld hx hb hX hbl hbA hS (vIn hi hL 2 (by decide)) dL_law_210 ?_
  obtain ⟨r, b', R', F', e1, e2, g'⟩ := pr_beam (N := 600) (T := T) (p1 := (xs (nI i + 1).toNatClampNeg)) (p2 := (xs (nI i + 2).toNatClampNeg)) g
  refine q_ci1 (r := r) (va_runV (As := [.int (xs (nI i + 1).toNatClampNeg), .int (xs (nI i + 2).toNatClampNeg)]) (rest := []) ⟨hx, hb, hml, hown, hts⟩ (c_X3_beam l D y t q _ 600 b R T K P B M (xs (nI i + 1).toNatClampNeg) (xs (nI i + 2).toNatClampNeg) (r, b', R') e1) (cwV 2 hts gL_law_X3_beam rfl rfl rfl eX3_beam ⟨Nat.le_of_ble_eq_true rfl, Nat.le_of_ble_eq_true rfl⟩) ⟨q_blind, va_recv hK hPB (ci := 3) (q0 := 0) rfl rfl, q_pre0 hPB hK hZ (D_left (hDD b R T K P B M F G)) AA_ok hS⟩ rfl rfl hl.1 rfl (lv_room (Nat.le_of_ble_eq_true rfl)) dL_law_211 ⟨Nat.le_of_ble_eq_true rfl, Nat.le_of_ble_eq_true rfl⟩) (hDD b R T K P B M F G) hPM AA_ok hS (fun H locs hPB hPM hS => ?_)
  have hPB : va_P D vwCl (wB y q b' R' T K P B M) H := hPB
  refine lv_aload_n hx hb dL_law_214 rfl (lv_at hl 2 rfl) ?_
  refine lv_aload_n hx hb dL_law_215 rfl (lv_at hl 0 rfl) ?_
  refine lv_iload_n hx hb dL_law_216 rfl (lv_at hl 3 rfl) ?_
  refine lv_iconst (v := 1) hx hb dL_law_217 (by decide) ?_
  refine lv_iadd hx hb dL_law_218 ?_
  refine va_sld hx hb hX hbl hbA hS (vIn hi hL 1 (by decide)) dL_law_219 ?_
  refine lv_aload_n hx hb dL_law_220 rfl (lv_at hl 0 rfl) ?_
  refine lv_iload_n hx hb dL_law_221 rfl (lv_at hl 3 rfl) ?_
  refine lv_iconst (v := 2) hx hb dL_law_222 (by decide) ?_
  refine lv_iadd hx hb dL_law_223 ?_
  refine va_sld hx hb hX hbl hbA hS (vIn hi hL 2 (by decide)) dL_law_224 ?_
  refine q_ci2 (r := r) (va_runV (As := [.int (xs (nI i + 1).toNatClampNeg), .int (xs (nI i + 2).toNatClampNeg)]) (rest := [.int r]) ⟨hx, hb, hml, hown, hts⟩ (c_X4_beam l D y t q' _ 600 F G (xs (nI i + 1).toNatClampNeg) (xs (nI i + 2).toNatClampNeg) (r, F') e2) (cwV 2 hts gL_law_X4_beam rfl rfl rfl eX4_beam ⟨Nat.le_of_ble_eq_true rfl, Nat.le_of_ble_eq_true rfl⟩) ⟨q_blind, va_recv hK hPM (ci := 4) (q0 := 0) rfl rfl, q_pre0 hPM hK hZ (D_right (hDD b' R' T K P B M F G)) AA_ok hS⟩ rfl rfl hl.1 rfl (lv_room (Nat.le_of_ble_eq_true rfl)) dL_law_225 ⟨Nat.le_of_ble_eq_true rfl, Nat.le_of_ble_eq_true rfl⟩) (hDD b' R' T K P B M F G) hPB AA_ok hS (fun H locs hPB hPM hS => ?_)
  have hPM : va_P D vwCl (wM y q' F' G) H := hPM
  exact lv_icmp_eq (tgt := 1325) hx hb dL_law_228 (by decide) (fun _ => kk _ _ _ _ _ _ _ _ _ _ _ g' hPB hPM hS) (fun c9 => absurd rfl c9)
set_option maxHeartbeats 4000000 in
set_option maxRecDepth 100000 in
theorem law_1 {p : Program} {l : Launch} {e : Env} {s : State} {m : MethodId} {below : List Frame} {meth : Method} {c : Code} {a0 L : Nat} {xs : Nat → Int32} {D : va_G} {y : Nat → ClassId} {t q q' : Nat → Nat} (C : LC p s m meth c a0 L xs D y t q q') {i : Nat} (hL : L ≤ 3072) (hi : i + 6 ≤ L) {b R T K P B : Nat → Nat → Int32} {M : Nat → Nat → Int64} {F : Nat → Nat → Int32} {G : Nat → Int64} (g : gRel b R K P B M F G) {H : Heap} {locs : List Loc} {ls : Array Slot} (hPB : va_P D vwCl (wB y q b R T K P B M) H) (hPM : va_P D vwCl (wM y q' F G) H) (hS : va_S (AA s) s.heap H locs) (hl : lv_has ls 4 [(0, .ref a0), (1, .ref (q 0)), (2, .ref (q' 0)), (3, .int (nI i))]) (kk : lwK p l e s m below meth c a0 D y q q' ls) : W p l e room_1 s m #[Value.ref a0] below meth c H locs 46 1380 (lw_Z below #[Value.ref a0] s) (F0 m 233 ls []) := by
  obtain ⟨hx, hb, hr, hml, hown, hts, hX, hbl, hlocks, hK, hZ, hDD⟩ := C
  have hbA : ¬ AA s a0 := Nat.not_le.mpr hbl
  refine lv_aload_n hx hb dL_law_233 rfl (lv_at hl 1 rfl) ?_
  refine lv_aload_n hx hb dL_law_234 rfl (lv_at hl 0 rfl) ?_
  refine lv_iload_n hx hb dL_law_235 rfl (lv_at hl 3 rfl) ?_
  refine lv_iconst (v := 1) hx hb dL_law_236 (by decide) ?_
  refine lv_iadd hx hb dL_law_237 ?_
  refine va_sld hx hb hX hbl hbA hS (vIn hi hL 1 (by decide)) dL_law_238 ?_
  obtain ⟨r, b', F', e1, e2, g'⟩ := pr_now (N := 600) (T := T) (p1 := (xs (nI i + 1).toNatClampNeg)) g (by decide)
  refine q_ci1 (r := r) (va_runV (As := [.int (xs (nI i + 1).toNatClampNeg)]) (rest := []) ⟨hx, hb, hml, hown, hts⟩ (c_X3_now l D y t q _ 600 b R T K P B M (xs (nI i + 1).toNatClampNeg) (r, b') e1) (cwV 1 hts gL_law_X3_now rfl rfl rfl eX3_now ⟨Nat.le_of_ble_eq_true rfl, Nat.le_of_ble_eq_true rfl⟩) ⟨q_blind, va_recv hK hPB (ci := 3) (q0 := 0) rfl rfl, q_pre0 hPB hK hZ (D_left (hDD b R T K P B M F G)) AA_ok hS⟩ rfl rfl hl.1 rfl (lv_room (Nat.le_of_ble_eq_true rfl)) dL_law_239 ⟨Nat.le_of_ble_eq_true rfl, Nat.le_of_ble_eq_true rfl⟩) (hDD b R T K P B M F G) hPM AA_ok hS (fun H locs hPB hPM hS => ?_)
  have hPB : va_P D vwCl (wB y q b' R T K P B M) H := hPB
  refine lv_aload_n hx hb dL_law_242 rfl (lv_at hl 2 rfl) ?_
  refine lv_aload_n hx hb dL_law_243 rfl (lv_at hl 0 rfl) ?_
  refine lv_iload_n hx hb dL_law_244 rfl (lv_at hl 3 rfl) ?_
  refine lv_iconst (v := 1) hx hb dL_law_245 (by decide) ?_
  refine lv_iadd hx hb dL_law_246 ?_
  refine va_sld hx hb hX hbl hbA hS (vIn hi hL 1 (by decide)) dL_law_247 ?_
  refine q_ci2 (r := r) (va_runV (As := [.int (xs (nI i + 1).toNatClampNeg)]) (rest := [.int r]) ⟨hx, hb, hml, hown, hts⟩ (c_X4_now l D y t q' _ 600 F G (xs (nI i + 1).toNatClampNeg) (r, F') e2) (cwV 1 hts gL_law_X4_now rfl rfl rfl eX4_now ⟨Nat.le_of_ble_eq_true rfl, Nat.le_of_ble_eq_true rfl⟩) ⟨q_blind, va_recv hK hPM (ci := 4) (q0 := 0) rfl rfl, q_pre0 hPM hK hZ (D_right (hDD b' R T K P B M F G)) AA_ok hS⟩ rfl rfl hl.1 rfl (lv_room (Nat.le_of_ble_eq_true rfl)) dL_law_248 ⟨Nat.le_of_ble_eq_true rfl, Nat.le_of_ble_eq_true rfl⟩) (hDD b' R T K P B M F G) hPB AA_ok hS (fun H locs hPB hPM hS => ?_)
  have hPM : va_P D vwCl (wM y q' F' G) H := hPM
  exact lv_icmp_eq (tgt := 1325) hx hb dL_law_251 (by decide) (fun _ => kk _ _ _ _ _ _ _ _ _ _ _ g' hPB hPM hS) (fun c9 => absurd rfl c9)
