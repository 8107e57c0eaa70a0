set_option maxHeartbeats 4000000 in
set_option maxRecDepth 100000 in
theorem law_20 {p : Program} {l : Launch} {e : Env} {s : State} {m : MethodId} {below : List Frame} {meth : Method} {c : Code} {a0 L : Nat} {xs : Nat → Int32} {D : va_G} {y : Nat → ClassId} {t q q' : Nat → Nat} (C : LC p s m meth c a0 L xs D y t q q') {i : Nat} (hL : L ≤ 3072) (hi : i + 6 ≤ L) {b R T K P B : Nat → Nat → Int32} {M : Nat → Nat → Int64} {F : Nat → Nat → Int32} {G : Nat → Int64} (g : gRel b R K P B M F G) {H : Heap} {locs : List Loc} {ls : Array Slot} (hPB : va_P D vwCl (wB y q b R T K P B M) H) (hPM : va_P D vwCl (wM y q' F G) H) (hS : va_S (AA s) s.heap H locs) (hl : lv_has ls 4 [(0, .ref a0), (1, .ref (q 0)), (2, .ref (q' 0)), (3, .int (nI i))]) (kk : lwK p l e s m below meth c a0 D y q q' ls) : W p l e room_1 s m #[Value.ref a0] below meth c H locs 46 1380 (lw_Z below #[Value.ref a0] s) (F0 m 800 ls []) := by
  obtain ⟨hx, hb, hr, hml, hown, hts, hX, hbl, hlocks, hK, hZ, hDD⟩ := C
  have hbA : ¬ AA s a0 := Nat.not_le.mpr hbl
  refine lv_aload_n hx hb dL_law_800 rfl (lv_at hl 1 rfl) ?_
  refine lv_aload_n hx hb dL_law_801 rfl (lv_at hl 0 rfl) ?_
  refine lv_iload_n hx hb dL_law_802 rfl (lv_at hl 3 rfl) ?_
  refine lv_iconst (v := 1) hx hb dL_law_803 (by decide) ?_
  refine lv_iadd hx hb dL_law_804 ?_
  refine va_sld hx hb hX hbl hbA hS (vIn hi hL 1 (by decide)) dL_law_805 ?_
  refine lv_aload_n hx hb dL_law_806 rfl (lv_at hl 0 rfl) ?_
  refine lv_iload_n hx hb dL_law_807 rfl (lv_at hl 3 rfl) ?_
  refine lv_iconst (v := 2) hx hb dL_law_808 (by decide) ?_
  refine lv_iadd hx hb dL_law_809 ?_
  refine va_sld hx hb hX hbl hbA hS (vIn hi hL 2 (by decide)) dL_law_810 ?_
  obtain ⟨r, b', T', F', e1, e2, g'⟩ := pr_kind (N := 600) (T := T) (p1 := (xs (nI i + 1).toNatClampNeg)) (p2 := (xs (nI i + 2).toNatClampNeg)) g (by decide)
  refine q_ci1 (r := r) (va_runV (As := [.int (xs (nI i + 1).toNatClampNeg), .int (xs (nI i + 2).toNatClampNeg)]) (rest := []) ⟨hx, hb, hml, hown, hts⟩ (c_X3_kind l D y t q _ 600 b R T K P B M (xs (nI i + 1).toNatClampNeg) (xs (nI i + 2).toNatClampNeg) (r, b', T') e1) (cwV 2 hts gL_law_X3_kind rfl rfl rfl eX3_kind ⟨Nat.le_of_ble_eq_true rfl, Nat.le_of_ble_eq_true rfl⟩) ⟨q_blind, va_recv hK hPB (ci := 3) (q0 := 0) rfl rfl, q_pre0 hPB hK hZ (D_left (hDD b R T K P B M F G)) AA_ok hS⟩ rfl rfl hl.1 rfl (lv_room (Nat.le_of_ble_eq_true rfl)) dL_law_811 ⟨Nat.le_of_ble_eq_true rfl, Nat.le_of_ble_eq_true rfl⟩) (hDD b R T K P B M F G) hPM AA_ok hS (fun H locs hPB hPM hS => ?_)
  have hPB : va_P D vwCl (wB y q b' R T' K P B M) H := hPB
  refine lv_aload_n hx hb dL_law_814 rfl (lv_at hl 2 rfl) ?_
  refine lv_aload_n hx hb dL_law_815 rfl (lv_at hl 0 rfl) ?_
  refine lv_iload_n hx hb dL_law_816 rfl (lv_at hl 3 rfl) ?_
  refine lv_iconst (v := 1) hx hb dL_law_817 (by decide) ?_
  refine lv_iadd hx hb dL_law_818 ?_
  refine va_sld hx hb hX hbl hbA hS (vIn hi hL 1 (by decide)) dL_law_819 ?_
  refine lv_aload_n hx hb dL_law_820 rfl (lv_at hl 0 rfl) ?_
  refine lv_iload_n hx hb dL_law_821 rfl (lv_at hl 3 rfl) ?_
  refine lv_iconst (v := 2) hx hb dL_law_822 (by decide) ?_
  refine lv_iadd hx hb dL_law_823 ?_
  refine va_sld hx hb hX hbl hbA hS (vIn hi hL 2 (by decide)) dL_law_824 ?_
  refine q_ci2 (r := r) (va_runV (As := [.int (xs (nI i + 1).toNatClampNeg), .int (xs (nI i + 2).toNatClampNeg)]) (rest := [.int r]) ⟨hx, hb, hml, hown, hts⟩ (c_X4_kind l D y t q' _ 600 F G (xs (nI i + 1).toNatClampNeg) (xs (nI i + 2).toNatClampNeg) (r, F') e2) (cwV 2 hts gL_law_X4_kind rfl rfl rfl eX4_kind ⟨Nat.le_of_ble_eq_true rfl, Nat.le_of_ble_eq_true rfl⟩) ⟨q_blind, va_recv hK hPM (ci := 4) (q0 := 0) rfl rfl, q_pre0 hPM hK hZ (D_right (hDD b' R T' K P B M F G)) AA_ok hS⟩ rfl rfl hl.1 rfl (lv_room (Nat.le_of_ble_eq_true rfl)) dL_law_825 ⟨Nat.le_of_ble_eq_true rfl, Nat.le_of_ble_eq_true rfl⟩) (hDD b' R T' K P B M F G) hPB AA_ok hS (fun H locs hPB hPM hS => ?_)
  have hPM : va_P D vwCl (wM y q' F' G) H := hPM
  exact lv_icmp_eq (tgt := 1325) hx hb dL_law_828 (by decide) (fun _ => kk _ _ _ _ _ _ _ _ _ _ _ g' hPB hPM hS) (fun c9 => absurd rfl c9)
set_option maxHeartbeats 4000000 in
set_option maxRecDepth 100000 in
theorem law_21 {p : Program} {l : Launch} {e : Env} {s : State} {m : MethodId} {below : List Frame} {meth : Method} {c : Code} {a0 L : Nat} {xs : Nat → Int32} {D : va_G} {y : Nat → ClassId} {t q q' : Nat → Nat} (C : LC p s m meth c a0 L xs D y t q q') {i : Nat} (hL : L ≤ 3072) (hi : i + 6 ≤ L) {b R T K P B : Nat → Nat → Int32} {M : Nat → Nat → Int64} {F : Nat → Nat → Int32} {G : Nat → Int64} (g : gRel b R K P B M F G) {H : Heap} {locs : List Loc} {ls : Array Slot} (hPB : va_P D vwCl (wB y q b R T K P B M) H) (hPM : va_P D vwCl (wM y q' F G) H) (hS : va_S (AA s) s.heap H locs) (hl : lv_has ls 4 [(0, .ref a0), (1, .ref (q 0)), (2, .ref (q' 0)), (3, .int (nI i))]) (kk : lwK p l e s m below meth c a0 D y q q' ls) : W p l e room_1 s m #[Value.ref a0] below meth c H locs 46 1380 (lw_Z below #[Value.ref a0] s) (F0 m 833 ls []) := by
  obtain ⟨hx, hb, hr, hml, hown, hts, hX, hbl, hlocks, hK, hZ, hDD⟩ := C
  have hbA : ¬ AA s a0 := Nat.not_le.mpr hbl
  refine lv_aload_n hx hb dL_law_833 rfl (lv_at hl 1 rfl) ?_
  refine lv_aload_n hx hb dL_law_834 rfl (lv_at hl 0 rfl) ?_
  refine lv_iload_n hx hb dL_law_835 rfl (lv_at hl 3 rfl) ?_
  refine lv_iconst (v := 1) hx hb dL_law_836 (by decide) ?_
  refine lv_iadd hx hb dL_law_837 ?_
  refine va_sld hx hb hX hbl hbA hS (vIn hi hL 1 (by decide)) dL_law_838 ?_
  refine lv_aload_n hx hb dL_law_839 rfl (lv_at hl 0 rfl) ?_
  refine lv_iload_n hx hb dL_law_840 rfl (lv_at hl 3 rfl) ?_
  refine lv_iconst (v := 2) hx hb dL_law_841 (by decide) ?_
  refine lv_iadd hx hb dL_law_842 ?_
  refine va_sld hx hb hX hbl hbA hS (vIn hi hL 2 (by decide)) dL_law_843 ?_
  obtain ⟨r, b', T', F', e1, e2, g'⟩ := pr_thick (N := 600) (T := T) (p1 := (xs (nI i + 1).toNatClampNeg)) (p2 := (xs (nI i + 2).toNatClampNeg)) g (by decide)
  refine q_ci1 (r := r) (va_runV (As := [.int (xs (nI i + 1).toNatClampNeg), .int (xs (nI i + 2).toNatClampNeg)]) (rest := []) ⟨hx, hb, hml, hown, hts⟩ (c_X3_thick l D y t q _ 600 b R T K P B M (xs (nI i + 1).toNatClampNeg) (xs (nI i + 2).toNatClampNeg) (r, b', T') e1) (cwV 2 hts gL_law_X3_thick rfl rfl rfl eX3_thick ⟨Nat.le_of_ble_eq_true rfl, Nat.le_of_ble_eq_true rfl⟩) ⟨q_blind, va_recv hK hPB (ci := 3) (q0 := 0) rfl rfl, q_pre0 hPB hK hZ (D_left (hDD b R T K P B M F G)) AA_ok hS⟩ rfl rfl hl.1 rfl (lv_room (Nat.le_of_ble_eq_true rfl)) dL_law_844 ⟨Nat.le_of_ble_eq_true rfl, Nat.le_of_ble_eq_true rfl⟩) (hDD b R T K P B M F G) hPM AA_ok hS (fun H locs hPB hPM hS => ?_)
  have hPB : va_P D vwCl (wB y q b' R T' K P B M) H := hPB
  refine lv_aload_n hx hb dL_law_847 rfl (lv_at hl 2 rfl) ?_
  refine lv_aload_n hx hb dL_law_848 rfl (lv_at hl 0 rfl) ?_
  refine lv_iload_n hx hb dL_law_849 rfl (lv_at hl 3 rfl) ?_
  refine lv_iconst (v := 1) hx hb dL_law_850 (by decide) ?_
  refine lv_iadd hx hb dL_law_851 ?_
  refine va_sld hx hb hX hbl hbA hS (vIn hi hL 1 (by decide)) dL_law_852 ?_
  refine lv_aload_n hx hb dL_law_853 rfl (lv_at hl 0 rfl) ?_
  refine lv_iload_n hx hb dL_law_854 rfl (lv_at hl 3 rfl) ?_
  refine lv_iconst (v := 2) hx hb dL_law_855 (by decide) ?_
  refine lv_iadd hx hb dL_law_856 ?_
  refine va_sld hx hb hX hbl hbA hS (vIn hi hL 2 (by decide)) dL_law_857 ?_
  refine q_ci2 (r := r) (va_runV (As := [.int (xs (nI i + 1).toNatClampNeg), .int (xs (nI i + 2).toNatClampNeg)]) (rest := [.int r]) ⟨hx, hb, hml, hown, hts⟩ (c_X4_thick l D y t q' _ 600 F G (xs (nI i + 1).toNatClampNeg) (xs (nI i + 2).toNatClampNeg) (r, F') e2) (cwV 2 hts gL_law_X4_thick rfl rfl rfl eX4_thick ⟨Nat.le_of_ble_eq_true rfl, Nat.le_of_ble_eq_true rfl⟩) ⟨q_blind, va_recv hK hPM (ci := 4) (q0 := 0) rfl rfl, q_pre0 hPM hK hZ (D_right (hDD b' R T' K P B M F G)) AA_ok hS⟩ rfl rfl hl.1 rfl (lv_room (Nat.le_of_ble_eq_true rfl)) dL_law_858 ⟨Nat.le_of_ble_eq_true rfl, Nat.le_of_ble_eq_true rfl⟩) (hDD b' R T' K P B M F G) hPB AA_ok hS (fun H locs hPB hPM hS => ?_)
  have hPM : va_P D vwCl (wM y q' F' G) H := hPM
  exact lv_icmp_eq (tgt := 1325) hx hb dL_law_861 (by decide) (fun _ => kk _ _ _ _ _ _ _ _ _ _ _ g' hPB hPM hS) (fun c9 => absurd rfl c9)
set_option maxHeartbeats 4000000 in
set_option maxRecDepth 100000 in
theorem law_22 {p : Program} {l : Launch} {e : Env} {s : State} {m : MethodId} {below : List Frame} {meth : Method} {c : Code} {a0 L : Nat} {xs : Nat → Int32} {D : va_G} {y : Nat → ClassId} {t q q' : Nat → Nat} (C : LC p s m meth c a0 L xs D y t q q') {i : Nat} (hL : L ≤ 3072) (hi : i + 6 ≤ L) {b R T K P B : Nat → Nat → Int32} {M : Nat → Nat → Int64} {F : Nat → Nat → Int32} {G : Nat → Int64} (g : gRel b R K P B M F G) {H : Heap} {locs : List Loc} {ls : Array Slot} (hPB : va_P D vwCl (wB y q b R T K P B M) H) (hPM : va_P D vwCl (wM y q' F G) H) (hS : va_S (AA s) s.heap H locs) (hl : lv_has ls 4 [(0, .ref a0), (1, .ref (q 0)), (2, .ref (q' 0)), (3, .int (nI i))]) (kk : lwK p l e s m below meth c a0 D y q q' ls) : W p l e room_1 s m #[Value.ref a0] below meth c H locs 46 1380 (lw_Z below #[Value.ref a0] s) (F0 m 866 ls []) := by
  obtain ⟨hx, hb, hr, hml, hown, hts, hX, hbl, hlocks, hK, hZ, hDD⟩ := C
  have hbA : ¬ AA s a0 := Nat.not_le.mpr hbl
  refine lv_aload_n hx hb dL_law_866 rfl (lv_at hl 1 rfl) ?_
  refine lv_aload_n hx hb dL_law_867 rfl (lv_at hl 0 rfl) ?_
  refine lv_iload_n hx hb dL_law_868 rfl (lv_at hl 3 rfl) ?_
  refine lv_iconst (v := 1) hx hb dL_law_869 (by decide) ?_
  refine lv_iadd hx hb dL_law_870 ?_
  refine va_sld hx hb hX hbl hbA hS (vIn hi hL 1 (by decide)) dL_law_871 ?_
  obtain ⟨r, b', T', F', e1, e2, g'⟩ := pr_save (N := 600) (T := T) (p1 := (xs (nI i + 1).toNatClampNeg)) g (by decide)
  refine q_ci1 (r := r) (va_runV (As := [.int (xs (nI i + 1).toNatClampNeg)]) (rest := []) ⟨hx, hb, hml, hown, hts⟩ (c_X3_save l D y t q _ 600 b R T K P B M (xs (nI i + 1).toNatClampNeg) (r, b', T') e1) (cwV 1 hts gL_law_X3_save rfl rfl rfl eX3_save ⟨Nat.le_of_ble_eq_true rfl, Nat.le_of_ble_eq_true rfl⟩) ⟨q_blind, va_recv hK hPB (ci := 3) (q0 := 0) rfl rfl, q_pre0 hPB hK hZ (D_left (hDD b R T K P B M F G)) AA_ok hS⟩ rfl rfl hl.1 rfl (lv_room (Nat.le_of_ble_eq_true rfl)) dL_law_872 ⟨Nat.le_of_ble_eq_true rfl, Nat.le_of_ble_eq_true rfl⟩) (hDD b R T K P B M F G) hPM AA_ok hS (fun H locs hPB hPM hS => ?_)
  have hPB : va_P D vwCl (wB y q b' R T' K P B M) H := hPB
  refine lv_aload_n hx hb dL_law_875 rfl (lv_at hl 2 rfl) ?_
  refine lv_aload_n hx hb dL_law_876 rfl (lv_at hl 0 rfl) ?_
  refine lv_iload_n hx hb dL_law_877 rfl (lv_at hl 3 rfl) ?_
  refine lv_iconst (v := 1) hx hb dL_law_878 (by decide) ?_
  refine lv_iadd hx hb dL_law_879 ?_
  refine va_sld hx hb hX hbl hbA hS (vIn hi hL 1 (by decide)) dL_law_880 ?_
  refine q_ci2 (r := r) (va_runV (As := [.int (xs (nI i + 1).toNatClampNeg)]) (rest := [.int r]) ⟨hx, hb, hml, hown, hts⟩ (c_X4_save l D y t q' _ 600 F G (xs (nI i + 1).toNatClampNeg) (r, F') e2) (cwV 1 hts gL_law_X4_save rfl rfl rfl eX4_save ⟨Nat.le_of_ble_eq_true rfl, Nat.le_of_ble_eq_true rfl⟩) ⟨q_blind, va_recv hK hPM (ci := 4) (q0 := 0) rfl rfl, q_pre0 hPM hK hZ (D_right (hDD b' R T' K P B M F G)) AA_ok hS⟩ rfl rfl hl.1 rfl (lv_room (Nat.le_of_ble_eq_true rfl)) dL_law_881 ⟨Nat.le_of_ble_eq_true rfl, Nat.le_of_ble_eq_true rfl⟩) (hDD b' R T' K P B M F G) hPB AA_ok hS (fun H locs hPB hPM hS => ?_)
  have hPM : va_P D vwCl (wM y q' F' G) H := hPM
  exact lv_icmp_eq (tgt := 1325) hx hb dL_law_884 (by decide) (fun _ => kk _ _ _ _ _ _ _ _ _ _ _ g' hPB hPM hS) (fun c9 => absurd rfl c9)
set_option maxHeartbeats 4000000 in
set_option maxRecDepth 100000 in
theorem law_23 {p : Program} {l : Launch} {e : Env} {s : State} {m : MethodId} {below : List Frame} {meth : Method} {c : Code} {a0 L : Nat} {xs : Nat → Int32} {D : va_G} {y : Nat → ClassId} {t q q' : Nat → Nat} (C : LC p s m meth c a0 L xs D y t q q') {i : Nat} (hL : L ≤ 3072) (hi : i + 6 ≤ L) {b R T K P B : Nat → Nat → Int32} {M : Nat → Nat → Int64} {F : Nat → Nat → Int32} {G : Nat → Int64} (g : gRel b R K P B M F G) {H : Heap} {locs : List Loc} {ls : Array Slot} (hPB : va_P D vwCl (wB y q b R T K P B M) H) (hPM : va_P D vwCl (wM y q' F G) H) (hS : va_S (AA s) s.heap H locs) (hl : lv_has ls 4 [(0, .ref a0), (1, .ref (q 0)), (2, .ref (q' 0)), (3, .int (nI i))]) (kk : lwK p l e s m below meth c a0 D y q q' ls) : W p l e room_1 s m #[Value.ref a0] below meth c H locs 46 1380 (lw_Z below #[Value.ref a0] s) (F0 m 889 ls []) := by
  obtain ⟨hx, hb, hr, hml, hown, hts, hX, hbl, hlocks, hK, hZ, hDD⟩ := C
  have hbA : ¬ AA s a0 := Nat.not_le.mpr hbl
  refine lv_aload_n hx hb dL_law_889 rfl (lv_at hl 1 rfl) ?_
  refine lv_aload_n hx hb dL_law_890 rfl (lv_at hl 0 rfl) ?_
  refine lv_iload_n hx hb dL_law_891 rfl (lv_at hl 3 rfl) ?_
  refine lv_iconst (v := 1) hx hb dL_law_892 (by decide) ?_
  refine lv_iadd hx hb dL_law_893 ?_
  refine va_sld hx hb hX hbl hbA hS (vIn hi hL 1 (by decide)) dL_law_894 ?_
  obtain ⟨r, b', T', F', e1, e2, g'⟩ := pr_goal (N := 600) (T := T) (p1 := (xs (nI i + 1).toNatClampNeg)) g (by decide)
  refine q_ci1 (r := r) (va_runV (As := [.int (xs (nI i + 1).toNatClampNeg)]) (rest := []) ⟨hx, hb, hml, hown, hts⟩ (c_X3_goal l D y t q _ 600 b R T K P B M (xs (nI i + 1).toNatClampNeg) (r, b', T') e1) (cwV 1 hts gL_law_X3_goal rfl rfl rfl eX3_goal ⟨Nat.le_of_ble_eq_true rfl, Nat.le_of_ble_eq_true rfl⟩) ⟨q_blind, va_recv hK hPB (ci := 3) (q0 := 0) rfl rfl, q_pre0 hPB hK hZ (D_left (hDD b R T K P B M F G)) AA_ok hS⟩ rfl rfl hl.1 rfl (lv_room (Nat.le_of_ble_eq_true rfl)) dL_law_895 ⟨Nat.le_of_ble_eq_true rfl, Nat.le_of_ble_eq_true rfl⟩) (hDD b R T K P B M F G) hPM AA_ok hS (fun H locs hPB hPM hS => ?_)
  have hPB : va_P D vwCl (wB y q b' R T' K P B M) H := hPB
  refine lv_aload_n hx hb dL_law_898 rfl (lv_at hl 2 rfl) ?_
  refine lv_aload_n hx hb dL_law_899 rfl (lv_at hl 0 rfl) ?_
  refine lv_iload_n hx hb dL_law_900 rfl (lv_at hl 3 rfl) ?_
  refine lv_iconst (v := 1) hx hb dL_law_901 (by decide) ?_
  refine lv_iadd hx hb dL_law_902 ?_
  refine va_sld hx hb hX hbl hbA hS (vIn hi hL 1 (by decide)) dL_law_903 ?_
  refine q_ci2 (r := r) (va_runV (As := [.int (xs (nI i + 1).toNatClampNeg)]) (rest := [.int r]) ⟨hx, hb, hml, hown, hts⟩ (c_X4_goal l D y t q' _ 600 F G (xs (nI i + 1).toNatClampNeg) (r, F') e2) (cwV 1 hts gL_law_X4_goal rfl rfl rfl eX4_goal ⟨Nat.le_of_ble_eq_true rfl, Nat.le_of_ble_eq_true rfl⟩) ⟨q_blind, va_recv hK hPM (ci := 4) (q0 := 0) rfl rfl, q_pre0 hPM hK hZ (D_right (hDD b' R T' K P B M F G)) AA_ok hS⟩ rfl rfl hl.1 rfl (lv_room (Nat.le_of_ble_eq_true rfl)) dL_law_904 ⟨Nat.le_of_ble_eq_true rfl, Nat.le_of_ble_eq_true rfl⟩) (hDD b' R T' K P B M F G) hPB AA_ok hS (fun H locs hPB hPM hS => ?_)
  have hPM : va_P D vwCl (wM y q' F' G) H := hPM
  exact lv_icmp_eq (tgt := 1325) hx hb dL_law_907 (by decide) (fun _ => kk _ _ _ _ _ _ _ _ _ _ _ g' hPB hPM hS) (fun c9 => absurd rfl c9)
set_option maxHeartbeats 4000000 in
set_option maxRecDepth 100000 in
theorem law_24 {p : Program} {l : Launch} {e : Env} {s : State} {m : MethodId} {below : List Frame} {meth : Method} {c : Code} {a0 L : Nat} {xs : Nat → Int32} {D : va_G} {y : Nat → ClassId} {t q q' : Nat → Nat} (C : LC p s m meth c a0 L xs D y t q q') {i : Nat} (hL : L ≤ 3072) (hi : i + 6 ≤ L) {b R T K P B : Nat → Nat → Int32} {M : Nat → Nat → Int64} {F : Nat → Nat → Int32} {G : Nat → Int64} (g : gRel b R K P B M F G) {H : Heap} {locs : List Loc} {ls : Array Slot} (hPB : va_P D vwCl (wB y q b R T K P B M) H) (hPM : va_P D vwCl (wM y q' F G) H) (hS : va_S (AA s) s.heap H locs) (hl : lv_has ls 4 [(0, .ref a0), (1, .ref (q 0)), (2, .ref (q' 0)), (3, .int (nI i))]) (kk : lwK p l e s m below meth c a0 D y q q' ls) : W p l e room_1 s m #[Value.ref a0] below meth c H locs 46 1380 (lw_Z below #[Value.ref a0] s) (F0 m 912 ls []) := by
  obtain ⟨hx, hb, hr, hml, hown, hts, hX, hbl, hlocks, hK, hZ, hDD⟩ := C
  have hbA : ¬ AA s a0 := Nat.not_le.mpr hbl
  refine lv_aload_n hx hb dL_law_912 rfl (lv_at hl 1 rfl) ?_
  refine lv_aload_n hx hb dL_law_913 rfl (lv_at hl 0 rfl) ?_
  refine lv_iload_n hx hb dL_law_914 rfl (lv_at hl 3 rfl) ?_
  refine lv_iconst (v := 1) hx hb dL_law_915 (by decide) ?_
  refine lv_iadd hx hb dL_law_916 ?_
  refine va_sld hx hb hX hbl hbA hS (vIn hi hL 1 (by decide)) dL_law_917 ?_
  refine lv_aload_n hx hb dL_law_918 rfl (lv_at hl 0 rfl) ?_
  refine lv_iload_n hx hb dL_law_919 rfl (lv_at hl 3 rfl) ?_
  refine lv_iconst (v := 2) hx hb dL_law_920 (by decide) ?_
  refine lv_iadd hx hb dL_law_921 ?_
  refine va_sld hx hb hX hbl hbA hS (vIn hi hL 2 (by decide)) dL_law_922 ?_
  obtain ⟨r, b', P', F', e1, e2, g'⟩ := pr_feed (N := 600) (T := T) (p1 := (xs (nI i + 1).toNatClampNeg)) (p2 := (xs (nI i + 2).toNatClampNeg)) g (by decide)
  refine q_ci1 (r := r) (va_runV (As := [.int (xs (nI i + 1).toNatClampNeg), .int (xs (nI i + 2).toNatClampNeg)]) (rest := []) ⟨hx, hb, hml, hown, hts⟩ (c_X3_feed l D y t q _ 600 b R T K P B M (xs (nI i + 1).toNatClampNeg) (xs (nI i + 2).toNatClampNeg) (r, b', P') e1) (cwV 2 hts gL_law_X3_feed rfl rfl rfl eX3_feed ⟨Nat.le_of_ble_eq_true rfl, Nat.le_of_ble_eq_true rfl⟩) ⟨q_blind, va_recv hK hPB (ci := 3) (q0 := 0) rfl rfl, q_pre0 hPB hK hZ (D_left (hDD b R T K P B M F G)) AA_ok hS⟩ rfl rfl hl.1 rfl (lv_room (Nat.le_of_ble_eq_true rfl)) dL_law_923 ⟨Nat.le_of_ble_eq_true rfl, Nat.le_of_ble_eq_true rfl⟩) (hDD b R T K P B M F G) hPM AA_ok hS (fun H locs hPB hPM hS => ?_)
  have hPB : va_P D vwCl (wB y q b' R T K P' B M) H := hPB
  refine lv_aload_n hx hb dL_law_926 rfl (lv_at hl 2 rfl) ?_
  refine lv_aload_n hx hb dL_law_927 rfl (lv_at hl 0 rfl) ?_
  refine lv_iload_n hx hb dL_law_928 rfl (lv_at hl 3 rfl) ?_
  refine lv_iconst (v := 1) hx hb dL_law_929 (by decide) ?_
  refine lv_iadd hx hb dL_law_930 ?_
  refine va_sld hx hb hX hbl hbA hS (vIn hi hL 1 (by decide)) dL_law_931 ?_
  refine lv_aload_n hx hb dL_law_932 rfl (lv_at hl 0 rfl) ?_
  refine lv_iload_n hx hb dL_law_933 rfl (lv_at hl 3 rfl) ?_
  refine lv_iconst (v := 2) hx hb dL_law_934 (by decide) ?_
  refine lv_iadd hx hb dL_law_935 ?_
  refine va_sld hx hb hX hbl hbA hS (vIn hi hL 2 (by decide)) dL_law_936 ?_
  refine q_ci2 (r := r) (va_runV (As := [.int (xs (nI i + 1).toNatClampNeg), .int (xs (nI i + 2).toNatClampNeg)]) (rest := [.int r]) ⟨hx, hb, hml, hown, hts⟩ (c_X4_feed l D y t q' _ 600 F G (xs (nI i + 1).toNatClampNeg) (xs (nI i + 2).toNatClampNeg) (r, F') e2) (cwV 2 hts gL_law_X4_feed rfl rfl rfl eX4_feed ⟨Nat.le_of_ble_eq_true rfl, Nat.le_of_ble_eq_true rfl⟩) ⟨q_blind, va_recv hK hPM (ci := 4) (q0 := 0) rfl rfl, q_pre0 hPM hK hZ (D_right (hDD b' R T K P' B M F G)) AA_ok hS⟩ rfl rfl hl.1 rfl (lv_room (Nat.le_of_ble_eq_true rfl)) dL_law_937 ⟨Nat.le_of_ble_eq_true rfl, Nat.le_of_ble_eq_true rfl⟩) (hDD b' R T K P' B M F G) hPB AA_ok hS (fun H locs hPB hPM hS => ?_)
  have hPM : va_P D vwCl (wM y q' F' G) H := hPM
  exact lv_icmp_eq (tgt := 1325) hx hb dL_law_940 (by decide) (fun _ => kk _ _ _ _ _ _ _ _ _ _ _ g' hPB hPM hS) (fun c9 => absurd rfl c9)
set_option maxHeartbeats 4000000 in
set_option maxRecDepth 100000 in
theorem law_25 {p : Program} {l : Launch} {e : Env} {s : State} {m : MethodId} {below : List Frame} {meth : Method} {c : Code} {a0 L : Nat} {xs : Nat → Int32} {D : va_G} {y : Nat → ClassId} {t q q' : Nat → Nat} (C : LC p s m meth c a0 L xs D y t q q') {i : Nat} (hL : L ≤ 3072) (hi : i + 6 ≤ L) {b R T K P B : Nat → Nat → Int32} {M : Nat → Nat → Int64} {F : Nat → Nat → Int32} {G : Nat → Int64} (g : gRel b R K P B M F G) {H : Heap} {locs : List Loc} {ls : Array Slot} (hPB : va_P D vwCl (wB y q b R T K P B M) H) (hPM : va_P D vwCl (wM y q' F G) H) (hS : va_S (AA s) s.heap H locs) (hl : lv_has ls 4 [(0, .ref a0), (1, .ref (q 0)), (2, .ref (q' 0)), (3, .int (nI i))]) (kk : lwK p l e s m below meth c a0 D y q q' ls) : W p l e room_1 s m #[Value.ref a0] below meth c H locs 46 1380 (lw_Z below #[Value.ref a0] s) (F0 m 945 ls []) := by
  obtain ⟨hx, hb, hr, hml, hown, hts, hX, hbl, hlocks, hK, hZ, hDD⟩ := C
  have hbA : ¬ AA s a0 := Nat.not_le.mpr hbl
  refine lv_aload_n hx hb dL_law_945 rfl (lv_at hl 1 rfl) ?_
  obtain ⟨r, P', F', e1, e2, g'⟩ := pr_wipe (N := 600) (T := T)  g
  refine q_ci1 (r := r) (va_runV (As := []) (rest := []) ⟨hx, hb, hml, hown, hts⟩ (c_X3_wipe l D y t q _ 600 b R T K P B M  (r, P') e1) (cwV 0 hts gL_law_X3_wipe rfl rfl rfl eX3_wipe ⟨Nat.le_of_ble_eq_true rfl, Nat.le_of_ble_eq_true rfl⟩) ⟨q_blind, va_recv hK hPB (ci := 3) (q0 := 0) rfl rfl, q_pre0 hPB hK hZ (D_left (hDD b R T K P B M F G)) AA_ok hS⟩ rfl rfl hl.1 rfl (lv_room (Nat.le_of_ble_eq_true rfl)) dL_law_946 ⟨Nat.le_of_ble_eq_true rfl, Nat.le_of_ble_eq_true rfl⟩) (hDD b R T K P B M F G) hPM AA_ok hS (fun H locs hPB hPM hS => ?_)
  have hPB : va_P D vwCl (wB y q b R T K P' B M) H := hPB
  refine lv_aload_n hx hb dL_law_949 rfl (lv_at hl 2 rfl) ?_
  refine q_ci2 (r := r) (va_runV (As := []) (rest := [.int r]) ⟨hx, hb, hml, hown, hts⟩ (c_X4_wipe l D y t q' _ 600 F G  (r, F') e2) (cwV 0 hts gL_law_X4_wipe rfl rfl rfl eX4_wipe ⟨Nat.le_of_ble_eq_true rfl, Nat.le_of_ble_eq_true rfl⟩) ⟨q_blind, va_recv hK hPM (ci := 4) (q0 := 0) rfl rfl, q_pre0 hPM hK hZ (D_right (hDD b R T K P' B M F G)) AA_ok hS⟩ rfl rfl hl.1 rfl (lv_room (Nat.le_of_ble_eq_true rfl)) dL_law_950 ⟨Nat.le_of_ble_eq_true rfl, Nat.le_of_ble_eq_true rfl⟩) (hDD b R T K P' B M F G) hPB AA_ok hS (fun H locs hPB hPM hS => ?_)
  have hPM : va_P D vwCl (wM y q' F' G) H := hPM
  exact lv_icmp_eq (tgt := 1325) hx hb dL_law_953 (by decide) (fun _ => kk _ _ _ _ _ _ _ _ _ _ _ g' hPB hPM hS) (fun c9 => absurd rfl c9)
set_option maxHeartbeats 4000000 in
set_option maxRecDepth 100000 in
theorem law_26 {p : Program} {l : Launch} {e : Env} {s : State} {m : MethodId} {below : List Frame} {meth : Method} {c : Code} {a0 L : Nat} {xs : Nat → Int32} {D : va_G} {y : Nat → ClassId} {t q q' : Nat → Nat} (C : LC p s m meth c a0 L xs D y t q q') {i : Nat} (hL : L ≤ 3072) (hi : i + 6 ≤ L) {b R T K P B : Nat → Nat → Int32} {M : Nat → Nat → Int64} {F : Nat → Nat → Int32} {G : Nat → Int64} (g : gRel b R K P B M F G) {H : Heap} {locs : List Loc} {ls : Array Slot} (hPB : va_P D vwCl (wB y q b R T K P B M) H) (hPM : va_P D vwCl (wM y q' F G) H) (hS : va_S (AA s) s.heap H locs) (hl : lv_has ls 4 [(0, .ref a0), (1, .ref (q 0)), (2, .ref (q' 0)), (3, .int (nI i))]) (kk : lwK p l e s m below meth c a0 D y q q' ls) : W p l e room_1 s m #[Value.ref a0] below meth c H locs 46 1380 (lw_Z below #[Value.ref a0] s) (F0 m 958 ls []) := by
  obtain ⟨hx, hb, hr, hml, hown, hts, hX, hbl, hlocks, hK, hZ, hDD⟩ := C
  have hbA : ¬ AA s a0 := Nat.not_le.mpr hbl
  refine lv_aload_n hx hb dL_law_958 rfl (lv_at hl 1 rfl) ?_
  obtain ⟨r, R', T', P', F', e1, e2, g'⟩ := pr_island (N := 600) (T := T)  g (by decide)
  refine q_ci1 (r := r) (va_runV (As := []) (rest := []) ⟨hx, hb, hml, hown, hts⟩ (c_X3_island l D y t q _ 600 b R T K P B M  (r, R', T', P') e1) (cwV 0 hts gL_law_X3_island rfl rfl rfl eX3_island ⟨Nat.le_of_ble_eq_true rfl, Nat.le_of_ble_eq_true rfl⟩) ⟨q_blind, va_recv hK hPB (ci := 3) (q0 := 0) rfl rfl, q_pre0 hPB hK hZ (D_left (hDD b R T K P B M F G)) AA_ok hS⟩ rfl rfl hl.1 rfl (lv_room (Nat.le_of_ble_eq_true rfl)) dL_law_959 ⟨Nat.le_of_ble_eq_true rfl, Nat.le_of_ble_eq_true rfl⟩) (hDD b R T K P B M F G) hPM AA_ok hS (fun H locs hPB hPM hS => ?_)
  have hPB : va_P D vwCl (wB y q b R' T' K P' B M) H := hPB
  refine lv_aload_n hx hb dL_law_962 rfl (lv_at hl 2 rfl) ?_
  refine q_ci2 (r := r) (va_runV (As := []) (rest := [.int r]) ⟨hx, hb, hml, hown, hts⟩ (c_X4_island l D y t q' _ 600 F G  (r, F') e2) (cwV 0 hts gL_law_X4_island rfl rfl rfl eX4_island ⟨Nat.le_of_ble_eq_true rfl, Nat.le_of_ble_eq_true rfl⟩) ⟨q_blind, va_recv hK hPM (ci := 4) (q0 := 0) rfl rfl, q_pre0 hPM hK hZ (D_right (hDD b R' T' K P' B M F G)) AA_ok hS⟩ rfl rfl hl.1 rfl (lv_room (Nat.le_of_ble_eq_true rfl)) dL_law_963 ⟨Nat.le_of_ble_eq_true rfl, Nat.le_of_ble_eq_true rfl⟩) (hDD b R' T' K P' B M F G) hPB AA_ok hS (fun H locs hPB hPM hS => ?_)
  have hPM : va_P D vwCl (wM y q' F' G) H := hPM
  exact lv_icmp_eq (tgt := 1325) hx hb dL_law_966 (by decide) (fun _ => kk _ _ _ _ _ _ _ _ _ _ _ g' hPB hPM hS) (fun c9 => absurd rfl c9)
set_option maxHeartbeats 4000000 in
set_option maxRecDepth 100000 in
theorem law_27 {p : Program} {l : Launch} {e : Env} {s : State} {m : MethodId} {below : List Frame} {meth : Method} {c : Code} {a0 L : Nat} {xs : Nat → Int32} {D : va_G} {y : Nat → ClassId} {t q q' : Nat → Nat} (C : LC p s m meth c a0 L xs D y t q q') {i : Nat} (hL : L ≤ 3072) (hi : i + 6 ≤ L) {b R T K P B : Nat → Nat → Int32} {M : Nat → Nat → Int64} {F : Nat → Nat → Int32} {G : Nat → Int64} (g : gRel b R K P B M F G) {H : Heap} {locs : List Loc} {ls : Array Slot} (hPB : va_P D vwCl (wB y q b R T K P B M) H) (hPM : va_P D vwCl (wM y q' F G) H) (hS : va_S (AA s) s.heap H locs) (hl : lv_has ls 4 [(0, .ref a0), (1, .ref (q 0)), (2, .ref (q' 0)), (3, .int (nI i))]) (kk : lwK p l e s m below meth c a0 D y q q' ls) : W p l e room_1 s m #[Value.ref a0] below meth c H locs 46 1380 (lw_Z below #[Value.ref a0] s) (F0 m 971 ls []) := by
  obtain ⟨hx, hb, hr, hml, hown, hts, hX, hbl, hlocks, hK, hZ, hDD⟩ := C
  have hbA : ¬ AA s a0 := Nat.not_le.mpr hbl
  refine lv_aload_n hx hb dL_law_971 rfl (lv_at hl 1 rfl) ?_
  refine lv_aload_n hx hb dL_law_972 rfl (lv_at hl 0 rfl) ?_
  refine lv_iload_n hx hb dL_law_973 rfl (lv_at hl 3 rfl) ?_
  refine lv_iconst (v := 1) hx hb dL_law_974 (by decide) ?_
  refine lv_iadd hx hb dL_law_975 ?_
  refine va_sld hx hb hX hbl hbA hS (vIn hi hL 1 (by decide)) dL_law_976 ?_
  refine lv_aload_n hx hb dL_law_977 rfl (lv_at hl 0 rfl) ?_
  refine lv_iload_n hx hb dL_law_978 rfl (lv_at hl 3 rfl) ?_
  refine lv_iconst (v := 2) hx hb dL_law_979 (by decide) ?_
  refine lv_iadd hx hb dL_law_980 ?_
  refine va_sld hx hb hX hbl hbA hS (vIn hi hL 2 (by decide)) dL_law_981 ?_
  refine lv_aload_n hx hb dL_law_982 rfl (lv_at hl 0 rfl) ?_
  refine lv_iload_n hx hb dL_law_983 rfl (lv_at hl 3 rfl) ?_
  refine lv_iconst (v := 3) hx hb dL_law_984 (by decide) ?_
  refine lv_iadd hx hb dL_law_985 ?_
  refine va_sld hx hb hX hbl hbA hS (vIn hi hL 3 (by decide)) dL_law_986 ?_
  obtain ⟨r, b', B', M', F', G', e1, e2, g'⟩ := pr_sheet (N := 600) (T := T) (p1 := (xs (nI i + 1).toNatClampNeg)) (p2 := (xs (nI i + 2).toNatClampNeg)) (p3 := (xs (nI i + 3).toNatClampNeg)) g (by decide)
  refine q_ci1 (r := r) (va_runV (As := [.int (xs (nI i + 1).toNatClampNeg), .int (xs (nI i + 2).toNatClampNeg), .int (xs (nI i + 3).toNatClampNeg)]) (rest := []) ⟨hx, hb, hml, hown, hts⟩ (c_X3_sheet l D y t q _ 600 b R T K P B M (xs (nI i + 1).toNatClampNeg) (xs (nI i + 2).toNatClampNeg) (xs (nI i + 3).toNatClampNeg) (r, b', B', M') e1) (cwV 3 hts gL_law_X3_sheet rfl rfl rfl eX3_sheet ⟨Nat.le_of_ble_eq_true rfl, Nat.le_of_ble_eq_true rfl⟩) ⟨q_blind, va_recv hK hPB (ci := 3) (q0 := 0) rfl rfl, q_pre0 hPB hK hZ (D_left (hDD b R T K P B M F G)) AA_ok hS⟩ rfl rfl hl.1 rfl (lv_room (Nat.le_of_ble_eq_true rfl)) dL_law_987 ⟨Nat.le_of_ble_eq_true rfl, Nat.le_of_ble_eq_true rfl⟩) (hDD b R T K P B M F G) hPM AA_ok hS (fun H locs hPB hPM hS => ?_)
  have hPB : va_P D vwCl (wB y q b' R T K P B' M') H := hPB
  refine lv_aload_n hx hb dL_law_990 rfl (lv_at hl 2 rfl) ?_
  refine lv_aload_n hx hb dL_law_991 rfl (lv_at hl 0 rfl) ?_
  refine lv_iload_n hx hb dL_law_992 rfl (lv_at hl 3 rfl) ?_
  refine lv_iconst (v := 1) hx hb dL_law_993 (by decide) ?_
  refine lv_iadd hx hb dL_law_994 ?_
  refine va_sld hx hb hX hbl hbA hS (vIn hi hL 1 (by decide)) dL_law_995 ?_
  refine lv_aload_n hx hb dL_law_996 rfl (lv_at hl 0 rfl) ?_
  refine lv_iload_n hx hb dL_law_997 rfl (lv_at hl 3 rfl) ?_
  refine lv_iconst (v := 2) hx hb dL_law_998 (by decide) ?_
  refine lv_iadd hx hb dL_law_999 ?_
  refine va_sld hx hb hX hbl hbA hS (vIn hi hL 2 (by decide)) dL_law_1000 ?_
  refine lv_aload_n hx hb dL_law_1001 rfl (lv_at hl 0 rfl) ?_
  refine lv_iload_n hx hb dL_law_1002 rfl (lv_at hl 3 rfl) ?_
  refine lv_iconst (v := 3) hx hb dL_law_1003 (by decide) ?_
  refine lv_iadd hx hb dL_law_1004 ?_
  refine va_sld hx hb hX hbl hbA hS (vIn hi hL 3 (by decide)) dL_law_1005 ?_
  refine q_ci2 (r := r) (va_runV (As := [.int (xs (nI i + 1).toNatClampNeg), .int (xs (nI i + 2).toNatClampNeg), .int (xs (nI i + 3).toNatClampNeg)]) (rest := [.int r]) ⟨hx, hb, hml, hown, hts⟩ (c_X4_sheet l D y t q' _ 600 F G (xs (nI i + 1).toNatClampNeg) (xs (nI i + 2).toNatClampNeg) (xs (nI i + 3).toNatClampNeg) (r, F', G') e2) (cwV 3 hts gL_law_X4_sheet rfl rfl rfl eX4_sheet ⟨Nat.le_of_ble_eq_true rfl, Nat.le_of_ble_eq_true rfl⟩) ⟨q_blind, va_recv hK hPM (ci := 4) (q0 := 0) rfl rfl, q_pre0 hPM hK hZ (D_right (hDD b' R T K P B' M' F G)) AA_ok hS⟩ rfl rfl hl.1 rfl (lv_room (Nat.le_of_ble_eq_true rfl)) dL_law_1006 ⟨Nat.le_of_ble_eq_true rfl, Nat.le_of_ble_eq_true rfl⟩) (hDD b' R T K P B' M' F G) hPB AA_ok hS (fun H locs hPB hPM hS => ?_)
  have hPM : va_P D vwCl (wM y q' F' G') H := hPM
  exact lv_icmp_eq (tgt := 1325) hx hb dL_law_1009 (by decide) (fun _ => kk _ _ _ _ _ _ _ _ _ _ _ g' hPB hPM hS) (fun c9 => absurd rfl c9)
set_option maxHeartbeats 4000000 in
set_option maxRecDepth 100000 in
theorem law_28 {p : Program} {l : Launch} {e : Env} {s : State} {m : MethodId} {below : List Frame} {meth : Method} {c : Code} {a0 L : Nat} {xs : Nat → Int32} {D : va_G} {y : Nat → ClassId} {t q q' : Nat → Nat} (C : LC p s m meth c a0 L xs D y t q q') {i : Nat} (hL : L ≤ 3072) (hi : i + 6 ≤ L) {b R T K P B : Nat → Nat → Int32} {M : Nat → Nat → Int64} {F : Nat → Nat → Int32} {G : Nat → Int64} (g : gRel b R K P B M F G) {H : Heap} {locs : List Loc} {ls : Array Slot} (hPB : va_P D vwCl (wB y q b R T K P B M) H) (hPM : va_P D vwCl (wM y q' F G) H) (hS : va_S (AA s) s.heap H locs) (hl : lv_has ls 4 [(0, .ref a0), (1, .ref (q 0)), (2, .ref (q' 0)), (3, .int (nI i))]) (kk : lwK p l e s m below meth c a0 D y q q' ls) : W p l e room_1 s m #[Value.ref a0] below meth c H locs 46 1380 (lw_Z below #[Value.ref a0] s) (F0 m 1014 ls []) := by
  obtain ⟨hx, hb, hr, hml, hown, hts, hX, hbl, hlocks, hK, hZ, hDD⟩ := C
  have hbA : ¬ AA s a0 := Nat.not_le.mpr hbl
  refine lv_aload_n hx hb dL_law_1014 rfl (lv_at hl 1 rfl) ?_
  refine lv_aload_n hx hb dL_law_1015 rfl (lv_at hl 0 rfl) ?_
  refine lv_iload_n hx hb dL_law_1016 rfl (lv_at hl 3 rfl) ?_
  refine lv_iconst (v := 1) hx hb dL_law_1017 (by decide) ?_
  refine lv_iadd hx hb dL_law_1018 ?_
  refine va_sld hx hb hX hbl hbA hS (vIn hi hL 1 (by decide)) dL_law_1019 ?_
  refine lv_aload_n hx hb dL_law_1020 rfl (lv_at hl 0 rfl) ?_
  refine lv_iload_n hx hb dL_law_1021 rfl (lv_at hl 3 rfl) ?_
  refine lv_iconst (v := 2) hx hb dL_law_1022 (by decide) ?_
  refine lv_iadd hx hb dL_law_1023 ?_
  refine va_sld hx hb hX hbl hbA hS (vIn hi hL 2 (by decide)) dL_law_1024 ?_
  refine lv_aload_n hx hb dL_law_1025 rfl (lv_at hl 0 rfl) ?_
  refine lv_iload_n hx hb dL_law_1026 rfl (lv_at hl 3 rfl) ?_
  refine lv_iconst (v := 3) hx hb dL_law_1027 (by decide) ?_
  refine lv_iadd hx hb dL_law_1028 ?_
  refine va_sld hx hb hX hbl hbA hS (vIn hi hL 3 (by decide)) dL_law_1029 ?_
  refine lv_i2l hx hb dL_law_1030 rfl ?_
  refine lv_bipush (v := 32) hx hb dL_law_1031 (by decide) ?_
  refine lv_lshl hx hb dL_law_1033 rfl ?_
  refine lv_aload_n hx hb dL_law_1034 rfl (lv_at hl 0 rfl) ?_
  refine lv_iload_n hx hb dL_law_1035 rfl (lv_at hl 3 rfl) ?_
  refine lv_iconst (v := 4) hx hb dL_law_1036 (by decide) ?_
  refine lv_iadd hx hb dL_law_1037 ?_
  refine va_sld hx hb hX hbl hbA hS (vIn hi hL 4 (by decide)) dL_law_1038 ?_
  refine lv_i2l hx hb dL_law_1039 rfl ?_
  refine lv_ldc2 (v := 4294967295) hx hb hown (hts _ kL_law_c) dL_law_1040 ?_
  refine lv_land hx hb dL_law_1043 ?_
  refine lv_lor hx hb dL_law_1044 ?_
  refine lv_topl (fun z1 ez1 => ?_)
  obtain ⟨r, b', M', F', G', e1, e2, g'⟩ := pr_write (N := 600) (T := T) (p1 := (xs (nI i + 1).toNatClampNeg)) (p2 := (xs (nI i + 2).toNatClampNeg)) (v := z1) g (by decide)
  refine q_cl1 (r := r) (va_runV (As := [.int (xs (nI i + 1).toNatClampNeg), .int (xs (nI i + 2).toNatClampNeg), .long z1]) (rest := []) ⟨hx, hb, hml, hown, hts⟩ (c_X3_write l D y t q _ 600 b R T K P B M (xs (nI i + 1).toNatClampNeg) (xs (nI i + 2).toNatClampNeg) z1 (r, b', M') e1) (cwV 3 hts gL_law_X3_write rfl rfl rfl eX3_write ⟨Nat.le_of_ble_eq_true rfl, Nat.le_of_ble_eq_true rfl⟩) ⟨q_blind, va_recv hK hPB (ci := 3) (q0 := 0) rfl rfl, q_pre0 hPB hK hZ (D_left (hDD b R T K P B M F G)) AA_ok hS⟩ rfl rfl hl.1 rfl (lv_room (Nat.le_of_ble_eq_true rfl)) dL_law_1045 ⟨Nat.le_of_ble_eq_true rfl, Nat.le_of_ble_eq_true rfl⟩) (hDD b R T K P B M F G) hPM AA_ok hS (fun H locs hPB hPM hS => ?_)
  have hPB : va_P D vwCl (wB y q b' R T K P B M') H := hPB
  refine lv_aload_n hx hb dL_law_1048 rfl (lv_at hl 2 rfl) ?_
  refine lv_aload_n hx hb dL_law_1049 rfl (lv_at hl 0 rfl) ?_
  refine lv_iload_n hx hb dL_law_1050 rfl (lv_at hl 3 rfl) ?_
  refine lv_iconst (v := 1) hx hb dL_law_1051 (by decide) ?_
  refine lv_iadd hx hb dL_law_1052 ?_
  refine va_sld hx hb hX hbl hbA hS (vIn hi hL 1 (by decide)) dL_law_1053 ?_
  refine lv_aload_n hx hb dL_law_1054 rfl (lv_at hl 0 rfl) ?_
  refine lv_iload_n hx hb dL_law_1055 rfl (lv_at hl 3 rfl) ?_
  refine lv_iconst (v := 2) hx hb dL_law_1056 (by decide) ?_
  refine lv_iadd hx hb dL_law_1057 ?_
  refine va_sld hx hb hX hbl hbA hS (vIn hi hL 2 (by decide)) dL_law_1058 ?_
  refine lv_aload_n hx hb dL_law_1059 rfl (lv_at hl 0 rfl) ?_
  refine lv_iload_n hx hb dL_law_1060 rfl (lv_at hl 3 rfl) ?_
  refine lv_iconst (v := 3) hx hb dL_law_1061 (by decide) ?_
  refine lv_iadd hx hb dL_law_1062 ?_
  refine va_sld hx hb hX hbl hbA hS (vIn hi hL 3 (by decide)) dL_law_1063 ?_
  refine lv_i2l hx hb dL_law_1064 rfl ?_
  refine lv_bipush (v := 32) hx hb dL_law_1065 (by decide) ?_
  refine lv_lshl hx hb dL_law_1067 rfl ?_
  refine lv_aload_n hx hb dL_law_1068 rfl (lv_at hl 0 rfl) ?_
  refine lv_iload_n hx hb dL_law_1069 rfl (lv_at hl 3 rfl) ?_
  refine lv_iconst (v := 4) hx hb dL_law_1070 (by decide) ?_
  refine lv_iadd hx hb dL_law_1071 ?_
  refine va_sld hx hb hX hbl hbA hS (vIn hi hL 4 (by decide)) dL_law_1072 ?_
  refine lv_i2l hx hb dL_law_1073 rfl ?_
  refine lv_ldc2 (v := 4294967295) hx hb hown (hts _ kL_law_c) dL_law_1074 ?_
  refine lv_land hx hb dL_law_1077 ?_
  refine lv_lor hx hb dL_law_1078 ?_
  refine lv_topl (fun z2 ez2 => ?_)
  obtain rfl : z1 = z2 := ez1.trans ez2.symm
  refine q_cl2 (r := r) (va_runV (As := [.int (xs (nI i + 1).toNatClampNeg), .int (xs (nI i + 2).toNatClampNeg), .long z1]) (rest := [.long r]) ⟨hx, hb, hml, hown, hts⟩ (c_X4_write l D y t q' _ 600 F G (xs (nI i + 1).toNatClampNeg) (xs (nI i + 2).toNatClampNeg) z1 (r, F', G') e2) (cwV 3 hts gL_law_X4_write rfl rfl rfl eX4_write ⟨Nat.le_of_ble_eq_true rfl, Nat.le_of_ble_eq_true rfl⟩) ⟨q_blind, va_recv hK hPM (ci := 4) (q0 := 0) rfl rfl, q_pre0 hPM hK hZ (D_right (hDD b' R T K P B M' F G)) AA_ok hS⟩ rfl rfl hl.1 rfl (lv_room (Nat.le_of_ble_eq_true rfl)) dL_law_1079 ⟨Nat.le_of_ble_eq_true rfl, Nat.le_of_ble_eq_true rfl⟩) (hDD b' R T K P B M' F G) hPB AA_ok hS (fun H locs hPB hPM hS => ?_)
  have hPM : va_P D vwCl (wM y q' F' G') H := hPM
  refine W.lcmp hx hb dL_law_1082 ?_
  exact lv_if_eq (tgt := 1325) hx hb dL_law_1083 (by decide) (fun _ => kk _ _ _ _ _ _ _ _ _ _ _ g' hPB hPM hS) (fun c9 => absurd (Eq.mpr (lg_e0 r r) rfl) c9)
set_option maxHeartbeats 4000000 in
set_option maxRecDepth 100000 in
theorem law_29 {p : Program} {l : Launch} {e : Env} {s : State} {m : MethodId} {below : List Frame} {meth : Method} {c : Code} {a0 L : Nat} {xs : Nat → Int32} {D : va_G} {y : Nat → ClassId} {t q q' : Nat → Nat} (C : LC p s m meth c a0 L xs D y t q q') {i : Nat} (hL : L ≤ 3072) (hi : i + 6 ≤ L) {b R T K P B : Nat → Nat → Int32} {M : Nat → Nat → Int64} {F : Nat → Nat → Int32} {G : Nat → Int64} (g : gRel b R K P B M F G) {H : Heap} {locs : List Loc} {ls : Array Slot} (hPB : va_P D vwCl (wB y q b R T K P B M) H) (hPM : va_P D vwCl (wM y q' F G) H) (hS : va_S (AA s) s.heap H locs) (hl : lv_has ls 4 [(0, .ref a0), (1, .ref (q 0)), (2, .ref (q' 0)), (3, .int (nI i))]) (kk : lwK p l e s m below meth c a0 D y q q' ls) : W p l e room_1 s m #[Value.ref a0] below meth c H locs 46 1380 (lw_Z below #[Value.ref a0] s) (F0 m 1088 ls []) := by
  obtain ⟨hx, hb, hr, hml, hown, hts, hX, hbl, hlocks, hK, hZ, hDD⟩ := C
  have hbA : ¬ AA s a0 := Nat.not_le.mpr hbl
  refine lv_aload_n hx hb dL_law_1088 rfl (lv_at hl 1 rfl) ?_
  refine lv_aload_n hx hb dL_law_1089 rfl (lv_at hl 0 rfl) ?_
  refine lv_iload_n hx hb dL_law_1090 rfl (lv_at hl 3 rfl) ?_
  refine lv_iconst (v := 1) hx hb dL_law_1091 (by decide) ?_
  refine lv_iadd hx hb dL_law_1092 ?_
  refine va_sld hx hb hX hbl hbA hS (vIn hi hL 1 (by decide)) dL_law_1093 ?_
  refine lv_aload_n hx hb dL_law_1094 rfl (lv_at hl 0 rfl) ?_
  refine lv_iload_n hx hb dL_law_1095 rfl (lv_at hl 3 rfl) ?_
  refine lv_iconst (v := 2) hx hb dL_law_1096 (by decide) ?_
  refine lv_iadd hx hb dL_law_1097 ?_
  refine va_sld hx hb hX hbl hbA hS (vIn hi hL 2 (by decide)) dL_law_1098 ?_
  refine lv_aload_n hx hb dL_law_1099 rfl (lv_at hl 0 rfl) ?_
  refine lv_iload_n hx hb dL_law_1100 rfl (lv_at hl 3 rfl) ?_
  refine lv_iconst (v := 3) hx hb dL_law_1101 (by decide) ?_
  refine lv_iadd hx hb dL_law_1102 ?_
  refine va_sld hx hb hX hbl hbA hS (vIn hi hL 3 (by decide)) dL_law_1103 ?_
  refine lv_aload_n hx hb dL_law_1104 rfl (lv_at hl 0 rfl) ?_
  refine lv_iload_n hx hb dL_law_1105 rfl (lv_at hl 3 rfl) ?_
  refine lv_iconst (v := 4) hx hb dL_law_1106 (by decide) ?_
  refine lv_iadd hx hb dL_law_1107 ?_
  refine va_sld hx hb hX hbl hbA hS (vIn hi hL 4 (by decide)) dL_law_1108 ?_
  refine lv_aload_n hx hb dL_law_1109 rfl (lv_at hl 0 rfl) ?_
  refine lv_iload_n hx hb dL_law_1110 rfl (lv_at hl 3 rfl) ?_
  refine lv_iconst (v := 5) hx hb dL_law_1111 (by decide) ?_
  refine lv_iadd hx hb dL_law_1112 ?_
  refine va_sld hx hb hX hbl hbA hS (vIn hi hL 5 (by decide)) dL_law_1113 ?_
  obtain ⟨r, b', M', F', G', e1, e2, g'⟩ := pr_copy (N := 600) (T := T) (p1 := (xs (nI i + 1).toNatClampNeg)) (p2 := (xs (nI i + 2).toNatClampNeg)) (p3 := (xs (nI i + 3).toNatClampNeg)) (p4 := (xs (nI i + 4).toNatClampNeg)) (p5 := (xs (nI i + 5).toNatClampNeg)) g (by decide)
  refine q_ci1 (r := r) (va_runV (As := [.int (xs (nI i + 1).toNatClampNeg), .int (xs (nI i + 2).toNatClampNeg), .int (xs (nI i + 3).toNatClampNeg), .int (xs (nI i + 4).toNatClampNeg), .int (xs (nI i + 5).toNatClampNeg)]) (rest := []) ⟨hx, hb, hml, hown, hts⟩ (c_X3_copy l D y t q _ 600 b R T K P B M (xs (nI i + 1).toNatClampNeg) (xs (nI i + 2).toNatClampNeg) (xs (nI i + 3).toNatClampNeg) (xs (nI i + 4).toNatClampNeg) (xs (nI i + 5).toNatClampNeg) (r, b', M') e1) (cwV 5 hts gL_law_X3_copy rfl rfl rfl eX3_copy ⟨Nat.le_of_ble_eq_true rfl, Nat.le_of_ble_eq_true rfl⟩) ⟨q_blind, va_recv hK hPB (ci := 3) (q0 := 0) rfl rfl, q_pre0 hPB hK hZ (D_left (hDD b R T K P B M F G)) AA_ok hS⟩ rfl rfl hl.1 rfl (lv_room (Nat.le_of_ble_eq_true rfl)) dL_law_1114 ⟨Nat.le_of_ble_eq_true rfl, Nat.le_of_ble_eq_true rfl⟩) (hDD b R T K P B M F G) hPM AA_ok hS (fun H locs hPB hPM hS => ?_)
  have hPB : va_P D vwCl (wB y q b' R T K P B M') H := hPB
  refine lv_aload_n hx hb dL_law_1117 rfl (lv_at hl 2 rfl) ?_
  refine lv_aload_n hx hb dL_law_1118 rfl (lv_at hl 0 rfl) ?_
  refine lv_iload_n hx hb dL_law_1119 rfl (lv_at hl 3 rfl) ?_
  refine lv_iconst (v := 1) hx hb dL_law_1120 (by decide) ?_
  refine lv_iadd hx hb dL_law_1121 ?_
  refine va_sld hx hb hX hbl hbA hS (vIn hi hL 1 (by decide)) dL_law_1122 ?_
  refine lv_aload_n hx hb dL_law_1123 rfl (lv_at hl 0 rfl) ?_
  refine lv_iload_n hx hb dL_law_1124 rfl (lv_at hl 3 rfl) ?_
  refine lv_iconst (v := 2) hx hb dL_law_1125 (by decide) ?_
  refine lv_iadd hx hb dL_law_1126 ?_
  refine va_sld hx hb hX hbl hbA hS (vIn hi hL 2 (by decide)) dL_law_1127 ?_
  refine lv_aload_n hx hb dL_law_1128 rfl (lv_at hl 0 rfl) ?_
  refine lv_iload_n hx hb dL_law_1129 rfl (lv_at hl 3 rfl) ?_
  refine lv_iconst (v := 3) hx hb dL_law_1130 (by decide) ?_
  refine lv_iadd hx hb dL_law_1131 ?_
  refine va_sld hx hb hX hbl hbA hS (vIn hi hL 3 (by decide)) dL_law_1132 ?_
  refine lv_aload_n hx hb dL_law_1133 rfl (lv_at hl 0 rfl) ?_
  refine lv_iload_n hx hb dL_law_1134 rfl (lv_at hl 3 rfl) ?_
  refine lv_iconst (v := 4) hx hb dL_law_1135 (by decide) ?_
  refine lv_iadd hx hb dL_law_1136 ?_
  refine va_sld hx hb hX hbl hbA hS (vIn hi hL 4 (by decide)) dL_law_1137 ?_
  refine lv_aload_n hx hb dL_law_1138 rfl (lv_at hl 0 rfl) ?_
  refine lv_iload_n hx hb dL_law_1139 rfl (lv_at hl 3 rfl) ?_
  refine lv_iconst (v := 5) hx hb dL_law_1140 (by decide) ?_
  refine lv_iadd hx hb dL_law_1141 ?_
  refine va_sld hx hb hX hbl hbA hS (vIn hi hL 5 (by decide)) dL_law_1142 ?_
  refine q_ci2 (r := r) (va_runV (As := [.int (xs (nI i + 1).toNatClampNeg), .int (xs (nI i + 2).toNatClampNeg), .int (xs (nI i + 3).toNatClampNeg), .int (xs (nI i + 4).toNatClampNeg), .int (xs (nI i + 5).toNatClampNeg)]) (rest := [.int r]) ⟨hx, hb, hml, hown, hts⟩ (c_X4_copy l D y t q' _ 600 F G (xs (nI i + 1).toNatClampNeg) (xs (nI i + 2).toNatClampNeg) (xs (nI i + 3).toNatClampNeg) (xs (nI i + 4).toNatClampNeg) (xs (nI i + 5).toNatClampNeg) (r, F', G') e2) (cwV 5 hts gL_law_X4_copy rfl rfl rfl eX4_copy ⟨Nat.le_of_ble_eq_true rfl, Nat.le_of_ble_eq_true rfl⟩) ⟨q_blind, va_recv hK hPM (ci := 4) (q0 := 0) rfl rfl, q_pre0 hPM hK hZ (D_right (hDD b' R T K P B M' F G)) AA_ok hS⟩ rfl rfl hl.1 rfl (lv_room (Nat.le_of_ble_eq_true rfl)) dL_law_1143 ⟨Nat.le_of_ble_eq_true rfl, Nat.le_of_ble_eq_true rfl⟩) (hDD b' R T K P B M' F G) hPB AA_ok hS (fun H locs hPB hPM hS => ?_)
  have hPM : va_P D vwCl (wM y q' F' G') H := hPM
  exact lv_icmp_eq (tgt := 1325) hx hb dL_law_1146 (by decide) (fun _ => kk _ _ _ _ _ _ _ _ _ _ _ g' hPB hPM hS) (fun c9 => absurd rfl c9)
set_option maxHeartbeats 4000000 in
set_option maxRecDepth 100000 in
theorem law_30 {p : Program} {l : Launch} {e : Env} {s : State} {m : MethodId} {below : List Frame} {meth : Method} {c : Code} {a0 L : Nat} {xs : Nat → Int32} {D : va_G} {y : Nat → ClassId} {t q q' : Nat → Nat} (C : LC p s m meth c a0 L xs D y t q q') {i : Nat} (hL : L ≤ 3072) (hi : i + 6 ≤ L) {b R T K P B : Nat → Nat → Int32} {M : Nat → Nat → Int64} {F : Nat → Nat → Int32} {G : Nat → Int64} (g : gRel b R K P B M F G) {H : Heap} {locs : List Loc} {ls : Array Slot} (hPB : va_P D vwCl (wB y q b R T K P B M) H) (hPM : va_P D vwCl (wM y q' F G) H) (hS : va_S (AA s) s.heap H locs) (hl : lv_has ls 4 [(0, .ref a0), (1, .ref (q 0)), (2, .ref (q' 0)), (3, .int (nI i))]) (kk : lwK p l e s m below meth c a0 D y q q' ls) : W p l e room_1 s m #[Value.ref a0] below meth c H locs 46 1380 (lw_Z below #[Value.ref a0] s) (F0 m 1151 ls []) := by
  obtain ⟨hx, hb, hr, hml, hown, hts, hX, hbl, hlocks, hK, hZ, hDD⟩ := C
  have hbA : ¬ AA s a0 := Nat.not_le.mpr hbl
  refine lv_aload_n hx hb dL_law_1151 rfl (lv_at hl 1 rfl) ?_
  refine lv_aload_n hx hb dL_law_1152 rfl (lv_at hl 0 rfl) ?_
  refine lv_iload_n hx hb dL_law_1153 rfl (lv_at hl 3 rfl) ?_
  refine lv_iconst (v := 1) hx hb dL_law_1154 (by decide) ?_
  refine lv_iadd hx hb dL_law_1155 ?_
  refine va_sld hx hb hX hbl hbA hS (vIn hi hL 1 (by decide)) dL_law_1156 ?_
  obtain ⟨r, b', R', F', e1, e2, g'⟩ := pr_lays (N := 600) (T := T) (p1 := (xs (nI i + 1).toNatClampNeg)) g (by decide)
  refine q_ci1 (r := r) (va_runV (As := [.int (xs (nI i + 1).toNatClampNeg)]) (rest := []) ⟨hx, hb, hml, hown, hts⟩ (c_X3_lays l D y t q _ 600 b R T K P B M (xs (nI i + 1).toNatClampNeg) (r, b', R') e1) (cwV 1 hts gL_law_X3_lays rfl rfl rfl eX3_lays ⟨Nat.le_of_ble_eq_true rfl, Nat.le_of_ble_eq_true rfl⟩) ⟨q_blind, va_recv hK hPB (ci := 3) (q0 := 0) rfl rfl, q_pre0 hPB hK hZ (D_left (hDD b R T K P B M F G)) AA_ok hS⟩ rfl rfl hl.1 rfl (lv_room (Nat.le_of_ble_eq_true rfl)) dL_law_1157 ⟨Nat.le_of_ble_eq_true rfl, Nat.le_of_ble_eq_true rfl⟩) (hDD b R T K P B M F G) hPM AA_ok hS (fun H locs hPB hPM hS => ?_)
  have hPB : va_P D vwCl (wB y q b' R' T K P B M) H := hPB
  refine lv_aload_n hx hb dL_law_1160 rfl (lv_at hl 2 rfl) ?_
  refine lv_aload_n hx hb dL_law_1161 rfl (lv_at hl 0 rfl) ?_
  refine lv_iload_n hx hb dL_law_1162 rfl (lv_at hl 3 rfl) ?_
  refine lv_iconst (v := 1) hx hb dL_law_1163 (by decide) ?_
  refine lv_iadd hx hb dL_law_1164 ?_
  refine va_sld hx hb hX hbl hbA hS (vIn hi hL 1 (by decide)) dL_law_1165 ?_
  refine q_ci2 (r := r) (va_runV (As := [.int (xs (nI i + 1).toNatClampNeg)]) (rest := [.int r]) ⟨hx, hb, hml, hown, hts⟩ (c_X4_lays l D y t q' _ 600 F G (xs (nI i + 1).toNatClampNeg) (r, F') e2) (cwV 1 hts gL_law_X4_lays rfl rfl rfl eX4_lays ⟨Nat.le_of_ble_eq_true rfl, Nat.le_of_ble_eq_true rfl⟩) ⟨q_blind, va_recv hK hPM (ci := 4) (q0 := 0) rfl rfl, q_pre0 hPM hK hZ (D_right (hDD b' R' T K P B M F G)) AA_ok hS⟩ rfl rfl hl.1 rfl (lv_room (Nat.le_of_ble_eq_true rfl)) dL_law_1166 ⟨Nat.le_of_ble_eq_true rfl, Nat.le_of_ble_eq_true rfl⟩) (hDD b' R' T K P B M F G) hPB AA_ok hS (fun H locs hPB hPM hS => ?_)
  have hPM : va_P D vwCl (wM y q' F' G) H := hPM
  exact lv_icmp_eq (tgt := 1325) hx hb dL_law_1169 (by decide) (fun _ => kk _ _ _ _ _ _ _ _ _ _ _ g' hPB hPM hS) (fun c9 => absurd rfl c9)
set_option maxHeartbeats 4000000 in
set_option maxRecDepth 100000 in
theorem law_31 {p : Program} {l : Launch} {e : Env} {s : State} {m : MethodId} {below : List Frame} {meth : Method} {c : Code} {a0 L : Nat} {xs : Nat → Int32} {D : va_G} {y : Nat → ClassId} {t q q' : Nat → Nat} (C : LC p s m meth c a0 L xs D y t q q') {i : Nat} (hL : L ≤ 3072) (hi : i + 6 ≤ L) {b R T K P B : Nat → Nat → Int32} {M : Nat → Nat → Int64} {F : Nat → Nat → Int32} {G : Nat → Int64} (g : gRel b R K P B M F G) {H : Heap} {locs : List Loc} {ls : Array Slot} (hPB : va_P D vwCl (wB y q b R T K P B M) H) (hPM : va_P D vwCl (wM y q' F G) H) (hS : va_S (AA s) s.heap H locs) (hl : lv_has ls 4 [(0, .ref a0), (1, .ref (q 0)), (2, .ref (q' 0)), (3, .int (nI i))]) (kk : lwK p l e s m below meth c a0 D y q q' ls) : W p l e room_1 s m #[Value.ref a0] below meth c H locs 46 1380 (lw_Z below #[Value.ref a0] s) (F0 m 1174 ls []) := by
  obtain ⟨hx, hb, hr, hml, hown, hts, hX, hbl, hlocks, hK, hZ, hDD⟩ := C
  have hbA : ¬ AA s a0 := Nat.not_le.mpr hbl
  refine lv_aload_n hx hb dL_law_1174 rfl (lv_at hl 1 rfl) ?_
  refine lv_aload_n hx hb dL_law_1175 rfl (lv_at hl 0 rfl) ?_
  refine lv_iload_n hx hb dL_law_1176 rfl (lv_at hl 3 rfl) ?_
  refine lv_iconst (v := 1) hx hb dL_law_1177 (by decide) ?_
  refine lv_iadd hx hb dL_law_1178 ?_
  refine va_sld hx hb hX hbl hbA hS (vIn hi hL 1 (by decide)) dL_law_1179 ?_
  refine lv_aload_n hx hb dL_law_1180 rfl (lv_at hl 0 rfl) ?_
  refine lv_iload_n hx hb dL_law_1181 rfl (lv_at hl 3 rfl) ?_
  refine lv_iconst (v := 2) hx hb dL_law_1182 (by decide) ?_
  refine lv_iadd hx hb dL_law_1183 ?_
  refine va_sld hx hb hX hbl hbA hS (vIn hi hL 2 (by decide)) dL_law_1184 ?_
  obtain ⟨r, b', T', M', F', G', e1, e2, g'⟩ := pr_book (N := 600) (T := T) (p1 := (xs (nI i + 1).toNatClampNeg)) (p2 := (xs (nI i + 2).toNatClampNeg)) g (by decide)
  refine q_ci1 (r := r) (va_runV (As := [.int (xs (nI i + 1).toNatClampNeg), .int (xs (nI i + 2).toNatClampNeg)]) (rest := []) ⟨hx, hb, hml, hown, hts⟩ (c_X3_book l D y t q _ 600 b R T K P B M (xs (nI i + 1).toNatClampNeg) (xs (nI i + 2).toNatClampNeg) (r, b', T', M') e1) (cwV 2 hts gL_law_X3_book rfl rfl rfl eX3_book ⟨Nat.le_of_ble_eq_true rfl, Nat.le_of_ble_eq_true rfl⟩) ⟨q_blind, va_recv hK hPB (ci := 3) (q0 := 0) rfl rfl, q_pre0 hPB hK hZ (D_left (hDD b R T K P B M F G)) AA_ok hS⟩ rfl rfl hl.1 rfl (lv_room (Nat.le_of_ble_eq_true rfl)) dL_law_1185 ⟨Nat.le_of_ble_eq_true rfl, Nat.le_of_ble_eq_true rfl⟩) (hDD b R T K P B M F G) hPM AA_ok hS (fun H locs hPB hPM hS => ?_)
  have hPB : va_P D vwCl (wB y q b' R T' K P B M') H := hPB
  refine lv_aload_n hx hb dL_law_1188 rfl (lv_at hl 2 rfl) ?_
  refine lv_aload_n hx hb dL_law_1189 rfl (lv_at hl 0 rfl) ?_
  refine lv_iload_n hx hb dL_law_1190 rfl (lv_at hl 3 rfl) ?_
  refine lv_iconst (v := 1) hx hb dL_law_1191 (by decide) ?_
  refine lv_iadd hx hb dL_law_1192 ?_
  refine va_sld hx hb hX hbl hbA hS (vIn hi hL 1 (by decide)) dL_law_1193 ?_
  refine lv_aload_n hx hb dL_law_1194 rfl (lv_at hl 0 rfl) ?_
  refine lv_iload_n hx hb dL_law_1195 rfl (lv_at hl 3 rfl) ?_
  refine lv_iconst (v := 2) hx hb dL_law_1196 (by decide) ?_
  refine lv_iadd hx hb dL_law_1197 ?_
  refine va_sld hx hb hX hbl hbA hS (vIn hi hL 2 (by decide)) dL_law_1198 ?_
  refine q_ci2 (r := r) (va_runV (As := [.int (xs (nI i + 1).toNatClampNeg), .int (xs (nI i + 2).toNatClampNeg)]) (rest := [.int r]) ⟨hx, hb, hml, hown, hts⟩ (c_X4_book l D y t q' _ 600 F G (xs (nI i + 1).toNatClampNeg) (xs (nI i + 2).toNatClampNeg) (r, F', G') e2) (cwV 2 hts gL_law_X4_book rfl rfl rfl eX4_book ⟨Nat.le_of_ble_eq_true rfl, Nat.le_of_ble_eq_true rfl⟩) ⟨q_blind, va_recv hK hPM (ci := 4) (q0 := 0) rfl rfl, q_pre0 hPM hK hZ (D_right (hDD b' R T' K P B M' F G)) AA_ok hS⟩ rfl rfl hl.1 rfl (lv_room (Nat.le_of_ble_eq_true rfl)) dL_law_1199 ⟨Nat.le_of_ble_eq_true rfl, Nat.le_of_ble_eq_true rfl⟩) (hDD b' R T' K P B M' F G) hPB AA_ok hS (fun H locs hPB hPM hS => ?_)
  have hPM : va_P D vwCl (wM y q' F' G') H := hPM
  exact lv_icmp_eq (tgt := 1325) hx hb dL_law_1202 (by decide) (fun _ => kk _ _ _ _ _ _ _ _ _ _ _ g' hPB hPM hS) (fun c9 => absurd rfl c9)
set_option maxHeartbeats 4000000 in
set_option maxRecDepth 100000 in
theorem law_32 {p : Program} {l : Launch} {e : Env} {s : State} {m : MethodId} {below : List Frame} {meth : Method} {c : Code} {a0 L : Nat} {xs : Nat → Int32} {D : va_G} {y : Nat → ClassId} {t q q' : Nat → Nat} (C : LC p s m meth c a0 L xs D y t q q') {i : Nat} (hL : L ≤ 3072) (hi : i + 6 ≤ L) {b R T K P B : Nat → Nat → Int32} {M : Nat → Nat → Int64} {F : Nat → Nat → Int32} {G : Nat → Int64} (g : gRel b R K P B M F G) {H : Heap} {locs : List Loc} {ls : Array Slot} (hPB : va_P D vwCl (wB y q b R T K P B M) H) (hPM : va_P D vwCl (wM y q' F G) H) (hS : va_S (AA s) s.heap H locs) (hl : lv_has ls 4 [(0, .ref a0), (1, .ref (q 0)), (2, .ref (q' 0)), (3, .int (nI i))]) (kk : lwK p l e s m below meth c a0 D y q q' ls) : W p l e room_1 s m #[Value.ref a0] below meth c H locs 46 1380 (lw_Z below #[Value.ref a0] s) (F0 m 1207 ls []) := by
  obtain ⟨hx, hb, hr, hml, hown, hts, hX, hbl, hlocks, hK, hZ, hDD⟩ := C
  have hbA : ¬ AA s a0 := Nat.not_le.mpr hbl
  refine lv_aload_n hx hb dL_law_1207 rfl (lv_at hl 1 rfl) ?_
  refine lv_aload_n hx hb dL_law_1208 rfl (lv_at hl 0 rfl) ?_
  refine lv_iload_n hx hb dL_law_1209 rfl (lv_at hl 3 rfl) ?_
  refine lv_iconst (v := 1) hx hb dL_law_1210 (by decide) ?_
  refine lv_iadd hx hb dL_law_1211 ?_
  refine va_sld hx hb hX hbl hbA hS (vIn hi hL 1 (by decide)) dL_law_1212 ?_
  refine lv_aload_n hx hb dL_law_1213 rfl (lv_at hl 0 rfl) ?_
  refine lv_iload_n hx hb dL_law_1214 rfl (lv_at hl 3 rfl) ?_
  refine lv_iconst (v := 2) hx hb dL_law_1215 (by decide) ?_
  refine lv_iadd hx hb dL_law_1216 ?_
  refine va_sld hx hb hX hbl hbA hS (vIn hi hL 2 (by decide)) dL_law_1217 ?_
  obtain ⟨r, b', T', F', e1, e2, g'⟩ := pr_read (N := 600) (T := T) (p1 := (xs (nI i + 1).toNatClampNeg)) (p2 := (xs (nI i + 2).toNatClampNeg)) g (by decide)
  refine q_ci1 (r := r) (va_runV (As := [.int (xs (nI i + 1).toNatClampNeg), .int (xs (nI i + 2).toNatClampNeg)]) (rest := []) ⟨hx, hb, hml, hown, hts⟩ (c_X3_read l D y t q _ 600 b R T K P B M (xs (nI i + 1).toNatClampNeg) (xs (nI i + 2).toNatClampNeg) (r, b', T') e1) (cwV 2 hts gL_law_X3_read rfl rfl rfl eX3_read ⟨Nat.le_of_ble_eq_true rfl, Nat.le_of_ble_eq_true rfl⟩) ⟨q_blind, va_recv hK hPB (ci := 3) (q0 := 0) rfl rfl, q_pre0 hPB hK hZ (D_left (hDD b R T K P B M F G)) AA_ok hS⟩ rfl rfl hl.1 rfl (lv_room (Nat.le_of_ble_eq_true rfl)) dL_law_1218 ⟨Nat.le_of_ble_eq_true rfl, Nat.le_of_ble_eq_true rfl⟩) (hDD b R T K P B M F G) hPM AA_ok hS (fun H locs hPB hPM hS => ?_)
  have hPB : va_P D vwCl (wB y q b' R T' K P B M) H := hPB
  refine lv_aload_n hx hb dL_law_1221 rfl (lv_at hl 2 rfl) ?_
  refine lv_aload_n hx hb dL_law_1222 rfl (lv_at hl 0 rfl) ?_
  refine lv_iload_n hx hb dL_law_1223 rfl (lv_at hl 3 rfl) ?_
  refine lv_iconst (v := 1) hx hb dL_law_1224 (by decide) ?_
  refine lv_iadd hx hb dL_law_1225 ?_
  refine va_sld hx hb hX hbl hbA hS (vIn hi hL 1 (by decide)) dL_law_1226 ?_
  refine lv_aload_n hx hb dL_law_1227 rfl (lv_at hl 0 rfl) ?_
  refine lv_iload_n hx hb dL_law_1228 rfl (lv_at hl 3 rfl) ?_
  refine lv_iconst (v := 2) hx hb dL_law_1229 (by decide) ?_
  refine lv_iadd hx hb dL_law_1230 ?_
  refine va_sld hx hb hX hbl hbA hS (vIn hi hL 2 (by decide)) dL_law_1231 ?_
  refine q_ci2 (r := r) (va_runV (As := [.int (xs (nI i + 1).toNatClampNeg), .int (xs (nI i + 2).toNatClampNeg)]) (rest := [.int r]) ⟨hx, hb, hml, hown, hts⟩ (c_X4_read l D y t q' _ 600 F G (xs (nI i + 1).toNatClampNeg) (xs (nI i + 2).toNatClampNeg) (r, F') e2) (cwV 2 hts gL_law_X4_read rfl rfl rfl eX4_read ⟨Nat.le_of_ble_eq_true rfl, Nat.le_of_ble_eq_true rfl⟩) ⟨q_blind, va_recv hK hPM (ci := 4) (q0 := 0) rfl rfl, q_pre0 hPM hK hZ (D_right (hDD b' R T' K P B M F G)) AA_ok hS⟩ rfl rfl hl.1 rfl (lv_room (Nat.le_of_ble_eq_true rfl)) dL_law_1232 ⟨Nat.le_of_ble_eq_true rfl, Nat.le_of_ble_eq_true rfl⟩) (hDD b' R T' K P B M F G) hPB AA_ok hS (fun H locs hPB hPM hS => ?_)
  have hPM : va_P D vwCl (wM y q' F' G) H := hPM
  exact lv_icmp_eq (tgt := 1325) hx hb dL_law_1235 (by decide) (fun _ => kk _ _ _ _ _ _ _ _ _ _ _ g' hPB hPM hS) (fun c9 => absurd rfl c9)
set_option maxHeartbeats 4000000 in
set_option maxRecDepth 100000 in
theorem law_33 {p : Program} {l : Launch} {e : Env} {s : State} {m : MethodId} {below : List Frame} {meth : Method} {c : Code} {a0 L : Nat} {xs : Nat → Int32} {D : va_G} {y : Nat → ClassId} {t q q' : Nat → Nat} (C : LC p s m meth c a0 L xs D y t q q') {i : Nat} (hL : L ≤ 3072) (hi : i + 6 ≤ L) {b R T K P B : Nat → Nat → Int32} {M : Nat → Nat → Int64} {F : Nat → Nat → Int32} {G : Nat → Int64} (g : gRel b R K P B M F G) {H : Heap} {locs : List Loc} {ls : Array Slot} (hPB : va_P D vwCl (wB y q b R T K P B M) H) (hPM : va_P D vwCl (wM y q' F G) H) (hS : va_S (AA s) s.heap H locs) (hl : lv_has ls 4 [(0, .ref a0), (1, .ref (q 0)), (2, .ref (q' 0)), (3, .int (nI i))]) (kk : lwK p l e s m below meth c a0 D y q q' ls) : W p l e room_1 s m #[Value.ref a0] below meth c H locs 46 1380 (lw_Z below #[Value.ref a0] s) (F0 m 1240 ls []) := by
  obtain ⟨hx, hb, hr, hml, hown, hts, hX, hbl, hlocks, hK, hZ, hDD⟩ := C
  have hbA : ¬ AA s a0 := Nat.not_le.mpr hbl
  refine lv_aload_n hx hb dL_law_1240 rfl (lv_at hl 1 rfl) ?_
  obtain ⟨r, b', K', F', e1, e2, g'⟩ := pr_image (N := 600) (T := T)  g (by decide)
  refine q_ci1 (r := r) (va_runV (As := []) (rest := []) ⟨hx, hb, hml, hown, hts⟩ (c_X3_image l D y t q _ 600 b R T K P B M  (r, b', K') e1) (cwV 0 hts gL_law_X3_image rfl rfl rfl eX3_image ⟨Nat.le_of_ble_eq_true rfl, Nat.le_of_ble_eq_true rfl⟩) ⟨q_blind, va_recv hK hPB (ci := 3) (q0 := 0) rfl rfl, q_pre0 hPB hK hZ (D_left (hDD b R T K P B M F G)) AA_ok hS⟩ rfl rfl hl.1 rfl (lv_room (Nat.le_of_ble_eq_true rfl)) dL_law_1241 ⟨Nat.le_of_ble_eq_true rfl, Nat.le_of_ble_eq_true rfl⟩) (hDD b R T K P B M F G) hPM AA_ok hS (fun H locs hPB hPM hS => ?_)
  have hPB : va_P D vwCl (wB y q b' R T K' P B M) H := hPB
  refine lv_aload_n hx hb dL_law_1244 rfl (lv_at hl 2 rfl) ?_
  refine q_ci2 (r := r) (va_runV (As := []) (rest := [.int r]) ⟨hx, hb, hml, hown, hts⟩ (c_X4_image l D y t q' _ 600 F G  (r, F') e2) (cwV 0 hts gL_law_X4_image rfl rfl rfl eX4_image ⟨Nat.le_of_ble_eq_true rfl, Nat.le_of_ble_eq_true rfl⟩) ⟨q_blind, va_recv hK hPM (ci := 4) (q0 := 0) rfl rfl, q_pre0 hPM hK hZ (D_right (hDD b' R T K' P B M F G)) AA_ok hS⟩ rfl rfl hl.1 rfl (lv_room (Nat.le_of_ble_eq_true rfl)) dL_law_1245 ⟨Nat.le_of_ble_eq_true rfl, Nat.le_of_ble_eq_true rfl⟩) (hDD b' R T K' P B M F G) hPB AA_ok hS (fun H locs hPB hPM hS => ?_)
  have hPM : va_P D vwCl (wM y q' F' G) H := hPM
  exact lv_icmp_eq (tgt := 1325) hx hb dL_law_1248 (by decide) (fun _ => kk _ _ _ _ _ _ _ _ _ _ _ g' hPB hPM hS) (fun c9 => absurd rfl c9)
set_option maxHeartbeats 4000000 in
set_option maxRecDepth 100000 in
theorem law_34 {p : Program} {l : Launch} {e : Env} {s : State} {m : MethodId} {below : List Frame} {meth : Method} {c : Code} {a0 L : Nat} {xs : Nat → Int32} {D : va_G} {y : Nat → ClassId} {t q q' : Nat → Nat} (C : LC p s m meth c a0 L xs D y t q q') {i : Nat} (hL : L ≤ 3072) (hi : i + 6 ≤ L) {b R T K P B : Nat → Nat → Int32} {M : Nat → Nat → Int64} {F : Nat → Nat → Int32} {G : Nat → Int64} (g : gRel b R K P B M F G) {H : Heap} {locs : List Loc} {ls : Array Slot} (hPB : va_P D vwCl (wB y q b R T K P B M) H) (hPM : va_P D vwCl (wM y q' F G) H) (hS : va_S (AA s) s.heap H locs) (hl : lv_has ls 4 [(0, .ref a0), (1, .ref (q 0)), (2, .ref (q' 0)), (3, .int (nI i))]) (kk : lwK p l e s m below meth c a0 D y q q' ls) : W p l e room_1 s m #[Value.ref a0] below meth c H locs 46 1380 (lw_Z below #[Value.ref a0] s) (F0 m 1253 ls []) := by
  obtain ⟨hx, hb, hr, hml, hown, hts, hX, hbl, hlocks, hK, hZ, hDD⟩ := C
  have hbA : ¬ AA s a0 := Nat.not_le.mpr hbl
  refine lv_aload_n hx hb dL_law_1253 rfl (lv_at hl 1 rfl) ?_
  obtain ⟨r, b', R', F', e1, e2, g'⟩ := pr_undo (N := 600) (T := T)  g (by decide)
  refine q_ci1 (r := r) (va_runV (As := []) (rest := []) ⟨hx, hb, hml, hown, hts⟩ (c_X3_undo l D y t q _ 600 b R T K P B M  (r, b', R') e1) (cwV 0 hts gL_law_X3_undo rfl rfl rfl eX3_undo ⟨Nat.le_of_ble_eq_true rfl, Nat.le_of_ble_eq_true rfl⟩) ⟨q_blind, va_recv hK hPB (ci := 3) (q0 := 0) rfl rfl, q_pre0 hPB hK hZ (D_left (hDD b R T K P B M F G)) AA_ok hS⟩ rfl rfl hl.1 rfl (lv_room (Nat.le_of_ble_eq_true rfl)) dL_law_1254 ⟨Nat.le_of_ble_eq_true rfl, Nat.le_of_ble_eq_true rfl⟩) (hDD b R T K P B M F G) hPM AA_ok hS (fun H locs hPB hPM hS => ?_)
  have hPB : va_P D vwCl (wB y q b' R' T K P B M) H := hPB
  refine lv_aload_n hx hb dL_law_1257 rfl (lv_at hl 2 rfl) ?_
  refine q_ci2 (r := r) (va_runV (As := []) (rest := [.int r]) ⟨hx, hb, hml, hown, hts⟩ (c_X4_undo l D y t q' _ 600 F G  (r, F') e2) (cwV 0 hts gL_law_X4_undo rfl rfl rfl eX4_undo ⟨Nat.le_of_ble_eq_true rfl, Nat.le_of_ble_eq_true rfl⟩) ⟨q_blind, va_recv hK hPM (ci := 4) (q0 := 0) rfl rfl, q_pre0 hPM hK hZ (D_right (hDD b' R' T K P B M F G)) AA_ok hS⟩ rfl rfl hl.1 rfl (lv_room (Nat.le_of_ble_eq_true rfl)) dL_law_1258 ⟨Nat.le_of_ble_eq_true rfl, Nat.le_of_ble_eq_true rfl⟩) (hDD b' R' T K P B M F G) hPB AA_ok hS (fun H locs hPB hPM hS => ?_)
  have hPM : va_P D vwCl (wM y q' F' G) H := hPM
  exact lv_icmp_eq (tgt := 1325) hx hb dL_law_1261 (by decide) (fun _ => kk _ _ _ _ _ _ _ _ _ _ _ g' hPB hPM hS) (fun c9 => absurd rfl c9)
set_option maxHeartbeats 4000000 in
set_option maxRecDepth 100000 in
theorem law_35 {p : Program} {l : Launch} {e : Env} {s : State} {m : MethodId} {below : List Frame} {meth : Method} {c : Code} {a0 L : Nat} {xs : Nat → Int32} {D : va_G} {y : Nat → ClassId} {t q q' : Nat → Nat} (C : LC p s m meth c a0 L xs D y t q q') {i : Nat} (hL : L ≤ 3072) (hi : i + 6 ≤ L) {b R T K P B : Nat → Nat → Int32} {M : Nat → Nat → Int64} {F : Nat → Nat → Int32} {G : Nat → Int64} (g : gRel b R K P B M F G) {H : Heap} {locs : List Loc} {ls : Array Slot} (hPB : va_P D vwCl (wB y q b R T K P B M) H) (hPM : va_P D vwCl (wM y q' F G) H) (hS : va_S (AA s) s.heap H locs) (hl : lv_has ls 4 [(0, .ref a0), (1, .ref (q 0)), (2, .ref (q' 0)), (3, .int (nI i))]) (kk : lwK p l e s m below meth c a0 D y q q' ls) : W p l e room_1 s m #[Value.ref a0] below meth c H locs 46 1380 (lw_Z below #[Value.ref a0] s) (F0 m 1266 ls []) := by
  obtain ⟨hx, hb, hr, hml, hown, hts, hX, hbl, hlocks, hK, hZ, hDD⟩ := C
  have hbA : ¬ AA s a0 := Nat.not_le.mpr hbl
  refine lv_aload_n hx hb dL_law_1266 rfl (lv_at hl 1 rfl) ?_
  obtain ⟨r, b', F', e1, e2, g'⟩ := pr_tear (N := 600) (T := T)  g
  refine q_ci1 (r := r) (va_runV (As := []) (rest := []) ⟨hx, hb, hml, hown, hts⟩ (c_X3_tear l D y t q _ 600 b R T K P B M  (r, b') e1) (cwV 0 hts gL_law_X3_tear rfl rfl rfl eX3_tear ⟨Nat.le_of_ble_eq_true rfl, Nat.le_of_ble_eq_true rfl⟩) ⟨q_blind, va_recv hK hPB (ci := 3) (q0 := 0) rfl rfl, q_pre0 hPB hK hZ (D_left (hDD b R T K P B M F G)) AA_ok hS⟩ rfl rfl hl.1 rfl (lv_room (Nat.le_of_ble_eq_true rfl)) dL_law_1267 ⟨Nat.le_of_ble_eq_true rfl, Nat.le_of_ble_eq_true rfl⟩) (hDD b R T K P B M F G) hPM AA_ok hS (fun H locs hPB hPM hS => ?_)
  have hPB : va_P D vwCl (wB y q b' R T K P B M) H := hPB
  refine lv_aload_n hx hb dL_law_1270 rfl (lv_at hl 2 rfl) ?_
  refine q_ci2 (r := r) (va_runV (As := []) (rest := [.int r]) ⟨hx, hb, hml, hown, hts⟩ (c_X4_tear l D y t q' _ 600 F G  (r, F') e2) (cwV 0 hts gL_law_X4_tear rfl rfl rfl eX4_tear ⟨Nat.le_of_ble_eq_true rfl, Nat.le_of_ble_eq_true rfl⟩) ⟨q_blind, va_recv hK hPM (ci := 4) (q0 := 0) rfl rfl, q_pre0 hPM hK hZ (D_right (hDD b' R T K P B M F G)) AA_ok hS⟩ rfl rfl hl.1 rfl (lv_room (Nat.le_of_ble_eq_true rfl)) dL_law_1271 ⟨Nat.le_of_ble_eq_true rfl, Nat.le_of_ble_eq_true rfl⟩) (hDD b' R T K P B M F G) hPB AA_ok hS (fun H locs hPB hPM hS => ?_)
  have hPM : va_P D vwCl (wM y q' F' G) H := hPM
  exact lv_icmp_eq (tgt := 1325) hx hb dL_law_1274 (by decide) (fun _ => kk _ _ _ _ _ _ _ _ _ _ _ g' hPB hPM hS) (fun c9 => absurd rfl c9)
set_option maxHeartbeats 4000000 in
set_option maxRecDepth 100000 in
theorem law_36 {p : Program} {l : Launch} {e : Env} {s : State} {m : MethodId} {below : List Frame} {meth : Method} {c : Code} {a0 L : Nat} {xs : Nat → Int32} {D : va_G} {y : Nat → ClassId} {t q q' : Nat → Nat} (C : LC p s m meth c a0 L xs D y t q q') {i : Nat} (hL : L ≤ 3072) (hi : i + 6 ≤ L) {b R T K P B : Nat → Nat → Int32} {M : Nat → Nat → Int64} {F : Nat → Nat → Int32} {G : Nat → Int64} (g : gRel b R K P B M F G) {H : Heap} {locs : List Loc} {ls : Array Slot} (hPB : va_P D vwCl (wB y q b R T K P B M) H) (hPM : va_P D vwCl (wM y q' F G) H) (hS : va_S (AA s) s.heap H locs) (hl : lv_has ls 4 [(0, .ref a0), (1, .ref (q 0)), (2, .ref (q' 0)), (3, .int (nI i))]) (kk : lwK p l e s m below meth c a0 D y q q' ls) : W p l e room_1 s m #[Value.ref a0] below meth c H locs 46 1380 (lw_Z below #[Value.ref a0] s) (F0 m 1279 ls []) := by
  obtain ⟨hx, hb, hr, hml, hown, hts, hX, hbl, hlocks, hK, hZ, hDD⟩ := C
  have hbA : ¬ AA s a0 := Nat.not_le.mpr hbl
  refine lv_aload_n hx hb dL_law_1279 rfl (lv_at hl 1 rfl) ?_
  refine lv_aload_n hx hb dL_law_1280 rfl (lv_at hl 0 rfl) ?_
  refine lv_iload_n hx hb dL_law_1281 rfl (lv_at hl 3 rfl) ?_
  refine lv_iconst (v := 1) hx hb dL_law_1282 (by decide) ?_
  refine lv_iadd hx hb dL_law_1283 ?_
  refine va_sld hx hb hX hbl hbA hS (vIn hi hL 1 (by decide)) dL_law_1284 ?_
  obtain ⟨r, b', F', e1, e2, g'⟩ := pr_count (N := 600) (T := T) (p1 := (xs (nI i + 1).toNatClampNeg)) g (by decide)
  refine q_ci1 (r := r) (va_runV (As := [.int (xs (nI i + 1).toNatClampNeg)]) (rest := []) ⟨hx, hb, hml, hown, hts⟩ (c_X3_count l D y t q _ 600 b R T K P B M (xs (nI i + 1).toNatClampNeg) (r, b') e1) (cwV 1 hts gL_law_X3_count rfl rfl rfl eX3_count ⟨Nat.le_of_ble_eq_true rfl, Nat.le_of_ble_eq_true rfl⟩) ⟨q_blind, va_recv hK hPB (ci := 3) (q0 := 0) rfl rfl, q_pre0 hPB hK hZ (D_left (hDD b R T K P B M F G)) AA_ok hS⟩ rfl rfl hl.1 rfl (lv_room (Nat.le_of_ble_eq_true rfl)) dL_law_1285 ⟨Nat.le_of_ble_eq_true rfl, Nat.le_of_ble_eq_true rfl⟩) (hDD b R T K P B M F G) hPM AA_ok hS (fun H locs hPB hPM hS => ?_)
  have hPB : va_P D vwCl (wB y q b' R T K P B M) H := hPB
  refine lv_aload_n hx hb dL_law_1288 rfl (lv_at hl 2 rfl) ?_
  refine lv_aload_n hx hb dL_law_1289 rfl (lv_at hl 0 rfl) ?_
  refine lv_iload_n hx hb dL_law_1290 rfl (lv_at hl 3 rfl) ?_
  refine lv_iconst (v := 1) hx hb dL_law_1291 (by decide) ?_
  refine lv_iadd hx hb dL_law_1292 ?_
  refine va_sld hx hb hX hbl hbA hS (vIn hi hL 1 (by decide)) dL_law_1293 ?_
  refine q_ci2 (r := r) (va_runV (As := [.int (xs (nI i + 1).toNatClampNeg)]) (rest := [.int r]) ⟨hx, hb, hml, hown, hts⟩ (c_X4_count l D y t q' _ 600 F G (xs (nI i + 1).toNatClampNeg) (r, F') e2) (cwV 1 hts gL_law_X4_count rfl rfl rfl eX4_count ⟨Nat.le_of_ble_eq_true rfl, Nat.le_of_ble_eq_true rfl⟩) ⟨q_blind, va_recv hK hPM (ci := 4) (q0 := 0) rfl rfl, q_pre0 hPM hK hZ (D_right (hDD b' R T K P B M F G)) AA_ok hS⟩ rfl rfl hl.1 rfl (lv_room (Nat.le_of_ble_eq_true rfl)) dL_law_1294 ⟨Nat.le_of_ble_eq_true rfl, Nat.le_of_ble_eq_true rfl⟩) (hDD b' R T K P B M F G) hPB AA_ok hS (fun H locs hPB hPM hS => ?_)
  have hPM : va_P D vwCl (wM y q' F' G) H := hPM
  exact lv_icmp_eq (tgt := 1325) hx hb dL_law_1297 (by decide) (fun _ => kk _ _ _ _ _ _ _ _ _ _ _ g' hPB hPM hS) (fun c9 => absurd rfl c9)
set_option maxHeartbeats 4000000 in
set_option maxRecDepth 100000 in
theorem law_37 {p : Program} {l : Launch} {e : Env} {s : State} {m : MethodId} {below : List Frame} {meth : Method} {c : Code} {a0 L : Nat} {xs : Nat → Int32} {D : va_G} {y : Nat → ClassId} {t q q' : Nat → Nat} (C : LC p s m meth c a0 L xs D y t q q') {i : Nat} (hL : L ≤ 3072) (hi : i + 6 ≤ L) {b R T K P B : Nat → Nat → Int32} {M : Nat → Nat → Int64} {F : Nat → Nat → Int32} {G : Nat → Int64} (g : gRel b R K P B M F G) {H : Heap} {locs : List Loc} {ls : Array Slot} (hPB : va_P D vwCl (wB y q b R T K P B M) H) (hPM : va_P D vwCl (wM y q' F G) H) (hS : va_S (AA s) s.heap H locs) (hl : lv_has ls 4 [(0, .ref a0), (1, .ref (q 0)), (2, .ref (q' 0)), (3, .int (nI i))]) (kk : lwK p l e s m below meth c a0 D y q q' ls) : W p l e room_1 s m #[Value.ref a0] below meth c H locs 46 1380 (lw_Z below #[Value.ref a0] s) (F0 m 1302 ls []) := by
  obtain ⟨hx, hb, hr, hml, hown, hts, hX, hbl, hlocks, hK, hZ, hDD⟩ := C
  have hbA : ¬ AA s a0 := Nat.not_le.mpr hbl
  refine lv_aload_n hx hb dL_law_1302 rfl (lv_at hl 1 rfl) ?_
  refine lv_aload_n hx hb dL_law_1303 rfl (lv_at hl 0 rfl) ?_
  refine lv_iload_n hx hb dL_law_1304 rfl (lv_at hl 3 rfl) ?_
  refine lv_iconst (v := 1) hx hb dL_law_1305 (by decide) ?_
  refine lv_iadd hx hb dL_law_1306 ?_
  refine va_sld hx hb hX hbl hbA hS (vIn hi hL 1 (by decide)) dL_law_1307 ?_
  obtain ⟨r, b', F', e1, e2, g'⟩ := pr_status (N := 600) (T := T) (p1 := (xs (nI i + 1).toNatClampNeg)) g (by decide)
  refine q_ci1 (r := r) (va_runV (As := [.int (xs (nI i + 1).toNatClampNeg)]) (rest := []) ⟨hx, hb, hml, hown, hts⟩ (c_X3_status l D y t q _ 600 b R T K P B M (xs (nI i + 1).toNatClampNeg) (r, b') e1) (cwV 1 hts gL_law_X3_status rfl rfl rfl eX3_status ⟨Nat.le_of_ble_eq_true rfl, Nat.le_of_ble_eq_true rfl⟩) ⟨q_blind, va_recv hK hPB (ci := 3) (q0 := 0) rfl rfl, q_pre0 hPB hK hZ (D_left (hDD b R T K P B M F G)) AA_ok hS⟩ rfl rfl hl.1 rfl (lv_room (Nat.le_of_ble_eq_true rfl)) dL_law_1308 ⟨Nat.le_of_ble_eq_true rfl, Nat.le_of_ble_eq_true rfl⟩) (hDD b R T K P B M F G) hPM AA_ok hS (fun H locs hPB hPM hS => ?_)
  have hPB : va_P D vwCl (wB y q b' R T K P B M) H := hPB
  refine lv_aload_n hx hb dL_law_1311 rfl (lv_at hl 2 rfl) ?_
  refine lv_aload_n hx hb dL_law_1312 rfl (lv_at hl 0 rfl) ?_
  refine lv_iload_n hx hb dL_law_1313 rfl (lv_at hl 3 rfl) ?_
  refine lv_iconst (v := 1) hx hb dL_law_1314 (by decide) ?_
  refine lv_iadd hx hb dL_law_1315 ?_
  refine va_sld hx hb hX hbl hbA hS (vIn hi hL 1 (by decide)) dL_law_1316 ?_
  refine q_ci2 (r := r) (va_runV (As := [.int (xs (nI i + 1).toNatClampNeg)]) (rest := [.int r]) ⟨hx, hb, hml, hown, hts⟩ (c_X4_status l D y t q' _ 600 F G (xs (nI i + 1).toNatClampNeg) (r, F') e2) (cwV 1 hts gL_law_X4_status rfl rfl rfl eX4_status ⟨Nat.le_of_ble_eq_true rfl, Nat.le_of_ble_eq_true rfl⟩) ⟨q_blind, va_recv hK hPM (ci := 4) (q0 := 0) rfl rfl, q_pre0 hPM hK hZ (D_right (hDD b' R T K P B M F G)) AA_ok hS⟩ rfl rfl hl.1 rfl (lv_room (Nat.le_of_ble_eq_true rfl)) dL_law_1317 ⟨Nat.le_of_ble_eq_true rfl, Nat.le_of_ble_eq_true rfl⟩) (hDD b' R T K P B M F G) hPB AA_ok hS (fun H locs hPB hPM hS => ?_)
  have hPM : va_P D vwCl (wM y q' F' G) H := hPM
  exact lv_icmp_eq (tgt := 1325) hx hb dL_law_1320 (by decide) (fun _ => kk _ _ _ _ _ _ _ _ _ _ _ g' hPB hPM hS) (fun c9 => absurd rfl c9)
