theorem uX3_wipe_X2 : ∀ w ∈ u_ws RX2 TX2 7, w ∈ wsX3_wipe := by decide +kernel
theorem kX3_wipe_1 : Cond.fieldLink RX3 171 "BeamSeats$Tape" "size" "I" ∈ wsX3_wipe := List.mem_of_getElem? (i := 2) (by decide +kernel)
theorem uX3_wipe_X3 : ∀ w ∈ u_ws RX3 TX3 7, w ∈ wsX3_wipe := by decide +kernel
theorem kX3_wipe_3 : Cond.fieldLink RX3 29 "BeamSeats" "tape" "LBeamSeats$Tape;" ∈ wsX3_wipe := List.mem_of_getElem? (i := 1) (by decide +kernel)
def f_X3_wipe (N : Nat) (b : Nat → Nat → Int32) (R : Nat → Nat → Int32) (T : Nat → Nat → Int32) (K : Nat → Nat → Int32) (P : Nat → Nat → Int32) (B : Nat → Nat → Int32) (L : Nat → Nat → Int64) : Option (Int32 × (Nat → Nat → Int32)) :=
  q_let (P 0 0) (fun x_1 =>
  q_let (q_up P 0 0 (0 : Int32)) (fun P_2 =>
  some (x_1, P_2)))
set_option maxHeartbeats 4000000 in
set_option maxRecDepth 100000 in
theorem c_X3_wipe (l : Launch) (D : va_G) (y : Nat → ClassId) (t : Nat → Nat) (q : Nat → Nat) (sz N : Nat) (b : Nat → Nat → Int32) (R : Nat → Nat → Int32) (T : Nat → Nat → Int32) (K : Nat → Nat → Int32) (P : Nat → Nat → Int32) (B : Nat → Nat → Int32) (L : Nat → Nat → Int64) (res : Int32 × (Nat → Nat → Int32)) (h : f_X3_wipe N b R T K P B L = some res) : Met l yX3_wipe wsX3_wipe ({ frames := 0, cells := 0, slots := 0, locals := 0 } : Room) (pPre D y t [.ref (q 0)] (wB y q b R T K P B L) sz) (pQi D y (res.1) (wB y q b R T K (res.2) B L) (va_A (wB y q b R T K P B L) sz)) 0 0 (va_A (wB y q b R T K P B L) sz) := by
  refine q_start (Qc := (fun A => pQi D y (res.1) (wB y q b R T K (res.2) B L) A)) (cc := cX3_wipe) (maxL := 2) (ret := (some .int)) (by decide) rfl (Nat.le_of_ble_eq_true rfl) ?_
  intro p e s m below meth c A ls hx hb hr hts hown hlocks hmn hml hP hK hZ hD hA hS hl
  have hl : lv_has ls 2 [(0, .ref (q 0))] := hl
  have hown : s.vm.findClass RX3 = some m.cls := hown
  unfold f_X3_wipe at h
  refine lv_aload_n hx hb dX3_wipe_0 rfl (lv_at hl 0 rfl) ?_
  refine va_get (D := D) (ci := 3) (v := .ref (q 22)) (C := RX3) (T := TX3) (N := 7) hx hb hts uX3_wipe_X3 hown hK hP 0 rfl rfl 4 (by decide) (hts _ kX3_wipe_3) (fun _ h9 => h9) rfl dX3_wipe_1 ?_
  refine va_get (D := D) (ci := 2) (v := .int (P 0 0)) (C := RX2) (T := TX2) (N := 7) hx hb hts uX3_wipe_X2 hown hK hP 22 rfl rfl 1 (by decide) (hts _ kX3_wipe_1) (fun _ h9 => h9) rfl dX3_wipe_4 ?_
  refine lv_topi (fun x_1 ex_1 => ?_)
  have h := q_let_at ex_1 h
  refine lv_istore_n (lv' := [(1, .int x_1), (0, .ref (q 0))]) hx hb dX3_wipe_7 rfl hl (by decide) rfl (fun ls hl => ?_)
  refine lv_aload_n hx hb dX3_wipe_8 rfl (lv_at hl 1 rfl) ?_
  refine va_get (D := D) (ci := 3) (v := .ref (q 22)) (C := RX3) (T := TX3) (N := 7) hx hb hts uX3_wipe_X3 hown hK hP 0 rfl rfl 4 (by decide) (hts _ kX3_wipe_3) (fun _ h9 => h9) rfl dX3_wipe_9 ?_
  refine lv_iconst (v := 0) hx hb dX3_wipe_12 (by decide) ?_
  obtain ⟨P_2, eP_2, h⟩ := q_let_ok h
  refine va_put (D := D) (ci := 2) (v := .int (0 : Int32)) (ty := .int) (C := RX2) (T := TX2) (N := 7) hx hb hts uX3_wipe_X2 tyX2 tyX2_ok nmX2 hown hK hP hD hS 22 rfl rfl 1 (by decide) (hts _ kX3_wipe_1) (fun _ h9 => h9) rfl (by decide +kernel) rfl rfl (Nat.le_of_ble_eq_true rfl) dX3_wipe_13 (fun H locs hP hD hS => ?_)
  have hP : va_P D vwCl (wB y q b R T K P_2 B L) H := by rw [eP_2]; exact hP
  have hD : va_D A (wB y q b R T K P_2 B L) := by rw [eP_2]; exact hD
  refine lv_iload_n hx hb dX3_wipe_16 rfl (lv_at hl 0 rfl) ?_
  have e9 := Option.some.inj h
  exact q_iret hx hb hr hlocks hK hP hD hS dX3_wipe_17 (by first | rw [← e9] | rfl) (by first | rw [← e9] | rfl)
theorem eX3_wipe : yX3_wipe.cls = RX3 ∧ yX3_wipe.cls ≠ "java/lang/invoke/MethodHandle" ∧ yX3_wipe.cls ≠ "java/lang/invoke/VarHandle" ∧ (parseMethodDescriptor yX3_wipe.desc).map (fun d => d.parameters.length) = some 0 := by decide +kernel
theorem uX3_island_X3 : ∀ w ∈ u_ws RX3 TX3 7, w ∈ wsX3_island := by decide +kernel
theorem kX3_island_1 : Cond.fieldLink RX3 16 "BeamSeats" "trial" "LBeamSeats$Island;" ∈ wsX3_island := List.mem_of_getElem? (i := 1) (by decide +kernel)
theorem kX3_island_2 : Cond.fieldLink RX3 10 "BeamSeats" "real" "LBeamSeats$Island;" ∈ wsX3_island := List.mem_of_getElem? (i := 2) (by decide +kernel)
theorem uX3_island_X2 : ∀ w ∈ u_ws RX2 TX2 7, w ∈ wsX3_island := by decide +kernel
theorem kX3_island_4 : Cond.fieldLink RX3 171 "BeamSeats$Tape" "size" "I" ∈ wsX3_island := List.mem_of_getElem? (i := 4) (by decide +kernel)
theorem kX3_island_5 : Cond.fieldLink RX3 29 "BeamSeats" "tape" "LBeamSeats$Tape;" ∈ wsX3_island := List.mem_of_getElem? (i := 3) (by decide +kernel)
def f_X3_island (N : Nat) (b : Nat → Nat → Int32) (R : Nat → Nat → Int32) (T : Nat → Nat → Int32) (K : Nat → Nat → Int32) (P : Nat → Nat → Int32) (B : Nat → Nat → Int32) (L : Nat → Nat → Int64) : Option (Int32 × (Nat → Nat → Int32) × (Nat → Nat → Int32) × (Nat → Nat → Int32)) :=
  q_bd (f_X0_becomes N T R) (fun T_1 =>
  q_bd3 (f_X2_tell N P T_1) (fun r_3 P_4 T_5 =>
  q_let (q_up P_4 0 0 (0 : Int32)) (fun P_7 =>
  if r_3 < 0 then
    some (r_3, R, T_5, P_7)
  else
    q_bd (f_X0_becomes N R T_5) (fun R_9 =>
    some (r_3, R_9, T_5, P_7)))))
set_option maxHeartbeats 4000000 in
set_option maxRecDepth 100000 in
theorem c_X3_island (l : Launch) (D : va_G) (y : Nat → ClassId) (t : Nat → Nat) (q : Nat → Nat) (sz N : Nat) (b : Nat → Nat → Int32) (R : Nat → Nat → Int32) (T : Nat → Nat → Int32) (K : Nat → Nat → Int32) (P : Nat → Nat → Int32) (B : Nat → Nat → Int32) (L : Nat → Nat → Int64) (res : Int32 × (Nat → Nat → Int32) × (Nat → Nat → Int32) × (Nat → Nat → Int32)) (h : f_X3_island N b R T K P B L = some res) : Met l yX3_island wsX3_island ({ frames := 9, cells := 0, slots := 0, locals := 200 } : Room) (pPre D y t [.ref (q 0)] (wB y q b R T K P B L) sz) (pQi D y (res.1) (wB y q b (res.2.1) (res.2.2.1) K (res.2.2.2) B L) (va_A (wB y q b R T K P B L) sz)) 0 0 (va_A (wB y q b R T K P B L) sz) := by
  refine q_start (Qc := (fun A => pQi D y (res.1) (wB y q b (res.2.1) (res.2.2.1) K (res.2.2.2) B L) A)) (cc := cX3_island) (maxL := 2) (ret := (some .int)) (by decide) rfl (Nat.le_of_ble_eq_true rfl) ?_
  intro p e s m below meth c A ls hx hb hr hts hown hlocks hmn hml hP hK hZ hD hA hS hl
  have hl : lv_has ls 2 [(0, .ref (q 0))] := hl
  have hown : s.vm.findClass RX3 = some m.cls := hown
  unfold f_X3_island at h
  refine lv_aload_n hx hb dX3_island_0 rfl (lv_at hl 0 rfl) ?_
  refine va_get (D := D) (ci := 3) (v := .ref (q 8)) (C := RX3) (T := TX3) (N := 7) hx hb hts uX3_island_X3 hown hK hP 0 rfl rfl 1 (by decide) (hts _ kX3_island_1) (fun _ h9 => h9) rfl dX3_island_1 ?_
  refine lv_aload_n hx hb dX3_island_4 rfl (lv_at hl 0 rfl) ?_
  refine va_get (D := D) (ci := 3) (v := .ref (q 1)) (C := RX3) (T := TX3) (N := 7) hx hb hts uX3_island_X3 hown hK hP 0 rfl rfl 0 (by decide) (hts _ kX3_island_2) (fun _ h9 => h9) rfl dX3_island_5 ?_
  obtain ⟨T_1, hc_2, h⟩ := q_bd_ok h
  refine q_cv (va_runV (As := [.ref (q 1)]) (rest := []) ⟨hx, hb, hml, hown, hts⟩ (c_X0_becomes l D y t (fun k => if k < 7 then q (k + 8) else q (k - 7 + 1)) _ N T R T_1 hc_2) (cwV 1 hts gX3_island_X0_becomes rfl rfl rfl eX0_becomes ⟨Nat.le_of_ble_eq_true rfl, Nat.le_of_ble_eq_true rfl⟩) ⟨q_blind, (va_recv hK hP (ci := 0) (q0 := 8) rfl rfl), (q_pre hP hK hZ hD hA hS [8, 9, 10, 11, 12, 13, 14, 1, 2, 3, 4, 5, 6, 7] rfl (by decide))⟩ rfl rfl hl.1 rfl (lv_room (Nat.le_of_ble_eq_true rfl)) dX3_island_8 ⟨Nat.zero_le _, Nat.zero_le _⟩) hP hD hA hS [8, 9, 10, 11, 12, 13, 14, 1, 2, 3, 4, 5, 6, 7] rfl (by decide) rfl (fun H locs hP hD hS => ?_)
  have hP : va_P D vwCl (wB y q b R T_1 K P B L) H := hP
  have hD : va_D A (wB y q b R T_1 K P B L) := hD
  refine lv_aload_n hx hb dX3_island_11 rfl (lv_at hl 0 rfl) ?_
  refine va_get (D := D) (ci := 3) (v := .ref (q 22)) (C := RX3) (T := TX3) (N := 7) hx hb hts uX3_island_X3 hown hK hP 0 rfl rfl 4 (by decide) (hts _ kX3_island_5) (fun _ h9 => h9) rfl dX3_island_12 ?_
  refine lv_aload_n hx hb dX3_island_15 rfl (lv_at hl 0 rfl) ?_
  refine va_get (D := D) (ci := 3) (v := .ref (q 8)) (C := RX3) (T := TX3) (N := 7) hx hb hts uX3_island_X3 hown hK hP 0 rfl rfl 1 (by decide) (hts _ kX3_island_1) (fun _ h9 => h9) rfl dX3_island_16 ?_
  obtain ⟨r_3, P_4, T_5, hc_6, h⟩ := q_bd3_ok h
  refine q_ci (r := r_3) (va_runV (As := [.ref (q 8)]) (rest := []) ⟨hx, hb, hml, hown, hts⟩ (c_X2_tell l D y t (fun k => if k < 5 then q (k + 22) else q (k - 5 + 8)) _ N P T_1 (r_3, P_4, T_5) hc_6) (cwV 1 hts gX3_island_X2_tell rfl rfl rfl eX2_tell ⟨Nat.le_of_ble_eq_true rfl, Nat.le_of_ble_eq_true rfl⟩) ⟨q_blind, (va_recv hK hP (ci := 2) (q0 := 22) rfl rfl), (q_pre hP hK hZ hD hA hS [22, 23, 24, 25, 26, 8, 9, 10, 11, 12, 13, 14] rfl (by decide))⟩ rfl rfl hl.1 rfl (lv_room (Nat.le_of_ble_eq_true rfl)) dX3_island_19 ⟨Nat.zero_le _, Nat.zero_le _⟩) hP hD hA hS [22, 23, 24, 25, 26, 8, 9, 10, 11, 12, 13, 14] rfl (by decide) rfl (fun H locs hP hD hS => ?_)
  have hP : va_P D vwCl (wB y q b R T_5 K P_4 B L) H := hP
  have hD : va_D A (wB y q b R T_5 K P_4 B L) := hD
  refine lv_istore_n (lv' := [(1, .int r_3), (0, .ref (q 0))]) hx hb dX3_island_22 rfl hl (by decide) rfl (fun ls hl => ?_)
  refine lv_aload_n hx hb dX3_island_23 rfl (lv_at hl 1 rfl) ?_
  refine va_get (D := D) (ci := 3) (v := .ref (q 22)) (C := RX3) (T := TX3) (N := 7) hx hb hts uX3_island_X3 hown hK hP 0 rfl rfl 4 (by decide) (hts _ kX3_island_5) (fun _ h9 => h9) rfl dX3_island_24 ?_
  refine lv_iconst (v := 0) hx hb dX3_island_27 (by decide) ?_
  obtain ⟨P_7, eP_7, h⟩ := q_let_ok h
  refine va_put (D := D) (ci := 2) (v := .int (0 : Int32)) (ty := .int) (C := RX2) (T := TX2) (N := 7) hx hb hts uX3_island_X2 tyX2 tyX2_ok nmX2 hown hK hP hD hS 22 rfl rfl 1 (by decide) (hts _ kX3_island_4) (fun _ h9 => h9) rfl (by decide +kernel) rfl rfl (Nat.le_of_ble_eq_true rfl) dX3_island_28 (fun H locs hP hD hS => ?_)
  have hP : va_P D vwCl (wB y q b R T_5 K P_7 B L) H := by rw [eP_7]; exact hP
  have hD : va_D A (wB y q b R T_5 K P_7 B L) := by rw [eP_7]; exact hD
  refine lv_iload_n hx hb dX3_island_31 rfl (lv_at hl 0 rfl) ?_
  refine lv_if_lt (tgt := 46) hx hb dX3_island_32 (by decide) (fun c_8 => ?_) (fun c_8 => ?_)
  · have h := q_t c_8 h
    refine lv_iload_n hx hb dX3_island_46 rfl (lv_at hl 0 rfl) ?_
    have e9 := Option.some.inj h
    exact q_iret hx hb hr hlocks hK hP hD hS dX3_island_47 (by first | rw [← e9] | rfl) (by first | rw [← e9] | rfl)
  · have h := q_f c_8 h
    refine lv_aload_n hx hb dX3_island_35 rfl (lv_at hl 1 rfl) ?_
    refine va_get (D := D) (ci := 3) (v := .ref (q 1)) (C := RX3) (T := TX3) (N := 7) hx hb hts uX3_island_X3 hown hK hP 0 rfl rfl 0 (by decide) (hts _ kX3_island_2) (fun _ h9 => h9) rfl dX3_island_36 ?_
    refine lv_aload_n hx hb dX3_island_39 rfl (lv_at hl 1 rfl) ?_
    refine va_get (D := D) (ci := 3) (v := .ref (q 8)) (C := RX3) (T := TX3) (N := 7) hx hb hts uX3_island_X3 hown hK hP 0 rfl rfl 1 (by decide) (hts _ kX3_island_1) (fun _ h9 => h9) rfl dX3_island_40 ?_
    obtain ⟨R_9, hc_10, h⟩ := q_bd_ok h
    refine q_cv (va_runV (As := [.ref (q 8)]) (rest := []) ⟨hx, hb, hml, hown, hts⟩ (c_X0_becomes l D y t (fun k => if k < 7 then q (k + 1) else q (k - 7 + 8)) _ N R T_5 R_9 hc_10) (cwV 1 hts gX3_island_X0_becomes rfl rfl rfl eX0_becomes ⟨Nat.le_of_ble_eq_true rfl, Nat.le_of_ble_eq_true rfl⟩) ⟨q_blind, (va_recv hK hP (ci := 0) (q0 := 1) rfl rfl), (q_pre hP hK hZ hD hA hS [1, 2, 3, 4, 5, 6, 7, 8, 9, 10, 11, 12, 13, 14] rfl (by decide))⟩ rfl rfl hl.1 rfl (lv_room (Nat.le_of_ble_eq_true rfl)) dX3_island_43 ⟨Nat.zero_le _, Nat.zero_le _⟩) hP hD hA hS [1, 2, 3, 4, 5, 6, 7, 8, 9, 10, 11, 12, 13, 14] rfl (by decide) rfl (fun H locs hP hD hS => ?_)
    have hP : va_P D vwCl (wB y q b R_9 T_5 K P_7 B L) H := hP
    have hD : va_D A (wB y q b R_9 T_5 K P_7 B L) := hD
    refine lv_iload_n hx hb dX3_island_46 rfl (lv_at hl 0 rfl) ?_
    have e9 := Option.some.inj h
    exact q_iret hx hb hr hlocks hK hP hD hS dX3_island_47 (by first | rw [← e9] | rfl) (by first | rw [← e9] | rfl)
theorem eX3_island : yX3_island.cls = RX3 ∧ yX3_island.cls ≠ "java/lang/invoke/MethodHandle" ∧ yX3_island.cls ≠ "java/lang/invoke/VarHandle" ∧ (parseMethodDescriptor yX3_island.desc).map (fun d => d.parameters.length) = some 0 := by decide +kernel
theorem kX3_sheet_0 : Cond.constant RX3 58 (-1000000001) ∈ wsX3_sheet := List.mem_of_getElem? (i := 1) (by decide +kernel)
theorem uX3_sheet_X1 : ∀ w ∈ u_ws RX1 TX1 3, w ∈ wsX3_sheet := by decide +kernel
theorem kX3_sheet_2 : Cond.fieldLink RX3 185 "BeamSeats$Sheet" "size" "I" ∈ wsX3_sheet := List.mem_of_getElem? (i := 4) (by decide +kernel)
theorem uX3_sheet_X3 : ∀ w ∈ u_ws RX3 TX3 7, w ∈ wsX3_sheet := by decide +kernel
theorem kX3_sheet_4 : Cond.fieldLink RX3 35 "BeamSeats" "sheets" "[LBeamSeats$Sheet;" ∈ wsX3_sheet := List.mem_of_getElem? (i := 3) (by decide +kernel)
theorem kX3_sheet_5 : Cond.constant RX3 180 (-1000000007) ∈ wsX3_sheet := List.mem_of_getElem? (i := 2) (by decide +kernel)
def f_X3_sheet_B31 (N : Nat) (b : Nat → Nat → Int32) (R : Nat → Nat → Int32) (T : Nat → Nat → Int32) (K : Nat → Nat → Int32) (P : Nat → Nat → Int32) (B : Nat → Nat → Int32) (L : Nat → Nat → Int64) : Option (Int32 × (Nat → Nat → Int32) × (Nat → Nat → Int32) × (Nat → Nat → Int64)) :=
  q_bd2 (f_X3_found N b R T K P B L (-1000000001 : Int32)) (fun r_4 b_5 =>
  some (r_4, b_5, B, L))
def f_X3_sheet_B38 (N : Nat) (b : Nat → Nat → Int32) (R : Nat → Nat → Int32) (T : Nat → Nat → Int32) (K : Nat → Nat → Int32) (P : Nat → Nat → Int32) (B : Nat → Nat → Int32) (L : Nat → Nat → Int64) (v1 : Int32) (v2 : Int32) (v3 : Int32) : Option (Int32 × (Nat → Nat → Int32) × (Nat → Nat → Int32) × (Nat → Nat → Int64)) :=
  if 0 ≤ v3 then
    if v3 ≤ (40 : Int32) then
      q_grd v1 4 (
      q_bd2 (f_X1_renew N (B (v1.toNatClampNeg)) (L (v1.toNatClampNeg)) v2 v3) (fun E_11 E_12 =>
      q_let (va_up B (v1.toNatClampNeg) E_11) (fun B_14 =>
      q_let (va_up L (v1.toNatClampNeg) E_12) (fun L_15 =>
      q_grd v1 4 (
      some ((B_14 (v1.toNatClampNeg) 1), b, B_14, L_15))))))
    else
      q_bd2 (f_X3_found N b R T K P B L (-1000000001 : Int32)) (fun r_17 b_18 =>
      some (r_17, b_18, B, L))
  else
    q_bd2 (f_X3_found N b R T K P B L (-1000000007 : Int32)) (fun r_20 b_21 =>
    some (r_20, b_21, B, L))
def f_X3_sheet (N : Nat) (b : Nat → Nat → Int32) (R : Nat → Nat → Int32) (T : Nat → Nat → Int32) (K : Nat → Nat → Int32) (P : Nat → Nat → Int32) (B : Nat → Nat → Int32) (L : Nat → Nat → Int64) (p1 : Int32) (p2 : Int32) (p3 : Int32) : Option (Int32 × (Nat → Nat → Int32) × (Nat → Nat → Int32) × (Nat → Nat → Int64)) :=
  q_bd (f_X3_within N p1 (0 : Int32) (3 : Int32)) (fun r_1 =>
  if r_1 = 0 then
    f_X3_sheet_B31 N b R T K P B L
  else
    if p2 = 0 then
      f_X3_sheet_B38 N b R T K P B L p1 p2 p3
    else
      if p2 = (8 : Int32) then
        f_X3_sheet_B38 N b R T K P B L p1 p2 p3
      else
        if p2 = (16 : Int32) then
          f_X3_sheet_B38 N b R T K P B L p1 p2 p3
        else
          if p2 = (64 : Int32) then
            f_X3_sheet_B38 N b R T K P B L p1 p2 p3
          else
            f_X3_sheet_B31 N b R T K P B L)
set_option maxHeartbeats 4000000 in
set_option maxRecDepth 100000 in
theorem c_X3_sheet (l : Launch) (D : va_G) (y : Nat → ClassId) (t : Nat → Nat) (q : Nat → Nat) (sz N : Nat) (b : Nat → Nat → Int32) (R : Nat → Nat → Int32) (T : Nat → Nat → Int32) (K : Nat → Nat → Int32) (P : Nat → Nat → Int32) (B : Nat → Nat → Int32) (L : Nat → Nat → Int64) (p1 : Int32) (p2 : Int32) (p3 : Int32) (res : Int32 × (Nat → Nat → Int32) × (Nat → Nat → Int32) × (Nat → Nat → Int64)) (h : f_X3_sheet N b R T K P B L p1 p2 p3 = some res) : Met l yX3_sheet wsX3_sheet ({ frames := 2, cells := 0, slots := 0, locals := 44 } : Room) (pPre D y t [.ref (q 0), .int p1, .int p2, .int p3] (wB y q b R T K P B L) sz) (pQi D y (res.1) (wB y q (res.2.1) R T K P (res.2.2.1) (res.2.2.2)) (va_A (wB y q b R T K P B L) sz)) 0 0 (va_A (wB y q b R T K P B L) sz) := by
  refine q_start (Qc := (fun A => pQi D y (res.1) (wB y q (res.2.1) R T K P (res.2.2.1) (res.2.2.2)) A)) (cc := cX3_sheet) (maxL := 4) (ret := (some .int)) (by decide) rfl (Nat.le_of_ble_eq_true rfl) ?_
  intro p e s m below meth c A ls hx hb hr hts hown hlocks hmn hml hP hK hZ hD hA hS hl
  have hl : lv_has ls 4 [(0, .ref (q 0)), (1, .int p1), (2, .int p2), (3, .int p3)] := hl
  have hown : s.vm.findClass RX3 = some m.cls := hown
  have B31 : ∀ (b : Nat → Nat → Int32) (R : Nat → Nat → Int32) (T : Nat → Nat → Int32) (K : Nat → Nat → Int32) (P : Nat → Nat → Int32) (B : Nat → Nat → Int32) (L : Nat → Nat → Int64) (H : Heap) (locs : List Loc) (ls : Array Slot), va_P D vwCl (wB y q b R T K P B L) H → va_D A (wB y q b R T K P B L) → va_S A s.heap H locs → lv_has ls 4 [(0, .ref (q 0))] → f_X3_sheet_B31 N b R T K P B L = some res → W p l e ({ frames := 2, cells := 0, slots := 0, locals := 44 } : Room) s m ([.ref (q 0), .int p1, .int p2, .int p3] : List Value).toArray below meth c H locs 0 0 (MQ below (pQi D y (res.1) (wB y q (res.2.1) R T K P (res.2.2.1) (res.2.2.2)) A) ([.ref (q 0), .int p1, .int p2, .int p3] : List Value).toArray s 0 0 A) (F0 m 31 ls []) := by
    intro b R T K P B L H locs ls hP hD hS hl h
    unfold f_X3_sheet_B31 at h
    refine lv_aload_n hx hb dX3_sheet_31 rfl (lv_at hl 0 rfl) ?_
    refine lv_ldc (v := -1000000001) hx hb hown (hts _ kX3_sheet_0) dX3_sheet_32 ?_
    obtain ⟨r_4, b_5, hc_6, h⟩ := q_bd2_ok h
    refine q_ci0 (r := r_4) (va_runV (As := [.int (-1000000001 : Int32)]) (rest := []) ⟨hx, hb, hml, hown, hts⟩ (c_X3_found l D y t q _ N b R T K P B L (-1000000001 : Int32) (r_4, b_5) hc_6) (cwV 1 hts gX3_sheet_X3_found rfl rfl rfl eX3_found ⟨Nat.le_of_ble_eq_true rfl, Nat.le_of_ble_eq_true rfl⟩) ⟨q_blind, (va_recv hK hP (ci := 3) (q0 := 0) rfl rfl), (q_pre0 hP hK hZ hD hA hS)⟩ rfl rfl hl.1 rfl (lv_room (Nat.le_of_ble_eq_true rfl)) dX3_sheet_34 ⟨Nat.zero_le _, Nat.zero_le _⟩) hD hA hS (fun H locs hP hD hS => ?_)
    have hP : va_P D vwCl (wB y q b_5 R T K P B L) H := hP
    have hD : va_D A (wB y q b_5 R T K P B L) := hD
    have e9 := Option.some.inj h
    exact q_iret hx hb hr hlocks hK hP hD hS dX3_sheet_37 (by first | rw [← e9] | rfl) (by first | rw [← e9] | rfl)
  have B38 : ∀ (b : Nat → Nat → Int32) (R : Nat → Nat → Int32) (T : Nat → Nat → Int32) (K : Nat → Nat → Int32) (P : Nat → Nat → Int32) (B : Nat → Nat → Int32) (L : Nat → Nat → Int64) (v1 : Int32) (v2 : Int32) (v3 : Int32) (H : Heap) (locs : List Loc) (ls : Array Slot), va_P D vwCl (wB y q b R T K P B L) H → va_D A (wB y q b R T K P B L) → va_S A s.heap H locs → lv_has ls 4 [(0, .ref (q 0)), (1, .int v1), (2, .int v2), (3, .int v3)] → f_X3_sheet_B38 N b R T K P B L v1 v2 v3 = some res → W p l e ({ frames := 2, cells := 0, slots := 0, locals := 44 } : Room) s m ([.ref (q 0), .int p1, .int p2, .int p3] : List Value).toArray below meth c H locs 0 0 (MQ below (pQi D y (res.1) (wB y q (res.2.1) R T K P (res.2.2.1) (res.2.2.2)) A) ([.ref (q 0), .int p1, .int p2, .int p3] : List Value).toArray s 0 0 A) (F0 m 38 ls []) := by
    intro b R T K P B L v1 v2 v3 H locs ls hP hD hS hl h
    unfold f_X3_sheet_B38 at h
    refine lv_iload_n hx hb dX3_sheet_38 rfl (lv_at hl 3 rfl) ?_
    refine lv_if_ge (tgt := 49) hx hb dX3_sheet_39 (by decide) (fun c_8 => ?_) (fun c_8 => ?_)
    · have h := q_t c_8 h
      refine lv_iload_n hx hb dX3_sheet_49 rfl (lv_at hl 3 rfl) ?_
      refine lv_bipush (v := 40) hx hb dX3_sheet_50 (by decide) ?_
      refine lv_icmp_le (tgt := 62) hx hb dX3_sheet_52 (by decide) (fun c_9 => ?_) (fun c_9 => ?_)
      · have h := q_t c_9 h
        refine lv_aload_n hx hb dX3_sheet_62 rfl (lv_at hl 0 rfl) ?_
        refine va_get (D := D) (ci := 3) (v := .ref (q 27)) (C := RX3) (T := TX3) (N := 7) hx hb hts uX3_sheet_X3 hown hK hP 0 rfl rfl 5 (by decide) (hts _ kX3_sheet_4) (fun _ h9 => h9) rfl dX3_sheet_63 ?_
        refine lv_iload_n hx hb dX3_sheet_66 rfl (lv_at hl 1 rfl) ?_
        obtain ⟨z_10, h⟩ := q_grd_ok h
        refine va_aldq hx hb hK hP 27 3 rfl rfl z_10 dX3_sheet_67 ?_
        refine W.eq (g2 := F0 m 68 ls [.ref (q (28 + 2 * v1.toNatClampNeg))]) rfl ?_
        refine lv_iload_n hx hb dX3_sheet_68 rfl (lv_at hl 2 rfl) ?_
        refine lv_iload_n hx hb dX3_sheet_69 rfl (lv_at hl 3 rfl) ?_
        obtain ⟨E_11, E_12, hc_13, h⟩ := q_bd2_ok h
        obtain ⟨B_14, eB_14, h⟩ := q_let_ok h
        obtain ⟨L_15, eL_15, h⟩ := q_let_ok h
        refine q_cv (va_runV (As := [.int v2, .int v3]) (rest := []) ⟨hx, hb, hml, hown, hts⟩ (c_X1_renew l D y t (fun k => q (28 + 2 * v1.toNatClampNeg + k)) _ N (B (v1.toNatClampNeg)) (L (v1.toNatClampNeg)) v2 v3 (E_11, E_12) hc_13) (cwV 2 hts gX3_sheet_X1_renew rfl rfl rfl eX1_renew ⟨Nat.le_of_ble_eq_true rfl, Nat.le_of_ble_eq_true rfl⟩) ⟨q_blind, (va_recv hK hP (ci := 1) (q0 := 28 + 2 * v1.toNatClampNeg) rfl (sh_o (q_in_lt z_10))), (q_pre hP hK hZ hD hA hS [28 + 2 * v1.toNatClampNeg, 29 + 2 * v1.toNatClampNeg] (sk_cut (q_in_lt z_10)) (sh_nd (v1.toNatClampNeg)))⟩ rfl rfl hl.1 rfl (lv_room (Nat.le_of_ble_eq_true rfl)) dX3_sheet_70 ⟨Nat.zero_le _, Nat.zero_le _⟩) hP hD hA hS [28 + 2 * v1.toNatClampNeg, 29 + 2 * v1.toNatClampNeg] (sk_cut (q_in_lt z_10)) (sh_nd (v1.toNatClampNeg)) rfl (fun H locs hP hD hS => ?_)
        have hP : va_P D vwCl (wB y q b R T K P B_14 L_15) H := by rw [eB_14, eL_15, ← sk_sets (q_in_lt z_10) _ _]; exact hP
        have hD : va_D A (wB y q b R T K P B_14 L_15) := by rw [eB_14, eL_15, ← sk_sets (q_in_lt z_10) _ _]; exact hD
        refine lv_aload_n hx hb dX3_sheet_73 rfl (lv_at hl 0 rfl) ?_
        refine va_get (D := D) (ci := 3) (v := .ref (q 27)) (C := RX3) (T := TX3) (N := 7) hx hb hts uX3_sheet_X3 hown hK hP 0 rfl rfl 5 (by decide) (hts _ kX3_sheet_4) (fun _ h9 => h9) rfl dX3_sheet_74 ?_
        refine lv_iload_n hx hb dX3_sheet_77 rfl (lv_at hl 1 rfl) ?_
        obtain ⟨z_16, h⟩ := q_grd_ok h
        refine va_aldq hx hb hK hP 27 3 rfl rfl z_16 dX3_sheet_78 ?_
        refine W.eq (g2 := F0 m 79 ls [.ref (q (28 + 2 * v1.toNatClampNeg))]) rfl ?_
        refine va_get (D := D) (ci := 1) (v := .int (B_14 (v1.toNatClampNeg) 1)) (C := RX1) (T := TX1) (N := 3) hx hb hts uX3_sheet_X1 hown hK hP (28 + 2 * v1.toNatClampNeg) (sh_o (q_in_lt z_16)) rfl 1 (by decide) (hts _ kX3_sheet_2) (fun _ h9 => h9) rfl dX3_sheet_79 ?_
        have e9 := Option.some.inj h
        exact q_iret hx hb hr hlocks hK hP hD hS dX3_sheet_82 (by first | rw [← e9] | rfl) (by first | rw [← e9] | rfl)
      · have h := q_f c_9 h
        refine lv_aload_n hx hb dX3_sheet_55 rfl (lv_at hl 0 rfl) ?_
        refine lv_ldc (v := -1000000001) hx hb hown (hts _ kX3_sheet_0) dX3_sheet_56 ?_
        obtain ⟨r_17, b_18, hc_19, h⟩ := q_bd2_ok h
        refine q_ci0 (r := r_17) (va_runV (As := [.int (-1000000001 : Int32)]) (rest := []) ⟨hx, hb, hml, hown, hts⟩ (c_X3_found l D y t q _ N b R T K P B L (-1000000001 : Int32) (r_17, b_18) hc_19) (cwV 1 hts gX3_sheet_X3_found rfl rfl rfl eX3_found ⟨Nat.le_of_ble_eq_true rfl, Nat.le_of_ble_eq_true rfl⟩) ⟨q_blind, (va_recv hK hP (ci := 3) (q0 := 0) rfl rfl), (q_pre0 hP hK hZ hD hA hS)⟩ rfl rfl hl.1 rfl (lv_room (Nat.le_of_ble_eq_true rfl)) dX3_sheet_58 ⟨Nat.zero_le _, Nat.zero_le _⟩) hD hA hS (fun H locs hP hD hS => ?_)
        have hP : va_P D vwCl (wB y q b_18 R T K P B L) H := hP
        have hD : va_D A (wB y q b_18 R T K P B L) := hD
        have e9 := Option.some.inj h
        exact q_iret hx hb hr hlocks hK hP hD hS dX3_sheet_61 (by first | rw [← e9] | rfl) (by first | rw [← e9] | rfl)
    · have h := q_f c_8 h
      refine lv_aload_n hx hb dX3_sheet_42 rfl (lv_at hl 0 rfl) ?_
      refine lv_ldc (v := -1000000007) hx hb hown (hts _ kX3_sheet_5) dX3_sheet_43 ?_
      obtain ⟨r_20, b_21, hc_22, h⟩ := q_bd2_ok h
      refine q_ci0 (r := r_20) (va_runV (As := [.int (-1000000007 : Int32)]) (rest := []) ⟨hx, hb, hml, hown, hts⟩ (c_X3_found l D y t q _ N b R T K P B L (-1000000007 : Int32) (r_20, b_21) hc_22) (cwV 1 hts gX3_sheet_X3_found rfl rfl rfl eX3_found ⟨Nat.le_of_ble_eq_true rfl, Nat.le_of_ble_eq_true rfl⟩) ⟨q_blind, (va_recv hK hP (ci := 3) (q0 := 0) rfl rfl), (q_pre0 hP hK hZ hD hA hS)⟩ rfl rfl hl.1 rfl (lv_room (Nat.le_of_ble_eq_true rfl)) dX3_sheet_45 ⟨Nat.zero_le _, Nat.zero_le _⟩) hD hA hS (fun H locs hP hD hS => ?_)
      have hP : va_P D vwCl (wB y q b_21 R T K P B L) H := hP
      have hD : va_D A (wB y q b_21 R T K P B L) := hD
      have e9 := Option.some.inj h
      exact q_iret hx hb hr hlocks hK hP hD hS dX3_sheet_48 (by first | rw [← e9] | rfl) (by first | rw [← e9] | rfl)
  unfold f_X3_sheet at h
  refine lv_iload_n hx hb dX3_sheet_0 rfl (lv_at hl 1 rfl) ?_
  refine lv_iconst (v := 0) hx hb dX3_sheet_1 (by decide) ?_
  refine lv_iconst (v := 3) hx hb dX3_sheet_2 (by decide) ?_
  obtain ⟨r_1, hc_2, h⟩ := q_bd_ok h
  refine q_ci (r := r_1) (va_runS (As := [.int p1, .int (0 : Int32), .int (3 : Int32)]) (rest := []) ⟨hx, hb, hml, hown, hts⟩ (c_X3_within l D y t q _ N p1 (0 : Int32) (3 : Int32) r_1 hc_2) (va_cwS 3 hts gX3_sheet_X3_within rfl rfl rfl eX3_within ⟨Nat.le_of_ble_eq_true rfl, Nat.le_of_ble_eq_true rfl⟩) ⟨q_blind, (q_pre hP hK hZ hD hA hS [] rfl (by decide))⟩ rfl rfl hl.1 rfl (lv_room (Nat.le_of_ble_eq_true rfl)) dX3_sheet_3 ⟨Nat.zero_le _, Nat.zero_le _⟩) hP hD hA hS [] rfl (by decide) rfl (fun H locs hP hD hS => ?_)
  have hP : va_P D vwCl (wB y q b R T K P B L) H := hP
  have hD : va_D A (wB y q b R T K P B L) := hD
  refine lv_if_eq (tgt := 31) hx hb dX3_sheet_6 (by decide) (fun c_3 => ?_) (fun c_3 => ?_)
  · have h := q_t c_3 h
    exact B31 b R T K P B L _ _ _ hP hD hS (lv_sub hl [0] rfl) h
  · have h := q_f c_3 h
    refine lv_iload_n hx hb dX3_sheet_9 rfl (lv_at hl 2 rfl) ?_
    refine lv_if_eq (tgt := 38) hx hb dX3_sheet_10 (by decide) (fun c_7 => ?_) (fun c_7 => ?_)
    · have h := q_t c_7 h
      exact B38 b R T K P B L p1 p2 p3 _ _ _ hP hD hS (lv_sub hl [0, 1, 2, 3] rfl) h
    · have h := q_f c_7 h
      refine lv_iload_n hx hb dX3_sheet_13 rfl (lv_at hl 2 rfl) ?_
      refine lv_bipush (v := 8) hx hb dX3_sheet_14 (by decide) ?_
      refine lv_icmp_eq (tgt := 38) hx hb dX3_sheet_16 (by decide) (fun c_23 => ?_) (fun c_23 => ?_)
      · have h := q_t c_23 h
        exact B38 b R T K P B L p1 p2 p3 _ _ _ hP hD hS (lv_sub hl [0, 1, 2, 3] rfl) h
      · have h := q_f c_23 h
        refine lv_iload_n hx hb dX3_sheet_19 rfl (lv_at hl 2 rfl) ?_
        refine lv_bipush (v := 16) hx hb dX3_sheet_20 (by decide) ?_
        refine lv_icmp_eq (tgt := 38) hx hb dX3_sheet_22 (by decide) (fun c_24 => ?_) (fun c_24 => ?_)
        · have h := q_t c_24 h
          exact B38 b R T K P B L p1 p2 p3 _ _ _ hP hD hS (lv_sub hl [0, 1, 2, 3] rfl) h
        · have h := q_f c_24 h
          refine lv_iload_n hx hb dX3_sheet_25 rfl (lv_at hl 2 rfl) ?_
          refine lv_bipush (v := 64) hx hb dX3_sheet_26 (by decide) ?_
          refine lv_icmp_eq (tgt := 38) hx hb dX3_sheet_28 (by decide) (fun c_25 => ?_) (fun c_25 => ?_)
          · have h := q_t c_25 h
            exact B38 b R T K P B L p1 p2 p3 _ _ _ hP hD hS (lv_sub hl [0, 1, 2, 3] rfl) h
          · have h := q_f c_25 h
            exact B31 b R T K P B L _ _ _ hP hD hS (lv_sub hl [0] rfl) h
theorem eX3_sheet : yX3_sheet.cls = RX3 ∧ yX3_sheet.cls ≠ "java/lang/invoke/MethodHandle" ∧ yX3_sheet.cls ≠ "java/lang/invoke/VarHandle" ∧ (parseMethodDescriptor yX3_sheet.desc).map (fun d => d.parameters.length) = some 3 := by decide +kernel
theorem kX3_findingOfSheet_0 : Cond.constant RX3 200 (-1000000006) ∈ wsX3_findingOfSheet := List.mem_of_getElem? (i := 4) (by decide +kernel)
theorem uX3_findingOfSheet_X1 : ∀ w ∈ u_ws RX1 TX1 3, w ∈ wsX3_findingOfSheet := by decide +kernel
theorem kX3_findingOfSheet_2 : Cond.fieldLink RX3 197 "BeamSeats$Sheet" "bits" "I" ∈ wsX3_findingOfSheet := List.mem_of_getElem? (i := 3) (by decide +kernel)
theorem uX3_findingOfSheet_X3 : ∀ w ∈ u_ws RX3 TX3 7, w ∈ wsX3_findingOfSheet := by decide +kernel
theorem kX3_findingOfSheet_4 : Cond.fieldLink RX3 35 "BeamSeats" "sheets" "[LBeamSeats$Sheet;" ∈ wsX3_findingOfSheet := List.mem_of_getElem? (i := 2) (by decide +kernel)
theorem kX3_findingOfSheet_5 : Cond.constant RX3 58 (-1000000001) ∈ wsX3_findingOfSheet := List.mem_of_getElem? (i := 1) (by decide +kernel)
def f_X3_findingOfSheet (N : Nat) (b : Nat → Nat → Int32) (R : Nat → Nat → Int32) (T : Nat → Nat → Int32) (K : Nat → Nat → Int32) (P : Nat → Nat → Int32) (B : Nat → Nat → Int32) (L : Nat → Nat → Int64) (p1 : Int32) : Option (Int32) :=
  q_bd (f_X3_within N p1 (0 : Int32) (3 : Int32)) (fun r_1 =>
  if r_1 = 0 then
    some (-1000000001 : Int32)
  else
    q_grd p1 4 (
    if (B (p1.toNatClampNeg) 0) = 0 then
      some (-1000000006 : Int32)
    else
      some (0 : Int32)))
set_option maxHeartbeats 4000000 in
set_option maxRecDepth 100000 in
theorem c_X3_findingOfSheet (l : Launch) (D : va_G) (y : Nat → ClassId) (t : Nat → Nat) (q : Nat → Nat) (sz N : Nat) (b : Nat → Nat → Int32) (R : Nat → Nat → Int32) (T : Nat → Nat → Int32) (K : Nat → Nat → Int32) (P : Nat → Nat → Int32) (B : Nat → Nat → Int32) (L : Nat → Nat → Int64) (p1 : Int32) (res : Int32) (h : f_X3_findingOfSheet N b R T K P B L p1 = some res) : Met l yX3_findingOfSheet wsX3_findingOfSheet ({ frames := 1, cells := 0, slots := 0, locals := 22 } : Room) (pPre D y t [.ref (q 0), .int p1] (wB y q b R T K P B L) sz) (pQi D y res (wB y q b R T K P B L) (va_A (wB y q b R T K P B L) sz)) 0 0 (va_A (wB y q b R T K P B L) sz) := by
  refine q_start (Qc := (fun A => pQi D y res (wB y q b R T K P B L) A)) (cc := cX3_findingOfSheet) (maxL := 2) (ret := (some .int)) (by decide) rfl (Nat.le_of_ble_eq_true rfl) ?_
  intro p e s m below meth c A ls hx hb hr hts hown hlocks hmn hml hP hK hZ hD hA hS hl
  have hl : lv_has ls 2 [(0, .ref (q 0)), (1, .int p1)] := hl
  have hown : s.vm.findClass RX3 = some m.cls := hown
  unfold f_X3_findingOfSheet at h
  refine lv_iload_n hx hb dX3_findingOfSheet_0 rfl (lv_at hl 1 rfl) ?_
  refine lv_iconst (v := 0) hx hb dX3_findingOfSheet_1 (by decide) ?_
  refine lv_iconst (v := 3) hx hb dX3_findingOfSheet_2 (by decide) ?_
  obtain ⟨r_1, hc_2, h⟩ := q_bd_ok h
  refine q_ci (r := r_1) (va_runS (As := [.int p1, .int (0 : Int32), .int (3 : Int32)]) (rest := []) ⟨hx, hb, hml, hown, hts⟩ (c_X3_within l D y t q _ N p1 (0 : Int32) (3 : Int32) r_1 hc_2) (va_cwS 3 hts gX3_findingOfSheet_X3_within rfl rfl rfl eX3_within ⟨Nat.le_of_ble_eq_true rfl, Nat.le_of_ble_eq_true rfl⟩) ⟨q_blind, (q_pre hP hK hZ hD hA hS [] rfl (by decide))⟩ rfl rfl hl.1 rfl (lv_room (Nat.le_of_ble_eq_true rfl)) dX3_findingOfSheet_3 ⟨Nat.zero_le _, Nat.zero_le _⟩) hP hD hA hS [] rfl (by decide) rfl (fun H locs hP hD hS => ?_)
  have hP : va_P D vwCl (wB y q b R T K P B L) H := hP
  have hD : va_D A (wB y q b R T K P B L) := hD
  refine lv_if_ne (tgt := 12) hx hb dX3_findingOfSheet_6 (by decide) (fun c_3 => ?_) (fun c_3 => ?_)
  · have h := q_f c_3 h
    refine lv_aload_n hx hb dX3_findingOfSheet_12 rfl (lv_at hl 0 rfl) ?_
    refine va_get (D := D) (ci := 3) (v := .ref (q 27)) (C := RX3) (T := TX3) (N := 7) hx hb hts uX3_findingOfSheet_X3 hown hK hP 0 rfl rfl 5 (by decide) (hts _ kX3_findingOfSheet_4) (fun _ h9 => h9) rfl dX3_findingOfSheet_13 ?_
    refine lv_iload_n hx hb dX3_findingOfSheet_16 rfl (lv_at hl 1 rfl) ?_
    obtain ⟨z_4, h⟩ := q_grd_ok h
    refine va_aldq hx hb hK hP 27 3 rfl rfl z_4 dX3_findingOfSheet_17 ?_
    refine W.eq (g2 := F0 m 18 ls [.ref (q (28 + 2 * p1.toNatClampNeg))]) rfl ?_
    refine va_get (D := D) (ci := 1) (v := .int (B (p1.toNatClampNeg) 0)) (C := RX1) (T := TX1) (N := 3) hx hb hts uX3_findingOfSheet_X1 hown hK hP (28 + 2 * p1.toNatClampNeg) (sh_o (q_in_lt z_4)) rfl 0 (by decide) (hts _ kX3_findingOfSheet_2) (fun _ h9 => h9) rfl dX3_findingOfSheet_18 ?_
    refine lv_if_ne (tgt := 29) hx hb dX3_findingOfSheet_21 (by decide) (fun c_5 => ?_) (fun c_5 => ?_)
    · have h := q_f c_5 h
      refine lv_iconst (v := 0) hx hb dX3_findingOfSheet_29 (by decide) ?_
      have e9 := Option.some.inj h
      exact q_iret hx hb hr hlocks hK hP hD hS dX3_findingOfSheet_30 (by first | rw [← e9] | rfl) (by first | rw [← e9] | rfl)
    · have h := q_t c_5 h
      refine lv_ldc (v := -1000000006) hx hb hown (hts _ kX3_findingOfSheet_0) dX3_findingOfSheet_24 ?_
      refine lv_goto (tgt := 30) hx hb dX3_findingOfSheet_26 (by decide) ?_
      have e9 := Option.some.inj h
      exact q_iret hx hb hr hlocks hK hP hD hS dX3_findingOfSheet_30 (by first | rw [← e9] | rfl) (by first | rw [← e9] | rfl)
  · have h := q_t c_3 h
    refine lv_ldc (v := -1000000001) hx hb hown (hts _ kX3_findingOfSheet_5) dX3_findingOfSheet_9 ?_
    have e9 := Option.some.inj h
    exact q_iret hx hb hr hlocks hK hP hD hS dX3_findingOfSheet_11 (by first | rw [← e9] | rfl) (by first | rw [← e9] | rfl)
theorem eX3_findingOfSheet : yX3_findingOfSheet.cls = RX3 ∧ yX3_findingOfSheet.cls ≠ "java/lang/invoke/MethodHandle" ∧ yX3_findingOfSheet.cls ≠ "java/lang/invoke/VarHandle" ∧ (parseMethodDescriptor yX3_findingOfSheet.desc).map (fun d => d.parameters.length) = some 1 := by decide +kernel
theorem uX3_write_X3 : ∀ w ∈ u_ws RX3 TX3 7, w ∈ wsX3_write := by decide +kernel
theorem kX3_write_1 : Cond.fieldLink RX3 35 "BeamSeats" "sheets" "[LBeamSeats$Sheet;" ∈ wsX3_write := List.mem_of_getElem? (i := 1) (by decide +kernel)
theorem uX3_write_X1 : ∀ w ∈ u_ws RX1 TX1 3, w ∈ wsX3_write := by decide +kernel
theorem kX3_write_3 : Cond.fieldLink RX3 189 "BeamSeats$Sheet" "numbers" "[J" ∈ wsX3_write := List.mem_of_getElem? (i := 4) (by decide +kernel)
theorem kX3_write_4 : Cond.constant RX3 58 (-1000000001) ∈ wsX3_write := List.mem_of_getElem? (i := 3) (by decide +kernel)
theorem kX3_write_5 : Cond.fieldLink RX3 185 "BeamSeats$Sheet" "size" "I" ∈ wsX3_write := List.mem_of_getElem? (i := 2) (by decide +kernel)
def f_X3_write (N : Nat) (b : Nat → Nat → Int32) (R : Nat → Nat → Int32) (T : Nat → Nat → Int32) (K : Nat → Nat → Int32) (P : Nat → Nat → Int32) (B : Nat → Nat → Int32) (L : Nat → Nat → Int64) (p1 : Int32) (p2 : Int32) (p3 : Int64) : Option (Int64 × (Nat → Nat → Int32) × (Nat → Nat → Int64)) :=
  q_bd (f_X3_findingOfSheet N b R T K P B L p1) (fun r_1 =>
  if r_1 = 0 then
    q_grd p1 4 (
    q_bd (f_X3_within N p2 (0 : Int32) ((B (p1.toNatClampNeg) 1) - (1 : Int32))) (fun r_5 =>
    if r_5 = 0 then
      q_bd2 (f_X3_found N b R T K P B L (-1000000001 : Int32)) (fun r_15 b_16 =>
      some ((r_15.toInt64), b_16, L))
    else
      q_grd p1 4 (
      q_grd p2 40 (
      q_let (L (p1.toNatClampNeg) p2.toNatClampNeg) (fun x_10 =>
      q_grd p1 4 (
      q_bd (f_X1_put N (B (p1.toNatClampNeg)) (L (p1.toNatClampNeg)) p2 p3) (fun E_12 =>
      q_let (va_up L (p1.toNatClampNeg) E_12) (fun L_14 =>
      some (x_10, b, L_14)))))))))
  else
    q_bd2 (f_X3_found N b R T K P B L r_1) (fun r_18 b_19 =>
    some ((r_18.toInt64), b_19, L)))
set_option maxHeartbeats 4000000 in
set_option maxRecDepth 100000 in
theorem c_X3_write (l : Launch) (D : va_G) (y : Nat → ClassId) (t : Nat → Nat) (q : Nat → Nat) (sz N : Nat) (b : Nat → Nat → Int32) (R : Nat → Nat → Int32) (T : Nat → Nat → Int32) (K : Nat → Nat → Int32) (P : Nat → Nat → Int32) (B : Nat → Nat → Int32) (L : Nat → Nat → Int64) (p1 : Int32) (p2 : Int32) (p3 : Int64) (res : Int64 × (Nat → Nat → Int32) × (Nat → Nat → Int64)) (h : f_X3_write N b R T K P B L p1 p2 p3 = some res) : Met l yX3_write wsX3_write ({ frames := 2, cells := 0, slots := 0, locals := 44 } : Room) (pPre D y t [.ref (q 0), .int p1, .int p2, .long p3] (wB y q b R T K P B L) sz) (pQl D y (res.1) (wB y q (res.2.1) R T K P B (res.2.2)) (va_A (wB y q b R T K P B L) sz)) 0 0 (va_A (wB y q b R T K P B L) sz) := by
  refine q_start (Qc := (fun A => pQl D y (res.1) (wB y q (res.2.1) R T K P B (res.2.2)) A)) (cc := cX3_write) (maxL := 8) (ret := (some .long)) (by decide) rfl (Nat.le_of_ble_eq_true rfl) ?_
  intro p e s m below meth c A ls hx hb hr hts hown hlocks hmn hml hP hK hZ hD hA hS hl
  have hl : lv_has ls 8 [(0, .ref (q 0)), (1, .int p1), (2, .int p2), (3, .long p3)] := hl
  have hown : s.vm.findClass RX3 = some m.cls := hown
  unfold f_X3_write at h
  refine lv_aload_n hx hb dX3_write_0 rfl (lv_at hl 0 rfl) ?_
  refine lv_iload_n hx hb dX3_write_1 rfl (lv_at hl 1 rfl) ?_
  obtain ⟨r_1, hc_2, h⟩ := q_bd_ok h
  refine q_ci0 (r := r_1) (va_runV (As := [.int p1]) (rest := []) ⟨hx, hb, hml, hown, hts⟩ (c_X3_findingOfSheet l D y t q _ N b R T K P B L p1 r_1 hc_2) (cwV 1 hts gX3_write_X3_findingOfSheet rfl rfl rfl eX3_findingOfSheet ⟨Nat.le_of_ble_eq_true rfl, Nat.le_of_ble_eq_true rfl⟩) ⟨q_blind, (va_recv hK hP (ci := 3) (q0 := 0) rfl rfl), (q_pre0 hP hK hZ hD hA hS)⟩ rfl rfl hl.1 rfl (lv_room (Nat.le_of_ble_eq_true rfl)) dX3_write_2 ⟨Nat.zero_le _, Nat.zero_le _⟩) hD hA hS (fun H locs hP hD hS => ?_)
  have hP : va_P D vwCl (wB y q b R T K P B L) H := hP
  have hD : va_D A (wB y q b R T K P B L) := hD
  refine lv_istore (lv' := [(5, .int r_1), (0, .ref (q 0)), (1, .int p1), (2, .int p2), (3, .long p3)]) hx hb dX3_write_5 hl (by decide) rfl (fun ls hl => ?_)
  refine lv_iload hx hb dX3_write_7 (lv_at hl 0 rfl) ?_
  refine lv_if_eq (tgt := 20) hx hb dX3_write_9 (by decide) (fun c_3 => ?_) (fun c_3 => ?_)
  · have h := q_t c_3 h
    refine lv_iload_n hx hb dX3_write_20 rfl (lv_at hl 3 rfl) ?_
    refine lv_iconst (v := 0) hx hb dX3_write_21 (by decide) ?_
    refine lv_aload_n hx hb dX3_write_22 rfl (lv_at hl 1 rfl) ?_
    refine va_get (D := D) (ci := 3) (v := .ref (q 27)) (C := RX3) (T := TX3) (N := 7) hx hb hts uX3_write_X3 hown hK hP 0 rfl rfl 5 (by decide) (hts _ kX3_write_1) (fun _ h9 => h9) rfl dX3_write_23 ?_
    refine lv_iload_n hx hb dX3_write_26 rfl (lv_at hl 2 rfl) ?_
    obtain ⟨z_4, h⟩ := q_grd_ok h
    refine va_aldq hx hb hK hP 27 3 rfl rfl z_4 dX3_write_27 ?_
    refine W.eq (g2 := F0 m 28 ls [.ref (q (28 + 2 * p1.toNatClampNeg)), .int (0 : Int32), .int p2]) rfl ?_
    refine va_get (D := D) (ci := 1) (v := .int (B (p1.toNatClampNeg) 1)) (C := RX1) (T := TX1) (N := 3) hx hb hts uX3_write_X1 hown hK hP (28 + 2 * p1.toNatClampNeg) (sh_o (q_in_lt z_4)) rfl 1 (by decide) (hts _ kX3_write_5) (fun _ h9 => h9) rfl dX3_write_28 ?_
    refine lv_iconst (v := 1) hx hb dX3_write_31 (by decide) ?_
    refine lv_isub hx hb dX3_write_32 ?_
    obtain ⟨r_5, hc_6, h⟩ := q_bd_ok h
    refine q_ci (r := r_5) (va_runS (As := [.int p2, .int (0 : Int32), .int ((B (p1.toNatClampNeg) 1) - (1 : Int32))]) (rest := []) ⟨hx, hb, hml, hown, hts⟩ (c_X3_within l D y t q _ N p2 (0 : Int32) ((B (p1.toNatClampNeg) 1) - (1 : Int32)) r_5 hc_6) (va_cwS 3 hts gX3_write_X3_within rfl rfl rfl eX3_within ⟨Nat.le_of_ble_eq_true rfl, Nat.le_of_ble_eq_true rfl⟩) ⟨q_blind, (q_pre hP hK hZ hD hA hS [] rfl (by decide))⟩ rfl rfl hl.1 rfl (lv_room (Nat.le_of_ble_eq_true rfl)) dX3_write_33 ⟨Nat.zero_le _, Nat.zero_le _⟩) hP hD hA hS [] rfl (by decide) rfl (fun H locs hP hD hS => ?_)
    have hP : va_P D vwCl (wB y q b R T K P B L) H := hP
    have hD : va_D A (wB y q b R T K P B L) := hD
    refine lv_if_ne (tgt := 47) hx hb dX3_write_36 (by decide) (fun c_7 => ?_) (fun c_7 => ?_)
    · have h := q_f c_7 h
      refine lv_aload_n hx hb dX3_write_47 rfl (lv_at hl 1 rfl) ?_
      refine va_get (D := D) (ci := 3) (v := .ref (q 27)) (C := RX3) (T := TX3) (N := 7) hx hb hts uX3_write_X3 hown hK hP 0 rfl rfl 5 (by decide) (hts _ kX3_write_1) (fun _ h9 => h9) rfl dX3_write_48 ?_
      refine lv_iload_n hx hb dX3_write_51 rfl (lv_at hl 2 rfl) ?_
      obtain ⟨z_8, h⟩ := q_grd_ok h
      refine va_aldq hx hb hK hP 27 3 rfl rfl z_8 dX3_write_52 ?_
      refine W.eq (g2 := F0 m 53 ls [.ref (q (28 + 2 * p1.toNatClampNeg))]) rfl ?_
      refine va_get (D := D) (ci := 1) (v := .ref (q (29 + 2 * p1.toNatClampNeg))) (C := RX1) (T := TX1) (N := 3) hx hb hts uX3_write_X1 hown hK hP (28 + 2 * p1.toNatClampNeg) (sh_o (q_in_lt z_8)) rfl 2 (by decide) (hts _ kX3_write_3) (fun _ h9 => h9) rfl dX3_write_53 ?_
      refine lv_iload_n hx hb dX3_write_56 rfl (lv_at hl 3 rfl) ?_
      obtain ⟨z_9, h⟩ := q_grd_ok h
      refine va_lald hx hb hK hP (29 + 2 * p1.toNatClampNeg) 2 (sh_n (q_in_lt z_8)) rfl z_9 dX3_write_57 ?_
      refine lv_topl (fun x_10 ex_10 => ?_)
      have h := q_let_at ex_10 h
      refine lv_lstore (lv' := [(6, .long x_10), (5, .int r_1), (0, .ref (q 0)), (1, .int p1), (2, .int p2), (3, .long p3)]) hx hb dX3_write_58 hl (by decide) rfl (fun ls hl => ?_)
      refine lv_aload_n hx hb dX3_write_60 rfl (lv_at hl 2 rfl) ?_
      refine va_get (D := D) (ci := 3) (v := .ref (q 27)) (C := RX3) (T := TX3) (N := 7) hx hb hts uX3_write_X3 hown hK hP 0 rfl rfl 5 (by decide) (hts _ kX3_write_1) (fun _ h9 => h9) rfl dX3_write_61 ?_
      refine lv_iload_n hx hb dX3_write_64 rfl (lv_at hl 3 rfl) ?_
      obtain ⟨z_11, h⟩ := q_grd_ok h
      refine va_aldq hx hb hK hP 27 3 rfl rfl z_11 dX3_write_65 ?_
      refine W.eq (g2 := F0 m 66 ls [.ref (q (28 + 2 * p1.toNatClampNeg))]) rfl ?_
      refine lv_iload_n hx hb dX3_write_66 rfl (lv_at hl 4 rfl) ?_
      refine lv_lload_n hx hb dX3_write_67 rfl (lv_at hl 5 rfl) ?_
      obtain ⟨E_12, hc_13, h⟩ := q_bd_ok h
      obtain ⟨L_14, eL_14, h⟩ := q_let_ok h
      refine q_cv (va_runV (As := [.int p2, .long p3]) (rest := []) ⟨hx, hb, hml, hown, hts⟩ (c_X1_put l D y t (fun k => q (28 + 2 * p1.toNatClampNeg + k)) _ N (B (p1.toNatClampNeg)) (L (p1.toNatClampNeg)) p2 p3 E_12 hc_13) (cwV 2 hts gX3_write_X1_put rfl rfl rfl eX1_put ⟨Nat.le_of_ble_eq_true rfl, Nat.le_of_ble_eq_true rfl⟩) ⟨q_blind, (va_recv hK hP (ci := 1) (q0 := 28 + 2 * p1.toNatClampNeg) rfl (sh_o (q_in_lt z_11))), (q_pre hP hK hZ hD hA hS [28 + 2 * p1.toNatClampNeg, 29 + 2 * p1.toNatClampNeg] (sk_cut (q_in_lt z_11)) (sh_nd (p1.toNatClampNeg)))⟩ rfl rfl hl.1 rfl (lv_room (Nat.le_of_ble_eq_true rfl)) dX3_write_68 ⟨Nat.zero_le _, Nat.zero_le _⟩) hP hD hA hS [28 + 2 * p1.toNatClampNeg, 29 + 2 * p1.toNatClampNeg] (sk_cut (q_in_lt z_11)) (sh_nd (p1.toNatClampNeg)) rfl (fun H locs hP hD hS => ?_)
      have hP : va_P D vwCl (wB y q b R T K P B L_14) H := by rw [eL_14, ← sk_setsL (q_in_lt z_11) _]; exact hP
      have hD : va_D A (wB y q b R T K P B L_14) := by rw [eL_14, ← sk_setsL (q_in_lt z_11) _]; exact hD
      refine lv_lload hx hb dX3_write_71 (lv_at hl 0 rfl) ?_
      have e9 := Option.some.inj h
      exact q_lret hx hb hr hlocks hK hP hD hS dX3_write_73 (by first | rw [← e9] | rfl) (by first | rw [← e9] | rfl)
    · have h := q_t c_7 h
      refine lv_aload_n hx hb dX3_write_39 rfl (lv_at hl 1 rfl) ?_
      refine lv_ldc (v := -1000000001) hx hb hown (hts _ kX3_write_4) dX3_write_40 ?_
      obtain ⟨r_15, b_16, hc_17, h⟩ := q_bd2_ok h
      refine q_ci0 (r := r_15) (va_runV (As := [.int (-1000000001 : Int32)]) (rest := []) ⟨hx, hb, hml, hown, hts⟩ (c_X3_found l D y t q _ N b R T K P B L (-1000000001 : Int32) (r_15, b_16) hc_17) (cwV 1 hts gX3_write_X3_found rfl rfl rfl eX3_found ⟨Nat.le_of_ble_eq_true rfl, Nat.le_of_ble_eq_true rfl⟩) ⟨q_blind, (va_recv hK hP (ci := 3) (q0 := 0) rfl rfl), (q_pre0 hP hK hZ hD hA hS)⟩ rfl rfl hl.1 rfl (lv_room (Nat.le_of_ble_eq_true rfl)) dX3_write_42 ⟨Nat.zero_le _, Nat.zero_le _⟩) hD hA hS (fun H locs hP hD hS => ?_)
      have hP : va_P D vwCl (wB y q b_16 R T K P B L) H := hP
      have hD : va_D A (wB y q b_16 R T K P B L) := hD
      refine lv_i2l hx hb dX3_write_45 rfl ?_
      have e9 := Option.some.inj h
      exact q_lret hx hb hr hlocks hK hP hD hS dX3_write_46 (by first | rw [← e9] | rfl) (by first | rw [← e9] | rfl)
  · have h := q_f c_3 h
    refine lv_aload_n hx hb dX3_write_12 rfl (lv_at hl 1 rfl) ?_
    refine lv_iload hx hb dX3_write_13 (lv_at hl 0 rfl) ?_
    obtain ⟨r_18, b_19, hc_20, h⟩ := q_bd2_ok h
    refine q_ci0 (r := r_18) (va_runV (As := [.int r_1]) (rest := []) ⟨hx, hb, hml, hown, hts⟩ (c_X3_found l D y t q _ N b R T K P B L r_1 (r_18, b_19) hc_20) (cwV 1 hts gX3_write_X3_found rfl rfl rfl eX3_found ⟨Nat.le_of_ble_eq_true rfl, Nat.le_of_ble_eq_true rfl⟩) ⟨q_blind, (va_recv hK hP (ci := 3) (q0 := 0) rfl rfl), (q_pre0 hP hK hZ hD hA hS)⟩ rfl rfl hl.1 rfl (lv_room (Nat.le_of_ble_eq_true rfl)) dX3_write_15 ⟨Nat.zero_le _, Nat.zero_le _⟩) hD hA hS (fun H locs hP hD hS => ?_)
    have hP : va_P D vwCl (wB y q b_19 R T K P B L) H := hP
    have hD : va_D A (wB y q b_19 R T K P B L) := hD
    refine lv_i2l hx hb dX3_write_18 rfl ?_
    have e9 := Option.some.inj h
    exact q_lret hx hb hr hlocks hK hP hD hS dX3_write_19 (by first | rw [← e9] | rfl) (by first | rw [← e9] | rfl)
theorem eX3_write : yX3_write.cls = RX3 ∧ yX3_write.cls ≠ "java/lang/invoke/MethodHandle" ∧ yX3_write.cls ≠ "java/lang/invoke/VarHandle" ∧ (parseMethodDescriptor yX3_write.desc).map (fun d => d.parameters.length) = some 3 := by decide +kernel
theorem kX3_copy_0 : Cond.constant RX3 58 (-1000000001) ∈ wsX3_copy := List.mem_of_getElem? (i := 1) (by decide +kernel)
theorem kX3_copy_1 : Cond.constant RX3 200 (-1000000006) ∈ wsX3_copy := List.mem_of_getElem? (i := 4) (by decide +kernel)
theorem kX3_copy_2 : Cond.methodLink RX3 204 arraycopyName ∈ wsX3_copy := List.mem_of_getElem? (i := 7) (by decide +kernel)
theorem kX3_copy_3 : Cond.native arraycopyName ∈ wsX3_copy := List.mem_of_getElem? (i := 8) (by decide +kernel)
theorem kX3_copy_4 : Cond.static arraycopyName ∈ wsX3_copy := List.mem_of_getElem? (i := 9) (by decide +kernel)
theorem kX3_copy_5 : Cond.initialized "java/lang/System" ∈ wsX3_copy := List.mem_of_getElem? (i := 10) (by decide +kernel)
theorem uX3_copy_X1 : ∀ w ∈ u_ws RX1 TX1 3, w ∈ wsX3_copy := by decide +kernel
theorem kX3_copy_7 : Cond.fieldLink RX3 189 "BeamSeats$Sheet" "numbers" "[J" ∈ wsX3_copy := List.mem_of_getElem? (i := 6) (by decide +kernel)
theorem uX3_copy_X3 : ∀ w ∈ u_ws RX3 TX3 7, w ∈ wsX3_copy := by decide +kernel
theorem kX3_copy_9 : Cond.fieldLink RX3 35 "BeamSeats" "sheets" "[LBeamSeats$Sheet;" ∈ wsX3_copy := List.mem_of_getElem? (i := 2) (by decide +kernel)
theorem kX3_copy_10 : Cond.constant RX3 136 (-1000000003) ∈ wsX3_copy := List.mem_of_getElem? (i := 5) (by decide +kernel)
theorem kX3_copy_11 : Cond.fieldLink RX3 197 "BeamSeats$Sheet" "bits" "I" ∈ wsX3_copy := List.mem_of_getElem? (i := 3) (by decide +kernel)
def f_X3_copy_B18 (N : Nat) (b : Nat → Nat → Int32) (R : Nat → Nat → Int32) (T : Nat → Nat → Int32) (K : Nat → Nat → Int32) (P : Nat → Nat → Int32) (B : Nat → Nat → Int32) (L : Nat → Nat → Int64) : Option (Int32 × (Nat → Nat → Int32) × (Nat → Nat → Int64)) :=
  q_bd2 (f_X3_found N b R T K P B L (-1000000001 : Int32)) (fun r_4 b_5 =>
  some (r_4, b_5, L))
def f_X3_copy_B49 (N : Nat) (b : Nat → Nat → Int32) (R : Nat → Nat → Int32) (T : Nat → Nat → Int32) (K : Nat → Nat → Int32) (P : Nat → Nat → Int32) (B : Nat → Nat → Int32) (L : Nat → Nat → Int64) : Option (Int32 × (Nat → Nat → Int32) × (Nat → Nat → Int64)) :=
  q_bd2 (f_X3_found N b R T K P B L (-1000000006 : Int32)) (fun r_12 b_13 =>
  some (r_12, b_13, L))
def f_X3_copy_B115 (N : Nat) (b : Nat → Nat → Int32) (R : Nat → Nat → Int32) (T : Nat → Nat → Int32) (K : Nat → Nat → Int32) (P : Nat → Nat → Int32) (B : Nat → Nat → Int32) (L : Nat → Nat → Int64) : Option (Int32 × (Nat → Nat → Int32) × (Nat → Nat → Int64)) :=
  q_bd2 (f_X3_found N b R T K P B L (-1000000001 : Int32)) (fun r_24 b_25 =>
  some (r_24, b_25, L))
def f_X3_copy (N : Nat) (b : Nat → Nat → Int32) (R : Nat → Nat → Int32) (T : Nat → Nat → Int32) (K : Nat → Nat → Int32) (P : Nat → Nat → Int32) (B : Nat → Nat → Int32) (L : Nat → Nat → Int64) (p1 : Int32) (p2 : Int32) (p3 : Int32) (p4 : Int32) (p5 : Int32) : Option (Int32 × (Nat → Nat → Int32) × (Nat → Nat → Int64)) :=
  q_bd (f_X3_within N p1 (0 : Int32) (3 : Int32)) (fun r_1 =>
  if r_1 = 0 then
    f_X3_copy_B18 N b R T K P B L
  else
    q_bd (f_X3_within N p3 (0 : Int32) (3 : Int32)) (fun r_7 =>
    if r_7 = 0 then
      f_X3_copy_B18 N b R T K P B L
    else
      q_grd p1 4 (
      if (B (p1.toNatClampNeg) 0) = 0 then
        f_X3_copy_B49 N b R T K P B L
      else
        q_grd p3 4 (
        if (B (p3.toNatClampNeg) 0) = 0 then
          f_X3_copy_B49 N b R T K P B L
        else
          q_grd p1 4 (
          q_grd p3 4 (
          if (B (p1.toNatClampNeg) 0) = (B (p3.toNatClampNeg) 0) then
            q_grd p1 4 (
            q_bd (f_X1_hasNumbers N (B (p1.toNatClampNeg)) (L (p1.toNatClampNeg)) p2 p5) (fun r_21 =>
            if r_21 = 0 then
              f_X3_copy_B115 N b R T K P B L
            else
              q_grd p3 4 (
              q_bd (f_X1_hasNumbers N (B (p3.toNatClampNeg)) (L (p3.toNatClampNeg)) p4 p5) (fun r_28 =>
              if r_28 = 0 then
                f_X3_copy_B115 N b R T K P B L
              else
                q_grd p1 4 (
                q_grd p3 4 (
                q_cp p2 p4 p5 (
                q_let (va_up L (p3.toNatClampNeg) (va_cpy (L (p1.toNatClampNeg)) (L (p3.toNatClampNeg)) p2.toNatClampNeg p4.toNatClampNeg p5.toNatClampNeg)) (fun L_33 =>
                some (p5, b, L_33)))))))))
          else
            q_bd2 (f_X3_found N b R T K P B L (-1000000003 : Int32)) (fun r_35 b_36 =>
            some (r_35, b_36, L))))))))
set_option maxHeartbeats 4000000 in
set_option maxRecDepth 100000 in
theorem c_X3_copy (l : Launch) (D : va_G) (y : Nat → ClassId) (t : Nat → Nat) (q : Nat → Nat) (sz N : Nat) (b : Nat → Nat → Int32) (R : Nat → Nat → Int32) (T : Nat → Nat → Int32) (K : Nat → Nat → Int32) (P : Nat → Nat → Int32) (B : Nat → Nat → Int32) (L : Nat → Nat → Int64) (p1 : Int32) (p2 : Int32) (p3 : Int32) (p4 : Int32) (p5 : Int32) (res : Int32 × (Nat → Nat → Int32) × (Nat → Nat → Int64)) (h : f_X3_copy N b R T K P B L p1 p2 p3 p4 p5 = some res) : Met l yX3_copy wsX3_copy ({ frames := 2, cells := 0, slots := 0, locals := 60 } : Room) (pPre D y t [.ref (q 0), .int p1, .int p2, .int p3, .int p4, .int p5] (wB y q b R T K P B L) sz) (pQi D y (res.1) (wB y q (res.2.1) R T K P B (res.2.2)) (va_A (wB y q b R T K P B L) sz)) 0 0 (va_A (wB y q b R T K P B L) sz) := by
  refine q_start (Qc := (fun A => pQi D y (res.1) (wB y q (res.2.1) R T K P B (res.2.2)) A)) (cc := cX3_copy) (maxL := 6) (ret := (some .int)) (by decide) rfl (Nat.le_of_ble_eq_true rfl) ?_
  intro p e s m below meth c A ls hx hb hr hts hown hlocks hmn hml hP hK hZ hD hA hS hl
  have hl : lv_has ls 6 [(0, .ref (q 0)), (1, .int p1), (2, .int p2), (3, .int p3), (4, .int p4), (5, .int p5)] := hl
  have hown : s.vm.findClass RX3 = some m.cls := hown
  have B18 : ∀ (b : Nat → Nat → Int32) (R : Nat → Nat → Int32) (T : Nat → Nat → Int32) (K : Nat → Nat → Int32) (P : Nat → Nat → Int32) (B : Nat → Nat → Int32) (L : Nat → Nat → Int64) (H : Heap) (locs : List Loc) (ls : Array Slot), va_P D vwCl (wB y q b R T K P B L) H → va_D A (wB y q b R T K P B L) → va_S A s.heap H locs → lv_has ls 6 [(0, .ref (q 0))] → f_X3_copy_B18 N b R T K P B L = some res → W p l e ({ frames := 2, cells := 0, slots := 0, locals := 60 } : Room) s m ([.ref (q 0), .int p1, .int p2, .int p3, .int p4, .int p5] : List Value).toArray below meth c H locs 0 0 (MQ below (pQi D y (res.1) (wB y q (res.2.1) R T K P B (res.2.2)) A) ([.ref (q 0), .int p1, .int p2, .int p3, .int p4, .int p5] : List Value).toArray s 0 0 A) (F0 m 18 ls []) := by
    intro b R T K P B L H locs ls hP hD hS hl h
    unfold f_X3_copy_B18 at h
    refine lv_aload_n hx hb dX3_copy_18 rfl (lv_at hl 0 rfl) ?_
    refine lv_ldc (v := -1000000001) hx hb hown (hts _ kX3_copy_0) dX3_copy_19 ?_
    obtain ⟨r_4, b_5, hc_6, h⟩ := q_bd2_ok h
    refine q_ci0 (r := r_4) (va_runV (As := [.int (-1000000001 : Int32)]) (rest := []) ⟨hx, hb, hml, hown, hts⟩ (c_X3_found l D y t q _ N b R T K P B L (-1000000001 : Int32) (r_4, b_5) hc_6) (cwV 1 hts gX3_copy_X3_found rfl rfl rfl eX3_found ⟨Nat.le_of_ble_eq_true rfl, Nat.le_of_ble_eq_true rfl⟩) ⟨q_blind, (va_recv hK hP (ci := 3) (q0 := 0) rfl rfl), (q_pre0 hP hK hZ hD hA hS)⟩ rfl rfl hl.1 rfl (lv_room (Nat.le_of_ble_eq_true rfl)) dX3_copy_21 ⟨Nat.zero_le _, Nat.zero_le _⟩) hD hA hS (fun H locs hP hD hS => ?_)
    have hP : va_P D vwCl (wB y q b_5 R T K P B L) H := hP
    have hD : va_D A (wB y q b_5 R T K P B L) := hD
    have e9 := Option.some.inj h
    exact q_iret hx hb hr hlocks hK hP hD hS dX3_copy_24 (by first | rw [← e9] | rfl) (by first | rw [← e9] | rfl)
  have B49 : ∀ (b : Nat → Nat → Int32) (R : Nat → Nat → Int32) (T : Nat → Nat → Int32) (K : Nat → Nat → Int32) (P : Nat → Nat → Int32) (B : Nat → Nat → Int32) (L : Nat → Nat → Int64) (H : Heap) (locs : List Loc) (ls : Array Slot), va_P D vwCl (wB y q b R T K P B L) H → va_D A (wB y q b R T K P B L) → va_S A s.heap H locs → lv_has ls 6 [(0, .ref (q 0))] → f_X3_copy_B49 N b R T K P B L = some res → W p l e ({ frames := 2, cells := 0, slots := 0, locals := 60 } : Room) s m ([.ref (q 0), .int p1, .int p2, .int p3, .int p4, .int p5] : List Value).toArray below meth c H locs 0 0 (MQ below (pQi D y (res.1) (wB y q (res.2.1) R T K P B (res.2.2)) A) ([.ref (q 0), .int p1, .int p2, .int p3, .int p4, .int p5] : List Value).toArray s 0 0 A) (F0 m 49 ls []) := by
    intro b R T K P B L H locs ls hP hD hS hl h
    unfold f_X3_copy_B49 at h
    refine lv_aload_n hx hb dX3_copy_49 rfl (lv_at hl 0 rfl) ?_
    refine lv_ldc (v := -1000000006) hx hb hown (hts _ kX3_copy_1) dX3_copy_50 ?_
    obtain ⟨r_12, b_13, hc_14, h⟩ := q_bd2_ok h
    refine q_ci0 (r := r_12) (va_runV (As := [.int (-1000000006 : Int32)]) (rest := []) ⟨hx, hb, hml, hown, hts⟩ (c_X3_found l D y t q _ N b R T K P B L (-1000000006 : Int32) (r_12, b_13) hc_14) (cwV 1 hts gX3_copy_X3_found rfl rfl rfl eX3_found ⟨Nat.le_of_ble_eq_true rfl, Nat.le_of_ble_eq_true rfl⟩) ⟨q_blind, (va_recv hK hP (ci := 3) (q0 := 0) rfl rfl), (q_pre0 hP hK hZ hD hA hS)⟩ rfl rfl hl.1 rfl (lv_room (Nat.le_of_ble_eq_true rfl)) dX3_copy_52 ⟨Nat.zero_le _, Nat.zero_le _⟩) hD hA hS (fun H locs hP hD hS => ?_)
    have hP : va_P D vwCl (wB y q b_13 R T K P B L) H := hP
    have hD : va_D A (wB y q b_13 R T K P B L) := hD
    have e9 := Option.some.inj h
    exact q_iret hx hb hr hlocks hK hP hD hS dX3_copy_55 (by first | rw [← e9] | rfl) (by first | rw [← e9] | rfl)
  have B115 : ∀ (b : Nat → Nat → Int32) (R : Nat → Nat → Int32) (T : Nat → Nat → Int32) (K : Nat → Nat → Int32) (P : Nat → Nat → Int32) (B : Nat → Nat → Int32) (L : Nat → Nat → Int64) (H : Heap) (locs : List Loc) (ls : Array Slot), va_P D vwCl (wB y q b R T K P B L) H → va_D A (wB y q b R T K P B L) → va_S A s.heap H locs → lv_has ls 6 [(0, .ref (q 0))] → f_X3_copy_B115 N b R T K P B L = some res → W p l e ({ frames := 2, cells := 0, slots := 0, locals := 60 } : Room) s m ([.ref (q 0), .int p1, .int p2, .int p3, .int p4, .int p5] : List Value).toArray below meth c H locs 0 0 (MQ below (pQi D y (res.1) (wB y q (res.2.1) R T K P B (res.2.2)) A) ([.ref (q 0), .int p1, .int p2, .int p3, .int p4, .int p5] : List Value).toArray s 0 0 A) (F0 m 115 ls []) := by
    intro b R T K P B L H locs ls hP hD hS hl h
    unfold f_X3_copy_B115 at h
    refine lv_aload_n hx hb dX3_copy_115 rfl (lv_at hl 0 rfl) ?_
    refine lv_ldc (v := -1000000001) hx hb hown (hts _ kX3_copy_0) dX3_copy_116 ?_
    obtain ⟨r_24, b_25, hc_26, h⟩ := q_bd2_ok h
    refine q_ci0 (r := r_24) (va_runV (As := [.int (-1000000001 : Int32)]) (rest := []) ⟨hx, hb, hml, hown, hts⟩ (c_X3_found l D y t q _ N b R T K P B L (-1000000001 : Int32) (r_24, b_25) hc_26) (cwV 1 hts gX3_copy_X3_found rfl rfl rfl eX3_found ⟨Nat.le_of_ble_eq_true rfl, Nat.le_of_ble_eq_true rfl⟩) ⟨q_blind, (va_recv hK hP (ci := 3) (q0 := 0) rfl rfl), (q_pre0 hP hK hZ hD hA hS)⟩ rfl rfl hl.1 rfl (lv_room (Nat.le_of_ble_eq_true rfl)) dX3_copy_118 ⟨Nat.zero_le _, Nat.zero_le _⟩) hD hA hS (fun H locs hP hD hS => ?_)
    have hP : va_P D vwCl (wB y q b_25 R T K P B L) H := hP
    have hD : va_D A (wB y q b_25 R T K P B L) := hD
    have e9 := Option.some.inj h
    exact q_iret hx hb hr hlocks hK hP hD hS dX3_copy_121 (by first | rw [← e9] | rfl) (by first | rw [← e9] | rfl)
  unfold f_X3_copy at h
  refine lv_iload_n hx hb dX3_copy_0 rfl (lv_at hl 1 rfl) ?_
  refine lv_iconst (v := 0) hx hb dX3_copy_1 (by decide) ?_
  refine lv_iconst (v := 3) hx hb dX3_copy_2 (by decide) ?_
  obtain ⟨r_1, hc_2, h⟩ := q_bd_ok h
  refine q_ci (r := r_1) (va_runS (As := [.int p1, .int (0 : Int32), .int (3 : Int32)]) (rest := []) ⟨hx, hb, hml, hown, hts⟩ (c_X3_within l D y t q _ N p1 (0 : Int32) (3 : Int32) r_1 hc_2) (va_cwS 3 hts gX3_copy_X3_within rfl rfl rfl eX3_within ⟨Nat.le_of_ble_eq_true rfl, Nat.le_of_ble_eq_true rfl⟩) ⟨q_blind, (q_pre hP hK hZ hD hA hS [] rfl (by decide))⟩ rfl rfl hl.1 rfl (lv_room (Nat.le_of_ble_eq_true rfl)) dX3_copy_3 ⟨Nat.zero_le _, Nat.zero_le _⟩) hP hD hA hS [] rfl (by decide) rfl (fun H locs hP hD hS => ?_)
  have hP : va_P D vwCl (wB y q b R T K P B L) H := hP
  have hD : va_D A (wB y q b R T K P B L) := hD
  refine lv_if_eq (tgt := 18) hx hb dX3_copy_6 (by decide) (fun c_3 => ?_) (fun c_3 => ?_)
  · have h := q_t c_3 h
    exact B18 b R T K P B L _ _ _ hP hD hS (lv_sub hl [0] rfl) h
  · have h := q_f c_3 h
    refine lv_iload_n hx hb dX3_copy_9 rfl (lv_at hl 3 rfl) ?_
    refine lv_iconst (v := 0) hx hb dX3_copy_10 (by decide) ?_
    refine lv_iconst (v := 3) hx hb dX3_copy_11 (by decide) ?_
    obtain ⟨r_7, hc_8, h⟩ := q_bd_ok h
    refine q_ci (r := r_7) (va_runS (As := [.int p3, .int (0 : Int32), .int (3 : Int32)]) (rest := []) ⟨hx, hb, hml, hown, hts⟩ (c_X3_within l D y t q _ N p3 (0 : Int32) (3 : Int32) r_7 hc_8) (va_cwS 3 hts gX3_copy_X3_within rfl rfl rfl eX3_within ⟨Nat.le_of_ble_eq_true rfl, Nat.le_of_ble_eq_true rfl⟩) ⟨q_blind, (q_pre hP hK hZ hD hA hS [] rfl (by decide))⟩ rfl rfl hl.1 rfl (lv_room (Nat.le_of_ble_eq_true rfl)) dX3_copy_12 ⟨Nat.zero_le _, Nat.zero_le _⟩) hP hD hA hS [] rfl (by decide) rfl (fun H locs hP hD hS => ?_)
    have hP : va_P D vwCl (wB y q b R T K P B L) H := hP
    have hD : va_D A (wB y q b R T K P B L) := hD
    refine lv_if_ne (tgt := 25) hx hb dX3_copy_15 (by decide) (fun c_9 => ?_) (fun c_9 => ?_)
    · have h := q_f c_9 h
      refine lv_aload_n hx hb dX3_copy_25 rfl (lv_at hl 0 rfl) ?_
      refine va_get (D := D) (ci := 3) (v := .ref (q 27)) (C := RX3) (T := TX3) (N := 7) hx hb hts uX3_copy_X3 hown hK hP 0 rfl rfl 5 (by decide) (hts _ kX3_copy_9) (fun _ h9 => h9) rfl dX3_copy_26 ?_
      refine lv_iload_n hx hb dX3_copy_29 rfl (lv_at hl 1 rfl) ?_
      obtain ⟨z_10, h⟩ := q_grd_ok h
      refine va_aldq hx hb hK hP 27 3 rfl rfl z_10 dX3_copy_30 ?_
      refine W.eq (g2 := F0 m 31 ls [.ref (q (28 + 2 * p1.toNatClampNeg))]) rfl ?_
      refine va_get (D := D) (ci := 1) (v := .int (B (p1.toNatClampNeg) 0)) (C := RX1) (T := TX1) (N := 3) hx hb hts uX3_copy_X1 hown hK hP (28 + 2 * p1.toNatClampNeg) (sh_o (q_in_lt z_10)) rfl 0 (by decide) (hts _ kX3_copy_11) (fun _ h9 => h9) rfl dX3_copy_31 ?_
      refine lv_if_eq (tgt := 49) hx hb dX3_copy_34 (by decide) (fun c_11 => ?_) (fun c_11 => ?_)
      · have h := q_t c_11 h
        exact B49 b R T K P B L _ _ _ hP hD hS (lv_sub hl [0] rfl) h
      · have h := q_f c_11 h
        refine lv_aload_n hx hb dX3_copy_37 rfl (lv_at hl 0 rfl) ?_
        refine va_get (D := D) (ci := 3) (v := .ref (q 27)) (C := RX3) (T := TX3) (N := 7) hx hb hts uX3_copy_X3 hown hK hP 0 rfl rfl 5 (by decide) (hts _ kX3_copy_9) (fun _ h9 => h9) rfl dX3_copy_38 ?_
        refine lv_iload_n hx hb dX3_copy_41 rfl (lv_at hl 3 rfl) ?_
        obtain ⟨z_15, h⟩ := q_grd_ok h
        refine va_aldq hx hb hK hP 27 3 rfl rfl z_15 dX3_copy_42 ?_
        refine W.eq (g2 := F0 m 43 ls [.ref (q (28 + 2 * p3.toNatClampNeg))]) rfl ?_
        refine va_get (D := D) (ci := 1) (v := .int (B (p3.toNatClampNeg) 0)) (C := RX1) (T := TX1) (N := 3) hx hb hts uX3_copy_X1 hown hK hP (28 + 2 * p3.toNatClampNeg) (sh_o (q_in_lt z_15)) rfl 0 (by decide) (hts _ kX3_copy_11) (fun _ h9 => h9) rfl dX3_copy_43 ?_
        refine lv_if_ne (tgt := 56) hx hb dX3_copy_46 (by decide) (fun c_16 => ?_) (fun c_16 => ?_)
        · have h := q_f c_16 h
          refine lv_aload_n hx hb dX3_copy_56 rfl (lv_at hl 0 rfl) ?_
          refine va_get (D := D) (ci := 3) (v := .ref (q 27)) (C := RX3) (T := TX3) (N := 7) hx hb hts uX3_copy_X3 hown hK hP 0 rfl rfl 5 (by decide) (hts _ kX3_copy_9) (fun _ h9 => h9) rfl dX3_copy_57 ?_
          refine lv_iload_n hx hb dX3_copy_60 rfl (lv_at hl 1 rfl) ?_
          obtain ⟨z_17, h⟩ := q_grd_ok h
          refine va_aldq hx hb hK hP 27 3 rfl rfl z_17 dX3_copy_61 ?_
          refine W.eq (g2 := F0 m 62 ls [.ref (q (28 + 2 * p1.toNatClampNeg))]) rfl ?_
          refine va_get (D := D) (ci := 1) (v := .int (B (p1.toNatClampNeg) 0)) (C := RX1) (T := TX1) (N := 3) hx hb hts uX3_copy_X1 hown hK hP (28 + 2 * p1.toNatClampNeg) (sh_o (q_in_lt z_17)) rfl 0 (by decide) (hts _ kX3_copy_11) (fun _ h9 => h9) rfl dX3_copy_62 ?_
          refine lv_aload_n hx hb dX3_copy_65 rfl (lv_at hl 0 rfl) ?_
          refine va_get (D := D) (ci := 3) (v := .ref (q 27)) (C := RX3) (T := TX3) (N := 7) hx hb hts uX3_copy_X3 hown hK hP 0 rfl rfl 5 (by decide) (hts _ kX3_copy_9) (fun _ h9 => h9) rfl dX3_copy_66 ?_
          refine lv_iload_n hx hb dX3_copy_69 rfl (lv_at hl 3 rfl) ?_
          obtain ⟨z_18, h⟩ := q_grd_ok h
          refine va_aldq hx hb hK hP 27 3 rfl rfl z_18 dX3_copy_70 ?_
          refine W.eq (g2 := F0 m 71 ls [.ref (q (28 + 2 * p3.toNatClampNeg)), .int (B (p1.toNatClampNeg) 0)]) rfl ?_
          refine va_get (D := D) (ci := 1) (v := .int (B (p3.toNatClampNeg) 0)) (C := RX1) (T := TX1) (N := 3) hx hb hts uX3_copy_X1 hown hK hP (28 + 2 * p3.toNatClampNeg) (sh_o (q_in_lt z_18)) rfl 0 (by decide) (hts _ kX3_copy_11) (fun _ h9 => h9) rfl dX3_copy_71 ?_
          refine lv_icmp_eq (tgt := 84) hx hb dX3_copy_74 (by decide) (fun c_19 => ?_) (fun c_19 => ?_)
          · have h := q_t c_19 h
            refine lv_aload_n hx hb dX3_copy_84 rfl (lv_at hl 0 rfl) ?_
            refine va_get (D := D) (ci := 3) (v := .ref (q 27)) (C := RX3) (T := TX3) (N := 7) hx hb hts uX3_copy_X3 hown hK hP 0 rfl rfl 5 (by decide) (hts _ kX3_copy_9) (fun _ h9 => h9) rfl dX3_copy_85 ?_
            refine lv_iload_n hx hb dX3_copy_88 rfl (lv_at hl 1 rfl) ?_
            obtain ⟨z_20, h⟩ := q_grd_ok h
            refine va_aldq hx hb hK hP 27 3 rfl rfl z_20 dX3_copy_89 ?_
            refine W.eq (g2 := F0 m 90 ls [.ref (q (28 + 2 * p1.toNatClampNeg))]) rfl ?_
            refine lv_iload_n hx hb dX3_copy_90 rfl (lv_at hl 2 rfl) ?_
            refine lv_iload hx hb dX3_copy_91 (lv_at hl 5 rfl) ?_
            obtain ⟨r_21, hc_22, h⟩ := q_bd_ok h
            refine q_ci (r := r_21) (va_runV (As := [.int p2, .int p5]) (rest := []) ⟨hx, hb, hml, hown, hts⟩ (c_X1_hasNumbers l D y t (fun k => q (28 + 2 * p1.toNatClampNeg + k)) _ N (B (p1.toNatClampNeg)) (L (p1.toNatClampNeg)) p2 p5 r_21 hc_22) (cwV 2 hts gX3_copy_X1_hasNumbers rfl rfl rfl eX1_hasNumbers ⟨Nat.le_of_ble_eq_true rfl, Nat.le_of_ble_eq_true rfl⟩) ⟨q_blind, (va_recv hK hP (ci := 1) (q0 := 28 + 2 * p1.toNatClampNeg) rfl (sh_o (q_in_lt z_20))), (q_pre hP hK hZ hD hA hS [28 + 2 * p1.toNatClampNeg, 29 + 2 * p1.toNatClampNeg] (sk_cut (q_in_lt z_20)) (sh_nd (p1.toNatClampNeg)))⟩ rfl rfl hl.1 rfl (lv_room (Nat.le_of_ble_eq_true rfl)) dX3_copy_93 ⟨Nat.zero_le _, Nat.zero_le _⟩) hP hD hA hS [28 + 2 * p1.toNatClampNeg, 29 + 2 * p1.toNatClampNeg] (sk_cut (q_in_lt z_20)) (sh_nd (p1.toNatClampNeg)) rfl (fun H locs hP hD hS => ?_)
            have hP : va_P D vwCl (wB y q b R T K P B L) H := by rw [← sk_sets0 (q_in_lt z_20)]; exact hP
            have hD : va_D A (wB y q b R T K P B L) := by rw [← sk_sets0 (q_in_lt z_20)]; exact hD
            refine lv_if_eq (tgt := 115) hx hb dX3_copy_96 (by decide) (fun c_23 => ?_) (fun c_23 => ?_)
            · have h := q_t c_23 h
              exact B115 b R T K P B L _ _ _ hP hD hS (lv_sub hl [0] rfl) h
            · have h := q_f c_23 h
              refine lv_aload_n hx hb dX3_copy_99 rfl (lv_at hl 0 rfl) ?_
              refine va_get (D := D) (ci := 3) (v := .ref (q 27)) (C := RX3) (T := TX3) (N := 7) hx hb hts uX3_copy_X3 hown hK hP 0 rfl rfl 5 (by decide) (hts _ kX3_copy_9) (fun _ h9 => h9) rfl dX3_copy_100 ?_
              refine lv_iload_n hx hb dX3_copy_103 rfl (lv_at hl 3 rfl) ?_
              obtain ⟨z_27, h⟩ := q_grd_ok h
              refine va_aldq hx hb hK hP 27 3 rfl rfl z_27 dX3_copy_104 ?_
              refine W.eq (g2 := F0 m 105 ls [.ref (q (28 + 2 * p3.toNatClampNeg))]) rfl ?_
              refine lv_iload hx hb dX3_copy_105 (lv_at hl 4 rfl) ?_
              refine lv_iload hx hb dX3_copy_107 (lv_at hl 5 rfl) ?_
              obtain ⟨r_28, hc_29, h⟩ := q_bd_ok h
              refine q_ci (r := r_28) (va_runV (As := [.int p4, .int p5]) (rest := []) ⟨hx, hb, hml, hown, hts⟩ (c_X1_hasNumbers l D y t (fun k => q (28 + 2 * p3.toNatClampNeg + k)) _ N (B (p3.toNatClampNeg)) (L (p3.toNatClampNeg)) p4 p5 r_28 hc_29) (cwV 2 hts gX3_copy_X1_hasNumbers rfl rfl rfl eX1_hasNumbers ⟨Nat.le_of_ble_eq_true rfl, Nat.le_of_ble_eq_true rfl⟩) ⟨q_blind, (va_recv hK hP (ci := 1) (q0 := 28 + 2 * p3.toNatClampNeg) rfl (sh_o (q_in_lt z_27))), (q_pre hP hK hZ hD hA hS [28 + 2 * p3.toNatClampNeg, 29 + 2 * p3.toNatClampNeg] (sk_cut (q_in_lt z_27)) (sh_nd (p3.toNatClampNeg)))⟩ rfl rfl hl.1 rfl (lv_room (Nat.le_of_ble_eq_true rfl)) dX3_copy_109 ⟨Nat.zero_le _, Nat.zero_le _⟩) hP hD hA hS [28 + 2 * p3.toNatClampNeg, 29 + 2 * p3.toNatClampNeg] (sk_cut (q_in_lt z_27)) (sh_nd (p3.toNatClampNeg)) rfl (fun H locs hP hD hS => ?_)
              have hP : va_P D vwCl (wB y q b R T K P B L) H := by rw [← sk_sets0 (q_in_lt z_27)]; exact hP
              have hD : va_D A (wB y q b R T K P B L) := by rw [← sk_sets0 (q_in_lt z_27)]; exact hD
              refine lv_if_ne (tgt := 122) hx hb dX3_copy_112 (by decide) (fun c_30 => ?_) (fun c_30 => ?_)
              · have h := q_f c_30 h
                refine lv_aload_n hx hb dX3_copy_122 rfl (lv_at hl 0 rfl) ?_
                refine va_get (D := D) (ci := 3) (v := .ref (q 27)) (C := RX3) (T := TX3) (N := 7) hx hb hts uX3_copy_X3 hown hK hP 0 rfl rfl 5 (by decide) (hts _ kX3_copy_9) (fun _ h9 => h9) rfl dX3_copy_123 ?_
                refine lv_iload_n hx hb dX3_copy_126 rfl (lv_at hl 1 rfl) ?_
                obtain ⟨z_31, h⟩ := q_grd_ok h
                refine va_aldq hx hb hK hP 27 3 rfl rfl z_31 dX3_copy_127 ?_
                refine W.eq (g2 := F0 m 128 ls [.ref (q (28 + 2 * p1.toNatClampNeg))]) rfl ?_
                refine va_get (D := D) (ci := 1) (v := .ref (q (29 + 2 * p1.toNatClampNeg))) (C := RX1) (T := TX1) (N := 3) hx hb hts uX3_copy_X1 hown hK hP (28 + 2 * p1.toNatClampNeg) (sh_o (q_in_lt z_31)) rfl 2 (by decide) (hts _ kX3_copy_7) (fun _ h9 => h9) rfl dX3_copy_128 ?_
                refine lv_iload_n hx hb dX3_copy_131 rfl (lv_at hl 2 rfl) ?_
                refine lv_aload_n hx hb dX3_copy_132 rfl (lv_at hl 0 rfl) ?_
                refine va_get (D := D) (ci := 3) (v := .ref (q 27)) (C := RX3) (T := TX3) (N := 7) hx hb hts uX3_copy_X3 hown hK hP 0 rfl rfl 5 (by decide) (hts _ kX3_copy_9) (fun _ h9 => h9) rfl dX3_copy_133 ?_
                refine lv_iload_n hx hb dX3_copy_136 rfl (lv_at hl 3 rfl) ?_
                obtain ⟨z_32, h⟩ := q_grd_ok h
                refine va_aldq hx hb hK hP 27 3 rfl rfl z_32 dX3_copy_137 ?_
                refine W.eq (g2 := F0 m 138 ls [.ref (q (28 + 2 * p3.toNatClampNeg)), .int p2, .ref (q (29 + 2 * p1.toNatClampNeg))]) rfl ?_
                refine va_get (D := D) (ci := 1) (v := .ref (q (29 + 2 * p3.toNatClampNeg))) (C := RX1) (T := TX1) (N := 3) hx hb hts uX3_copy_X1 hown hK hP (28 + 2 * p3.toNatClampNeg) (sh_o (q_in_lt z_32)) rfl 2 (by decide) (hts _ kX3_copy_7) (fun _ h9 => h9) rfl dX3_copy_138 ?_
                refine lv_iload hx hb dX3_copy_141 (lv_at hl 4 rfl) ?_
                refine lv_iload hx hb dX3_copy_143 (lv_at hl 5 rfl) ?_
                obtain ⟨z_34, h⟩ := q_cp_ok h
                obtain ⟨L_33, eL_33, h⟩ := q_let_ok h
                refine va_copyl hx hb (hml.trans hl.1.symm) hown (hts _ kX3_copy_2) (hts _ kX3_copy_3) (hts _ kX3_copy_4) (hts _ kX3_copy_5) hK hP hD hS (29 + 2 * p1.toNatClampNeg) (29 + 2 * p3.toNatClampNeg) 2 2 (sh_n (q_in_lt z_31)) (sh_n (q_in_lt z_32)) rfl rfl rfl z_34.1 z_34.2.1 z_34.2.2.1 z_34.2.2.2.1 z_34.2.2.2.2 (fun _ _ => rfl) (Nat.le_of_ble_eq_true rfl) (by decide) dX3_copy_145 (fun H locs hP hD hS => ?_)
                have hP : va_P D vwCl (wB y q b R T K P B L_33) H := by rw [eL_33, ← sh_setn (q_in_lt z_32)]; exact hP
                have hD : va_D A (wB y q b R T K P B L_33) := by rw [eL_33, ← sh_setn (q_in_lt z_32)]; exact hD
                refine lv_iload hx hb dX3_copy_148 (lv_at hl 5 rfl) ?_
                have e9 := Option.some.inj h
                exact q_iret hx hb hr hlocks hK hP hD hS dX3_copy_150 (by first | rw [← e9] | rfl) (by first | rw [← e9] | rfl)
              · have h := q_t c_30 h
                exact B115 b R T K P B L _ _ _ hP hD hS (lv_sub hl [0] rfl) h
          · have h := q_f c_19 h
            refine lv_aload_n hx hb dX3_copy_77 rfl (lv_at hl 0 rfl) ?_
            refine lv_ldc (v := -1000000003) hx hb hown (hts _ kX3_copy_10) dX3_copy_78 ?_
            obtain ⟨r_35, b_36, hc_37, h⟩ := q_bd2_ok h
            refine q_ci0 (r := r_35) (va_runV (As := [.int (-1000000003 : Int32)]) (rest := []) ⟨hx, hb, hml, hown, hts⟩ (c_X3_found l D y t q _ N b R T K P B L (-1000000003 : Int32) (r_35, b_36) hc_37) (cwV 1 hts gX3_copy_X3_found rfl rfl rfl eX3_found ⟨Nat.le_of_ble_eq_true rfl, Nat.le_of_ble_eq_true rfl⟩) ⟨q_blind, (va_recv hK hP (ci := 3) (q0 := 0) rfl rfl), (q_pre0 hP hK hZ hD hA hS)⟩ rfl rfl hl.1 rfl (lv_room (Nat.le_of_ble_eq_true rfl)) dX3_copy_80 ⟨Nat.zero_le _, Nat.zero_le _⟩) hD hA hS (fun H locs hP hD hS => ?_)
            have hP : va_P D vwCl (wB y q b_36 R T K P B L) H := hP
            have hD : va_D A (wB y q b_36 R T K P B L) := hD
            have e9 := Option.some.inj h
            exact q_iret hx hb hr hlocks hK hP hD hS dX3_copy_83 (by first | rw [← e9] | rfl) (by first | rw [← e9] | rfl)
        · have h := q_t c_16 h
          exact B49 b R T K P B L _ _ _ hP hD hS (lv_sub hl [0] rfl) h
    · have h := q_t c_9 h
      exact B18 b R T K P B L _ _ _ hP hD hS (lv_sub hl [0] rfl) h
theorem eX3_copy : yX3_copy.cls = RX3 ∧ yX3_copy.cls ≠ "java/lang/invoke/MethodHandle" ∧ yX3_copy.cls ≠ "java/lang/invoke/VarHandle" ∧ (parseMethodDescriptor yX3_copy.desc).map (fun d => d.parameters.length) = some 5 := by decide +kernel
theorem kX3_lays_0 : Cond.constantLong RX3 210 (99) ∈ wsX3_lays := List.mem_of_getElem? (i := 6) (by decide +kernel)
theorem uX3_lays_X0 : ∀ w ∈ u_ws RX0 TX0 13, w ∈ wsX3_lays := by decide +kernel
theorem kX3_lays_2 : Cond.fieldLink RX3 106 "BeamSeats$Island" "wets" "[I" ∈ wsX3_lays := List.mem_of_getElem? (i := 7) (by decide +kernel)
theorem uX3_lays_X3 : ∀ w ∈ u_ws RX3 TX3 7, w ∈ wsX3_lays := by decide +kernel
theorem kX3_lays_4 : Cond.fieldLink RX3 10 "BeamSeats" "real" "LBeamSeats$Island;" ∈ wsX3_lays := List.mem_of_getElem? (i := 3) (by decide +kernel)
theorem uX3_lays_X1 : ∀ w ∈ u_ws RX1 TX1 3, w ∈ wsX3_lays := by decide +kernel
theorem kX3_lays_6 : Cond.fieldLink RX3 189 "BeamSeats$Sheet" "numbers" "[J" ∈ wsX3_lays := List.mem_of_getElem? (i := 5) (by decide +kernel)
theorem kX3_lays_7 : Cond.fieldLink RX3 35 "BeamSeats" "sheets" "[LBeamSeats$Sheet;" ∈ wsX3_lays := List.mem_of_getElem? (i := 1) (by decide +kernel)
theorem kX3_lays_8 : Cond.fieldLink RX3 82 "BeamSeats$Island" "size" "I" ∈ wsX3_lays := List.mem_of_getElem? (i := 4) (by decide +kernel)
theorem kX3_lays_9 : Cond.fieldLink RX3 185 "BeamSeats$Sheet" "size" "I" ∈ wsX3_lays := List.mem_of_getElem? (i := 2) (by decide +kernel)
def f_X3_lays_L21 (N : Nat) (b : Nat → Nat → Int32) (T : Nat → Nat → Int32) (K : Nat → Nat → Int32) (P : Nat → Nat → Int32) (B : Nat → Nat → Int32) (L : Nat → Nat → Int64) (v1 : Int32) : Nat → Int32 → Int32 → (Nat → Nat → Int32) → Option (Int32 × Int32 × (Nat → Nat → Int32))
  | 0, _, _, _ => none
  | k + 1, v3, v4, R =>
    q_grd v1 4 (
    if (B (v1.toNatClampNeg) 1) ≤ v4 then
      some (v3, v4, R)
    else
      if (R 0 4) ≤ v4 then
        some (v3, v4, R)
      else
        q_grd v1 4 (
        q_grd v4 40 (
        q_let (L (v1.toNatClampNeg) v4.toNatClampNeg) (fun x_13 =>
        if (lg_cmp x_13 (0 : Int64)) < 0 then
          q_let (v4 + 1) (fun x_15 =>
          f_X3_lays_L21 N b T K P B L v1 k v3 x_15 R)
        else
          if 0 < (lg_cmp x_13 (99 : Int64)) then
            q_let (v4 + 1) (fun x_17 =>
            f_X3_lays_L21 N b T K P B L v1 k v3 x_17 R)
          else
            q_grd v4 8 (
            q_let (q_up R 4 v4.toNatClampNeg (x_13.toInt32)) (fun R_19 =>
            q_let (v3 + 1) (fun x_20 =>
            q_let (v4 + 1) (fun x_21 =>
            f_X3_lays_L21 N b T K P B L v1 k x_20 x_21 R_19))))))))
def f_X3_lays (N : Nat) (b : Nat → Nat → Int32) (R : Nat → Nat → Int32) (T : Nat → Nat → Int32) (K : Nat → Nat → Int32) (P : Nat → Nat → Int32) (B : Nat → Nat → Int32) (L : Nat → Nat → Int64) (p1 : Int32) : Option (Int32 × (Nat → Nat → Int32) × (Nat → Nat → Int32)) :=
  q_bd (f_X3_findingOfSheet N b R T K P B L p1) (fun r_1 =>
  if r_1 = 0 then
    q_bd3 (f_X3_lays_L21 N b T K P B L p1 N (0 : Int32) (0 : Int32) R) (fun x_5 x_6 R_7 =>
    some (x_5, b, R_7))
  else
    q_bd2 (f_X3_found N b R T K P B L r_1) (fun r_22 b_23 =>
    some (r_22, b_23, R)))
set_option maxHeartbeats 4000000 in
set_option maxRecDepth 100000 in
theorem c_X3_lays (l : Launch) (D : va_G) (y : Nat → ClassId) (t : Nat → Nat) (q : Nat → Nat) (sz N : Nat) (b : Nat → Nat → Int32) (R : Nat → Nat → Int32) (T : Nat → Nat → Int32) (K : Nat → Nat → Int32) (P : Nat → Nat → Int32) (B : Nat → Nat → Int32) (L : Nat → Nat → Int64) (p1 : Int32) (res : Int32 × (Nat → Nat → Int32) × (Nat → Nat → Int32)) (h : f_X3_lays N b R T K P B L p1 = some res) : Met l yX3_lays wsX3_lays ({ frames := 2, cells := 0, slots := 0, locals := 44 } : Room) (pPre D y t [.ref (q 0), .int p1] (wB y q b R T K P B L) sz) (pQi D y (res.1) (wB y q (res.2.1) (res.2.2) T K P B L) (va_A (wB y q b R T K P B L) sz)) 0 0 (va_A (wB y q b R T K P B L) sz) := by
  refine q_start (Qc := (fun A => pQi D y (res.1) (wB y q (res.2.1) (res.2.2) T K P B L) A)) (cc := cX3_lays) (maxL := 7) (ret := (some .int)) (by decide) rfl (Nat.le_of_ble_eq_true rfl) ?_
  intro p e s m below meth c A ls hx hb hr hts hown hlocks hmn hml hP hK hZ hD hA hS hl
  have hl : lv_has ls 7 [(0, .ref (q 0)), (1, .int p1)] := hl
  have hown : s.vm.findClass RX3 = some m.cls := hown
  unfold f_X3_lays at h
  refine lv_aload_n hx hb dX3_lays_0 rfl (lv_at hl 0 rfl) ?_
  refine lv_iload_n hx hb dX3_lays_1 rfl (lv_at hl 1 rfl) ?_
  obtain ⟨r_1, hc_2, h⟩ := q_bd_ok h
  refine q_ci0 (r := r_1) (va_runV (As := [.int p1]) (rest := []) ⟨hx, hb, hml, hown, hts⟩ (c_X3_findingOfSheet l D y t q _ N b R T K P B L p1 r_1 hc_2) (cwV 1 hts gX3_lays_X3_findingOfSheet rfl rfl rfl eX3_findingOfSheet ⟨Nat.le_of_ble_eq_true rfl, Nat.le_of_ble_eq_true rfl⟩) ⟨q_blind, (va_recv hK hP (ci := 3) (q0 := 0) rfl rfl), (q_pre0 hP hK hZ hD hA hS)⟩ rfl rfl hl.1 rfl (lv_room (Nat.le_of_ble_eq_true rfl)) dX3_lays_2 ⟨Nat.zero_le _, Nat.zero_le _⟩) hD hA hS (fun H locs hP hD hS => ?_)
  have hP : va_P D vwCl (wB y q b R T K P B L) H := hP
  have hD : va_D A (wB y q b R T K P B L) := hD
  refine lv_istore_n (lv' := [(2, .int r_1), (0, .ref (q 0)), (1, .int p1)]) hx hb dX3_lays_5 rfl hl (by decide) rfl (fun ls hl => ?_)
  refine lv_iload_n hx hb dX3_lays_6 rfl (lv_at hl 0 rfl) ?_
  refine lv_if_eq (tgt := 16) hx hb dX3_lays_7 (by decide) (fun c_3 => ?_) (fun c_3 => ?_)
  · have h := q_t c_3 h
    refine lv_iconst (v := 0) hx hb dX3_lays_16 (by decide) ?_
    refine lv_istore_n (lv' := [(3, .int (0 : Int32)), (2, .int r_1), (0, .ref (q 0)), (1, .int p1)]) hx hb dX3_lays_17 rfl hl (by decide) rfl (fun ls hl => ?_)
    refine lv_iconst (v := 0) hx hb dX3_lays_18 (by decide) ?_
    refine lv_istore (lv' := [(4, .int (0 : Int32)), (3, .int (0 : Int32)), (2, .int r_1), (0, .ref (q 0)), (1, .int p1)]) hx hb dX3_lays_19 hl (by decide) rfl (fun ls hl => ?_)
    obtain ⟨x_5, x_6, R_7, hL4, h⟩ := q_bd3_ok h
    have K21_4 : ∀ (H : Heap) (locs : List Loc) (ls : Array Slot), va_P D vwCl (wB y q b R_7 T K P B L) H → va_D A (wB y q b R_7 T K P B L) → va_S A s.heap H locs → lv_has ls 7 [(0, .ref (q 0)), (1, .int p1), (3, .int x_5), (4, .int x_6)] → W p l e ({ frames := 2, cells := 0, slots := 0, locals := 44 } : Room) s m ([.ref (q 0), .int p1] : List Value).toArray below meth c H locs 0 0 (MQ below (pQi D y (res.1) (wB y q (res.2.1) (res.2.2) T K P B L) A) ([.ref (q 0), .int p1] : List Value).toArray s 0 0 A) (F0 m 99 ls []) := by
      intro H locs ls hP hD hS hl
      refine lv_iload_n hx hb dX3_lays_99 rfl (lv_at hl 2 rfl) ?_
      have e9 := Option.some.inj h
      exact q_iret hx hb hr hlocks hK hP hD hS dX3_lays_100 (by first | rw [← e9] | rfl) (by first | rw [← e9] | rfl)
    have L21_4 : ∀ (b : Nat → Nat → Int32) (T : Nat → Nat → Int32) (K : Nat → Nat → Int32) (P : Nat → Nat → Int32) (B : Nat → Nat → Int32) (L : Nat → Nat → Int64) (v1 : Int32) (k : Nat) (v3 : Int32) (v4 : Int32) (R : Nat → Nat → Int32), (∀ (H : Heap) (locs : List Loc) (ls : Array Slot), va_P D vwCl (wB y q b R_7 T K P B L) H → va_D A (wB y q b R_7 T K P B L) → va_S A s.heap H locs → lv_has ls 7 [(0, .ref (q 0)), (1, .int v1), (3, .int x_5), (4, .int x_6)] → W p l e ({ frames := 2, cells := 0, slots := 0, locals := 44 } : Room) s m ([.ref (q 0), .int p1] : List Value).toArray below meth c H locs 0 0 (MQ below (pQi D y (res.1) (wB y q (res.2.1) (res.2.2) T K P B L) A) ([.ref (q 0), .int p1] : List Value).toArray s 0 0 A) (F0 m 99 ls [])) → ∀ (H : Heap) (locs : List Loc) (ls : Array Slot), va_P D vwCl (wB y q b R T K P B L) H → va_D A (wB y q b R T K P B L) → va_S A s.heap H locs → lv_has ls 7 [(0, .ref (q 0)), (1, .int v1), (3, .int v3), (4, .int v4)] → f_X3_lays_L21 N b T K P B L v1 k v3 v4 R = some (x_5, x_6, R_7) → W p l e ({ frames := 2, cells := 0, slots := 0, locals := 44 } : Room) s m ([.ref (q 0), .int p1] : List Value).toArray below meth c H locs 0 0 (MQ below (pQi D y (res.1) (wB y q (res.2.1) (res.2.2) T K P B L) A) ([.ref (q 0), .int p1] : List Value).toArray s 0 0 A) (F0 m 21 ls []) := by
      intro b T K P B L v1 k
      induction k with
      | zero =>
        intro v3 v4 R K21_4 H locs ls hP hD hS hl h
        have h : (none : Option (Int32 × Int32 × (Nat → Nat → Int32))) = some _ := h
        cases h
      | succ k ih21_4 =>
        intro v3 v4 R K21_4 H locs ls hP hD hS hl h
        rw [f_X3_lays_L21] at h
        refine lv_iload hx hb dX3_lays_21 (lv_at hl 3 rfl) ?_
        refine lv_aload_n hx hb dX3_lays_23 rfl (lv_at hl 0 rfl) ?_
        refine va_get (D := D) (ci := 3) (v := .ref (q 27)) (C := RX3) (T := TX3) (N := 7) hx hb hts uX3_lays_X3 hown hK hP 0 rfl rfl 5 (by decide) (hts _ kX3_lays_7) (fun _ h9 => h9) rfl dX3_lays_24 ?_
        refine lv_iload_n hx hb dX3_lays_27 rfl (lv_at hl 1 rfl) ?_
        obtain ⟨z_8, h⟩ := q_grd_ok h
        refine va_aldq hx hb hK hP 27 3 rfl rfl z_8 dX3_lays_28 ?_
        refine W.eq (g2 := F0 m 29 ls [.ref (q (28 + 2 * v1.toNatClampNeg)), .int v4]) rfl ?_
        refine va_get (D := D) (ci := 1) (v := .int (B (v1.toNatClampNeg) 1)) (C := RX1) (T := TX1) (N := 3) hx hb hts uX3_lays_X1 hown hK hP (28 + 2 * v1.toNatClampNeg) (sh_o (q_in_lt z_8)) rfl 1 (by decide) (hts _ kX3_lays_9) (fun _ h9 => h9) rfl dX3_lays_29 ?_
        refine lv_icmp_ge (tgt := 99) hx hb dX3_lays_32 (by decide) (fun c_9 => ?_) (fun c_9 => ?_)
        · have h := q_t c_9 h
          cases h
          exact K21_4 _ _ _ hP hD hS (lv_sub hl [0, 1, 2, 3] rfl)
        · have h := q_f c_9 h
          refine lv_iload hx hb dX3_lays_35 (lv_at hl 3 rfl) ?_
          refine lv_aload_n hx hb dX3_lays_37 rfl (lv_at hl 0 rfl) ?_
          refine va_get (D := D) (ci := 3) (v := .ref (q 1)) (C := RX3) (T := TX3) (N := 7) hx hb hts uX3_lays_X3 hown hK hP 0 rfl rfl 0 (by decide) (hts _ kX3_lays_4) (fun _ h9 => h9) rfl dX3_lays_38 ?_
          refine va_get (D := D) (ci := 0) (v := .int (R 0 4)) (C := RX0) (T := TX0) (N := 13) hx hb hts uX3_lays_X0 hown hK hP 1 rfl rfl 4 (by decide) (hts _ kX3_lays_8) (fun _ h9 => h9) rfl dX3_lays_41 ?_
          refine lv_icmp_ge (tgt := 99) hx hb dX3_lays_44 (by decide) (fun c_10 => ?_) (fun c_10 => ?_)
          · have h := q_t c_10 h
            cases h
            exact K21_4 _ _ _ hP hD hS (lv_sub hl [0, 1, 2, 3] rfl)
          · have h := q_f c_10 h
            refine lv_aload_n hx hb dX3_lays_47 rfl (lv_at hl 0 rfl) ?_
            refine va_get (D := D) (ci := 3) (v := .ref (q 27)) (C := RX3) (T := TX3) (N := 7) hx hb hts uX3_lays_X3 hown hK hP 0 rfl rfl 5 (by decide) (hts _ kX3_lays_7) (fun _ h9 => h9) rfl dX3_lays_48 ?_
            refine lv_iload_n hx hb dX3_lays_51 rfl (lv_at hl 1 rfl) ?_
            obtain ⟨z_11, h⟩ := q_grd_ok h
            refine va_aldq hx hb hK hP 27 3 rfl rfl z_11 dX3_lays_52 ?_
            refine W.eq (g2 := F0 m 53 ls [.ref (q (28 + 2 * v1.toNatClampNeg))]) rfl ?_
            refine va_get (D := D) (ci := 1) (v := .ref (q (29 + 2 * v1.toNatClampNeg))) (C := RX1) (T := TX1) (N := 3) hx hb hts uX3_lays_X1 hown hK hP (28 + 2 * v1.toNatClampNeg) (sh_o (q_in_lt z_11)) rfl 2 (by decide) (hts _ kX3_lays_6) (fun _ h9 => h9) rfl dX3_lays_53 ?_
            refine lv_iload hx hb dX3_lays_56 (lv_at hl 3 rfl) ?_
            obtain ⟨z_12, h⟩ := q_grd_ok h
            refine va_lald hx hb hK hP (29 + 2 * v1.toNatClampNeg) 2 (sh_n (q_in_lt z_11)) rfl z_12 dX3_lays_58 ?_
            refine lv_topl (fun x_13 ex_13 => ?_)
            have h := q_let_at ex_13 h
            refine lv_lstore (lv' := [(5, .long x_13), (0, .ref (q 0)), (1, .int v1), (3, .int v3), (4, .int v4)]) hx hb dX3_lays_59 hl (by decide) rfl (fun ls hl => ?_)
            refine lv_lload hx hb dX3_lays_61 (lv_at hl 0 rfl) ?_
            refine lv_lconst (v := 0) hx hb dX3_lays_63 (by decide) ?_
            refine W.lcmp hx hb dX3_lays_64 ?_
            refine lv_if_lt (tgt := 93) hx hb dX3_lays_65 (by decide) (fun c_14 => ?_) (fun c_14 => ?_)
            · have h := q_t c_14 h
              obtain ⟨x_15, ex_15, h⟩ := q_let_ok h
              refine lv_iinc (v := x_15) (lv' := [(4, .int x_15), (5, .long x_13), (0, .ref (q 0)), (1, .int v1), (3, .int v3)]) hx hb dX3_lays_93 hl (k := 4) rfl (by rw [ex_15]; rfl) (by decide) rfl (fun ls hl => ?_)
              refine lv_goto (tgt := 21) hx hb dX3_lays_96 (by decide) ?_
              exact ih21_4 v3 x_15 R K21_4 _ _ _ hP hD hS (lv_sub hl [2, 3, 4, 0] rfl) h
            · have h := q_f c_14 h
              refine lv_lload hx hb dX3_lays_68 (lv_at hl 0 rfl) ?_
              refine lv_ldc2 (v := 99) hx hb hown (hts _ kX3_lays_0) dX3_lays_70 ?_
              refine W.lcmp hx hb dX3_lays_73 ?_
              refine lv_if_gt (tgt := 93) hx hb dX3_lays_74 (by decide) (fun c_16 => ?_) (fun c_16 => ?_)
              · have h := q_t c_16 h
                obtain ⟨x_17, ex_17, h⟩ := q_let_ok h
                refine lv_iinc (v := x_17) (lv' := [(4, .int x_17), (5, .long x_13), (0, .ref (q 0)), (1, .int v1), (3, .int v3)]) hx hb dX3_lays_93 hl (k := 4) rfl (by rw [ex_17]; rfl) (by decide) rfl (fun ls hl => ?_)
                refine lv_goto (tgt := 21) hx hb dX3_lays_96 (by decide) ?_
                exact ih21_4 v3 x_17 R K21_4 _ _ _ hP hD hS (lv_sub hl [2, 3, 4, 0] rfl) h
              · have h := q_f c_16 h
                refine lv_aload_n hx hb dX3_lays_77 rfl (lv_at hl 1 rfl) ?_
                refine va_get (D := D) (ci := 3) (v := .ref (q 1)) (C := RX3) (T := TX3) (N := 7) hx hb hts uX3_lays_X3 hown hK hP 0 rfl rfl 0 (by decide) (hts _ kX3_lays_4) (fun _ h9 => h9) rfl dX3_lays_78 ?_
                refine va_get (D := D) (ci := 0) (v := .ref (q 5)) (C := RX0) (T := TX0) (N := 13) hx hb hts uX3_lays_X0 hown hK hP 1 rfl rfl 10 (by decide) (hts _ kX3_lays_2) (fun _ h9 => h9) rfl dX3_lays_81 ?_
                refine lv_iload hx hb dX3_lays_84 (lv_at hl 4 rfl) ?_
                refine lv_lload hx hb dX3_lays_86 (lv_at hl 0 rfl) ?_
                refine lv_l2i hx hb dX3_lays_88 rfl ?_
                obtain ⟨z_18, h⟩ := q_grd_ok h
                obtain ⟨R_19, eR_19, h⟩ := q_let_ok h
                refine va_iast hx hb hK hP hD hS 5 0 rfl rfl z_18 dX3_lays_89 (fun H locs hP hD hS => ?_)
                have hP : va_P D vwCl (wB y q b R_19 T K P B L) H := by rw [eR_19]; exact hP
                have hD : va_D A (wB y q b R_19 T K P B L) := by rw [eR_19]; exact hD
                obtain ⟨x_20, ex_20, h⟩ := q_let_ok h
                refine lv_iinc (v := x_20) (lv' := [(3, .int x_20), (5, .long x_13), (0, .ref (q 0)), (1, .int v1), (4, .int v4)]) hx hb dX3_lays_90 hl (k := 3) rfl (by rw [ex_20]; rfl) (by decide) rfl (fun ls hl => ?_)
                obtain ⟨x_21, ex_21, h⟩ := q_let_ok h
                refine lv_iinc (v := x_21) (lv' := [(4, .int x_21), (3, .int x_20), (5, .long x_13), (0, .ref (q 0)), (1, .int v1)]) hx hb dX3_lays_93 hl (k := 4) rfl (by rw [ex_21]; rfl) (by decide) rfl (fun ls hl => ?_)
                refine lv_goto (tgt := 21) hx hb dX3_lays_96 (by decide) ?_
                exact ih21_4 x_20 x_21 R_19 K21_4 _ _ _ hP hD hS (lv_sub hl [3, 4, 1, 0] rfl) h
    exact L21_4 b T K P B L p1 N (0 : Int32) (0 : Int32) R K21_4 _ _ _ hP hD hS (lv_sub hl [3, 4, 1, 0] rfl) hL4
  · have h := q_f c_3 h
    refine lv_aload_n hx hb dX3_lays_10 rfl (lv_at hl 1 rfl) ?_
    refine lv_iload_n hx hb dX3_lays_11 rfl (lv_at hl 0 rfl) ?_
    obtain ⟨r_22, b_23, hc_24, h⟩ := q_bd2_ok h
    refine q_ci0 (r := r_22) (va_runV (As := [.int r_1]) (rest := []) ⟨hx, hb, hml, hown, hts⟩ (c_X3_found l D y t q _ N b R T K P B L r_1 (r_22, b_23) hc_24) (cwV 1 hts gX3_lays_X3_found rfl rfl rfl eX3_found ⟨Nat.le_of_ble_eq_true rfl, Nat.le_of_ble_eq_true rfl⟩) ⟨q_blind, (va_recv hK hP (ci := 3) (q0 := 0) rfl rfl), (q_pre0 hP hK hZ hD hA hS)⟩ rfl rfl hl.1 rfl (lv_room (Nat.le_of_ble_eq_true rfl)) dX3_lays_12 ⟨Nat.zero_le _, Nat.zero_le _⟩) hD hA hS (fun H locs hP hD hS => ?_)
    have hP : va_P D vwCl (wB y q b_23 R T K P B L) H := hP
    have hD : va_D A (wB y q b_23 R T K P B L) := hD
    have e9 := Option.some.inj h
    exact q_iret hx hb hr hlocks hK hP hD hS dX3_lays_15 (by first | rw [← e9] | rfl) (by first | rw [← e9] | rfl)
theorem eX3_lays : yX3_lays.cls = RX3 ∧ yX3_lays.cls ≠ "java/lang/invoke/MethodHandle" ∧ yX3_lays.cls ≠ "java/lang/invoke/VarHandle" ∧ (parseMethodDescriptor yX3_lays.desc).map (fun d => d.parameters.length) = some 1 := by decide +kernel
theorem uX3_book_X3 : ∀ w ∈ u_ws RX3 TX3 7, w ∈ wsX3_book := by decide +kernel
theorem kX3_book_1 : Cond.fieldLink RX3 16 "BeamSeats" "trial" "LBeamSeats$Island;" ∈ wsX3_book := List.mem_of_getElem? (i := 3) (by decide +kernel)
theorem uX3_book_X0 : ∀ w ∈ u_ws RX0 TX0 13, w ∈ wsX3_book := by decide +kernel
theorem kX3_book_3 : Cond.fieldLink RX3 97 "BeamSeats$Island" "places" "[I" ∈ wsX3_book := List.mem_of_getElem? (i := 6) (by decide +kernel)
theorem kX3_book_4 : Cond.fieldLink RX3 35 "BeamSeats" "sheets" "[LBeamSeats$Sheet;" ∈ wsX3_book := List.mem_of_getElem? (i := 4) (by decide +kernel)
theorem uX3_book_X1 : ∀ w ∈ u_ws RX1 TX1 3, w ∈ wsX3_book := by decide +kernel
theorem kX3_book_6 : Cond.fieldLink RX3 185 "BeamSeats$Sheet" "size" "I" ∈ wsX3_book := List.mem_of_getElem? (i := 5) (by decide +kernel)
theorem kX3_book_7 : Cond.fieldLink RX3 10 "BeamSeats" "real" "LBeamSeats$Island;" ∈ wsX3_book := List.mem_of_getElem? (i := 1) (by decide +kernel)
theorem kX3_book_8 : Cond.constant RX3 58 (-1000000001) ∈ wsX3_book := List.mem_of_getElem? (i := 2) (by decide +kernel)
def f_X3_book_L48 (N : Nat) (b : Nat → Nat → Int32) (R : Nat → Nat → Int32) (K : Nat → Nat → Int32) (P : Nat → Nat → Int32) (B : Nat → Nat → Int32) (v1 : Int32) (v2 : Int32) : Nat → Int32 → (Nat → Nat → Int32) → (Nat → Nat → Int64) → Option (Int32 × (Nat → Nat → Int32) × (Nat → Nat → Int64))
  | 0, _, _, _ => none
  | k + 1, v4, T, L =>
    q_grd v1 4 (
    if (B (v1.toNatClampNeg) 1) ≤ v4 then
      some (v4, T, L)
    else
      q_grd v1 4 (
      q_grd v2 8 (
      q_bd (f_X1_put N (B (v1.toNatClampNeg)) (L (v1.toNatClampNeg)) v4 ((T 2 v2.toNatClampNeg).toInt64)) (fun E_15 =>
      q_let (va_up L (v1.toNatClampNeg) E_15) (fun L_17 =>
      q_bd (f_X0_goSeconds N T (1 : Int32)) (fun T_18 =>
      q_let (v4 + 1) (fun x_20 =>
      f_X3_book_L48 N b R K P B v1 v2 k x_20 T_18 L_17)))))))
def f_X3_book_B24 (N : Nat) (b : Nat → Nat → Int32) (R : Nat → Nat → Int32) (T : Nat → Nat → Int32) (K : Nat → Nat → Int32) (P : Nat → Nat → Int32) (B : Nat → Nat → Int32) (L : Nat → Nat → Int64) (v1 : Int32) (v2 : Int32) (v3 : Int32) : Option (Int32 × (Nat → Nat → Int32) × (Nat → Nat → Int32) × (Nat → Nat → Int64)) :=
  if v3 = 0 then
    q_bd (f_X0_becomes N T R) (fun T_5 =>
    q_bd3 (f_X3_book_L48 N b R K P B v1 v2 N (0 : Int32) T_5 L) (fun x_8 T_9 L_10 =>
    q_grd v1 4 (
    some ((B (v1.toNatClampNeg) 1), b, T_9, L_10))))
  else
    q_bd2 (f_X3_found N b R T K P B L v3) (fun r_22 b_23 =>
    some (r_22, b_23, T, L))
def f_X3_book (N : Nat) (b : Nat → Nat → Int32) (R : Nat → Nat → Int32) (T : Nat → Nat → Int32) (K : Nat → Nat → Int32) (P : Nat → Nat → Int32) (B : Nat → Nat → Int32) (L : Nat → Nat → Int64) (p1 : Int32) (p2 : Int32) : Option (Int32 × (Nat → Nat → Int32) × (Nat → Nat → Int32) × (Nat → Nat → Int64)) :=
  q_bd (f_X3_findingOfSheet N b R T K P B L p1) (fun r_1 =>
  if r_1 = 0 then
    q_bd (f_X0_has N R p2) (fun r_25 =>
    if r_25 = 0 then
      f_X3_book_B24 N b R T K P B L p1 p2 (-1000000001 : Int32)
    else
      f_X3_book_B24 N b R T K P B L p1 p2 r_1)
  else
    f_X3_book_B24 N b R T K P B L p1 p2 r_1)
set_option maxHeartbeats 4000000 in
set_option maxRecDepth 100000 in
theorem c_X3_book (l : Launch) (D : va_G) (y : Nat → ClassId) (t : Nat → Nat) (q : Nat → Nat) (sz N : Nat) (b : Nat → Nat → Int32) (R : Nat → Nat → Int32) (T : Nat → Nat → Int32) (K : Nat → Nat → Int32) (P : Nat → Nat → Int32) (B : Nat → Nat → Int32) (L : Nat → Nat → Int64) (p1 : Int32) (p2 : Int32) (res : Int32 × (Nat → Nat → Int32) × (Nat → Nat → Int32) × (Nat → Nat → Int64)) (h : f_X3_book N b R T K P B L p1 p2 = some res) : Met l yX3_book wsX3_book ({ frames := 5, cells := 0, slots := 0, locals := 113 } : Room) (pPre D y t [.ref (q 0), .int p1, .int p2] (wB y q b R T K P B L) sz) (pQi D y (res.1) (wB y q (res.2.1) R (res.2.2.1) K P B (res.2.2.2)) (va_A (wB y q b R T K P B L) sz)) 0 0 (va_A (wB y q b R T K P B L) sz) := by
  refine q_start (Qc := (fun A => pQi D y (res.1) (wB y q (res.2.1) R (res.2.2.1) K P B (res.2.2.2)) A)) (cc := cX3_book) (maxL := 5) (ret := (some .int)) (by decide) rfl (Nat.le_of_ble_eq_true rfl) ?_
  intro p e s m below meth c A ls hx hb hr hts hown hlocks hmn hml hP hK hZ hD hA hS hl
  have hl : lv_has ls 5 [(0, .ref (q 0)), (1, .int p1), (2, .int p2)] := hl
  have hown : s.vm.findClass RX3 = some m.cls := hown
  have B24 : ∀ (b : Nat → Nat → Int32) (R : Nat → Nat → Int32) (T : Nat → Nat → Int32) (K : Nat → Nat → Int32) (P : Nat → Nat → Int32) (B : Nat → Nat → Int32) (L : Nat → Nat → Int64) (v1 : Int32) (v2 : Int32) (v3 : Int32) (H : Heap) (locs : List Loc) (ls : Array Slot), va_P D vwCl (wB y q b R T K P B L) H → va_D A (wB y q b R T K P B L) → va_S A s.heap H locs → lv_has ls 5 [(0, .ref (q 0)), (1, .int v1), (2, .int v2), (3, .int v3)] → f_X3_book_B24 N b R T K P B L v1 v2 v3 = some res → W p l e ({ frames := 5, cells := 0, slots := 0, locals := 113 } : Room) s m ([.ref (q 0), .int p1, .int p2] : List Value).toArray below meth c H locs 0 0 (MQ below (pQi D y (res.1) (wB y q (res.2.1) R (res.2.2.1) K P B (res.2.2.2)) A) ([.ref (q 0), .int p1, .int p2] : List Value).toArray s 0 0 A) (F0 m 24 ls []) := by
    intro b R T K P B L v1 v2 v3 H locs ls hP hD hS hl h
    unfold f_X3_book_B24 at h
    refine lv_iload_n hx hb dX3_book_24 rfl (lv_at hl 3 rfl) ?_
    refine lv_if_eq (tgt := 34) hx hb dX3_book_25 (by decide) (fun c_4 => ?_) (fun c_4 => ?_)
    · have h := q_t c_4 h
      refine lv_aload_n hx hb dX3_book_34 rfl (lv_at hl 0 rfl) ?_
      refine va_get (D := D) (ci := 3) (v := .ref (q 8)) (C := RX3) (T := TX3) (N := 7) hx hb hts uX3_book_X3 hown hK hP 0 rfl rfl 1 (by decide) (hts _ kX3_book_1) (fun _ h9 => h9) rfl dX3_book_35 ?_
      refine lv_aload_n hx hb dX3_book_38 rfl (lv_at hl 0 rfl) ?_
      refine va_get (D := D) (ci := 3) (v := .ref (q 1)) (C := RX3) (T := TX3) (N := 7) hx hb hts uX3_book_X3 hown hK hP 0 rfl rfl 0 (by decide) (hts _ kX3_book_7) (fun _ h9 => h9) rfl dX3_book_39 ?_
      obtain ⟨T_5, hc_6, h⟩ := q_bd_ok h
      refine q_cv (va_runV (As := [.ref (q 1)]) (rest := []) ⟨hx, hb, hml, hown, hts⟩ (c_X0_becomes l D y t (fun k => if k < 7 then q (k + 8) else q (k - 7 + 1)) _ N T R T_5 hc_6) (cwV 1 hts gX3_book_X0_becomes rfl rfl rfl eX0_becomes ⟨Nat.le_of_ble_eq_true rfl, Nat.le_of_ble_eq_true rfl⟩) ⟨q_blind, (va_recv hK hP (ci := 0) (q0 := 8) rfl rfl), (q_pre hP hK hZ hD hA hS [8, 9, 10, 11, 12, 13, 14, 1, 2, 3, 4, 5, 6, 7] rfl (by decide))⟩ rfl rfl hl.1 rfl (lv_room (Nat.le_of_ble_eq_true rfl)) dX3_book_42 ⟨Nat.zero_le _, Nat.zero_le _⟩) hP hD hA hS [8, 9, 10, 11, 12, 13, 14, 1, 2, 3, 4, 5, 6, 7] rfl (by decide) rfl (fun H locs hP hD hS => ?_)
      have hP : va_P D vwCl (wB y q b R T_5 K P B L) H := hP
      have hD : va_D A (wB y q b R T_5 K P B L) := hD
      refine lv_iconst (v := 0) hx hb dX3_book_45 (by decide) ?_
      refine lv_istore (lv' := [(4, .int (0 : Int32)), (0, .ref (q 0)), (1, .int v1), (2, .int v2), (3, .int v3)]) hx hb dX3_book_46 hl (by decide) rfl (fun ls hl => ?_)
      obtain ⟨x_8, T_9, L_10, hL7, h⟩ := q_bd3_ok h
      have K48_7 : ∀ (H : Heap) (locs : List Loc) (ls : Array Slot), va_P D vwCl (wB y q b R T_9 K P B L_10) H → va_D A (wB y q b R T_9 K P B L_10) → va_S A s.heap H locs → lv_has ls 5 [(0, .ref (q 0)), (1, .int v1), (2, .int v2), (4, .int x_8)] → W p l e ({ frames := 5, cells := 0, slots := 0, locals := 113 } : Room) s m ([.ref (q 0), .int p1, .int p2] : List Value).toArray below meth c H locs 0 0 (MQ below (pQi D y (res.1) (wB y q (res.2.1) R (res.2.2.1) K P B (res.2.2.2)) A) ([.ref (q 0), .int p1, .int p2] : List Value).toArray s 0 0 A) (F0 m 97 ls []) := by
        intro H locs ls hP hD hS hl
        refine lv_aload_n hx hb dX3_book_97 rfl (lv_at hl 0 rfl) ?_
        refine va_get (D := D) (ci := 3) (v := .ref (q 27)) (C := RX3) (T := TX3) (N := 7) hx hb hts uX3_book_X3 hown hK hP 0 rfl rfl 5 (by decide) (hts _ kX3_book_4) (fun _ h9 => h9) rfl dX3_book_98 ?_
        refine lv_iload_n hx hb dX3_book_101 rfl (lv_at hl 1 rfl) ?_
        obtain ⟨z_21, h⟩ := q_grd_ok h
        refine va_aldq hx hb hK hP 27 3 rfl rfl z_21 dX3_book_102 ?_
        refine W.eq (g2 := F0 m 103 ls [.ref (q (28 + 2 * v1.toNatClampNeg))]) rfl ?_
        refine va_get (D := D) (ci := 1) (v := .int (B (v1.toNatClampNeg) 1)) (C := RX1) (T := TX1) (N := 3) hx hb hts uX3_book_X1 hown hK hP (28 + 2 * v1.toNatClampNeg) (sh_o (q_in_lt z_21)) rfl 1 (by decide) (hts _ kX3_book_6) (fun _ h9 => h9) rfl dX3_book_103 ?_
        have e9 := Option.some.inj h
        exact q_iret hx hb hr hlocks hK hP hD hS dX3_book_106 (by first | rw [← e9] | rfl) (by first | rw [← e9] | rfl)
      have L48_7 : ∀ (b : Nat → Nat → Int32) (R : Nat → Nat → Int32) (K : Nat → Nat → Int32) (P : Nat → Nat → Int32) (B : Nat → Nat → Int32) (v1 : Int32) (v2 : Int32) (k : Nat) (v4 : Int32) (T : Nat → Nat → Int32) (L : Nat → Nat → Int64), (∀ (H : Heap) (locs : List Loc) (ls : Array Slot), va_P D vwCl (wB y q b R T_9 K P B L_10) H → va_D A (wB y q b R T_9 K P B L_10) → va_S A s.heap H locs → lv_has ls 5 [(0, .ref (q 0)), (1, .int v1), (2, .int v2), (4, .int x_8)] → W p l e ({ frames := 5, cells := 0, slots := 0, locals := 113 } : Room) s m ([.ref (q 0), .int p1, .int p2] : List Value).toArray below meth c H locs 0 0 (MQ below (pQi D y (res.1) (wB y q (res.2.1) R (res.2.2.1) K P B (res.2.2.2)) A) ([.ref (q 0), .int p1, .int p2] : List Value).toArray s 0 0 A) (F0 m 97 ls [])) → ∀ (H : Heap) (locs : List Loc) (ls : Array Slot), va_P D vwCl (wB y q b R T K P B L) H → va_D A (wB y q b R T K P B L) → va_S A s.heap H locs → lv_has ls 5 [(0, .ref (q 0)), (1, .int v1), (2, .int v2), (4, .int v4)] → f_X3_book_L48 N b R K P B v1 v2 k v4 T L = some (x_8, T_9, L_10) → W p l e ({ frames := 5, cells := 0, slots := 0, locals := 113 } : Room) s m ([.ref (q 0), .int p1, .int p2] : List Value).toArray below meth c H locs 0 0 (MQ below (pQi D y (res.1) (wB y q (res.2.1) R (res.2.2.1) K P B (res.2.2.2)) A) ([.ref (q 0), .int p1, .int p2] : List Value).toArray s 0 0 A) (F0 m 48 ls []) := by
        intro b R K P B v1 v2 k
        induction k with
        | zero =>
          intro v4 T L K48_7 H locs ls hP hD hS hl h
          have h : (none : Option (Int32 × (Nat → Nat → Int32) × (Nat → Nat → Int64))) = some _ := h
          cases h
        | succ k ih48_7 =>
          intro v4 T L K48_7 H locs ls hP hD hS hl h
          rw [f_X3_book_L48] at h
          refine lv_iload hx hb dX3_book_48 (lv_at hl 3 rfl) ?_
          refine lv_aload_n hx hb dX3_book_50 rfl (lv_at hl 0 rfl) ?_
          refine va_get (D := D) (ci := 3) (v := .ref (q 27)) (C := RX3) (T := TX3) (N := 7) hx hb hts uX3_book_X3 hown hK hP 0 rfl rfl 5 (by decide) (hts _ kX3_book_4) (fun _ h9 => h9) rfl dX3_book_51 ?_
          refine lv_iload_n hx hb dX3_book_54 rfl (lv_at hl 1 rfl) ?_
          obtain ⟨z_11, h⟩ := q_grd_ok h
          refine va_aldq hx hb hK hP 27 3 rfl rfl z_11 dX3_book_55 ?_
          refine W.eq (g2 := F0 m 56 ls [.ref (q (28 + 2 * v1.toNatClampNeg)), .int v4]) rfl ?_
          refine va_get (D := D) (ci := 1) (v := .int (B (v1.toNatClampNeg) 1)) (C := RX1) (T := TX1) (N := 3) hx hb hts uX3_book_X1 hown hK hP (28 + 2 * v1.toNatClampNeg) (sh_o (q_in_lt z_11)) rfl 1 (by decide) (hts _ kX3_book_6) (fun _ h9 => h9) rfl dX3_book_56 ?_
          refine lv_icmp_ge (tgt := 97) hx hb dX3_book_59 (by decide) (fun c_12 => ?_) (fun c_12 => ?_)
          · have h := q_t c_12 h
            cases h
            exact K48_7 _ _ _ hP hD hS (lv_sub hl [0, 1, 2, 3] rfl)
          · have h := q_f c_12 h
            refine lv_aload_n hx hb dX3_book_62 rfl (lv_at hl 0 rfl) ?_
            refine va_get (D := D) (ci := 3) (v := .ref (q 27)) (C := RX3) (T := TX3) (N := 7) hx hb hts uX3_book_X3 hown hK hP 0 rfl rfl 5 (by decide) (hts _ kX3_book_4) (fun _ h9 => h9) rfl dX3_book_63 ?_
            refine lv_iload_n hx hb dX3_book_66 rfl (lv_at hl 1 rfl) ?_
            obtain ⟨z_13, h⟩ := q_grd_ok h
            refine va_aldq hx hb hK hP 27 3 rfl rfl z_13 dX3_book_67 ?_
            refine W.eq (g2 := F0 m 68 ls [.ref (q (28 + 2 * v1.toNatClampNeg))]) rfl ?_
            refine lv_iload hx hb dX3_book_68 (lv_at hl 3 rfl) ?_
            refine lv_aload_n hx hb dX3_book_70 rfl (lv_at hl 0 rfl) ?_
            refine va_get (D := D) (ci := 3) (v := .ref (q 8)) (C := RX3) (T := TX3) (N := 7) hx hb hts uX3_book_X3 hown hK hP 0 rfl rfl 1 (by decide) (hts _ kX3_book_1) (fun _ h9 => h9) rfl dX3_book_71 ?_
            refine va_get (D := D) (ci := 0) (v := .ref (q 10)) (C := RX0) (T := TX0) (N := 13) hx hb hts uX3_book_X0 hown hK hP 8 rfl rfl 8 (by decide) (hts _ kX3_book_3) (fun _ h9 => h9) rfl dX3_book_74 ?_
            refine lv_iload_n hx hb dX3_book_77 rfl (lv_at hl 2 rfl) ?_
            obtain ⟨z_14, h⟩ := q_grd_ok h
            refine va_iald hx hb hK hP 10 0 rfl rfl z_14 dX3_book_78 ?_
            refine lv_i2l hx hb dX3_book_79 rfl ?_
            obtain ⟨E_15, hc_16, h⟩ := q_bd_ok h
            obtain ⟨L_17, eL_17, h⟩ := q_let_ok h
            refine q_cv (va_runV (As := [.int v4, .long ((T 2 v2.toNatClampNeg).toInt64)]) (rest := []) ⟨hx, hb, hml, hown, hts⟩ (c_X1_put l D y t (fun k => q (28 + 2 * v1.toNatClampNeg + k)) _ N (B (v1.toNatClampNeg)) (L (v1.toNatClampNeg)) v4 ((T 2 v2.toNatClampNeg).toInt64) E_15 hc_16) (cwV 2 hts gX3_book_X1_put rfl rfl rfl eX1_put ⟨Nat.le_of_ble_eq_true rfl, Nat.le_of_ble_eq_true rfl⟩) ⟨q_blind, (va_recv hK hP (ci := 1) (q0 := 28 + 2 * v1.toNatClampNeg) rfl (sh_o (q_in_lt z_13))), (q_pre hP hK hZ hD hA hS [28 + 2 * v1.toNatClampNeg, 29 + 2 * v1.toNatClampNeg] (sk_cut (q_in_lt z_13)) (sh_nd (v1.toNatClampNeg)))⟩ rfl rfl hl.1 rfl (lv_room (Nat.le_of_ble_eq_true rfl)) dX3_book_80 ⟨Nat.zero_le _, Nat.zero_le _⟩) hP hD hA hS [28 + 2 * v1.toNatClampNeg, 29 + 2 * v1.toNatClampNeg] (sk_cut (q_in_lt z_13)) (sh_nd (v1.toNatClampNeg)) rfl (fun H locs hP hD hS => ?_)
            have hP : va_P D vwCl (wB y q b R T K P B L_17) H := by rw [eL_17, ← sk_setsL (q_in_lt z_13) _]; exact hP
            have hD : va_D A (wB y q b R T K P B L_17) := by rw [eL_17, ← sk_setsL (q_in_lt z_13) _]; exact hD
            refine lv_aload_n hx hb dX3_book_83 rfl (lv_at hl 0 rfl) ?_
            refine va_get (D := D) (ci := 3) (v := .ref (q 8)) (C := RX3) (T := TX3) (N := 7) hx hb hts uX3_book_X3 hown hK hP 0 rfl rfl 1 (by decide) (hts _ kX3_book_1) (fun _ h9 => h9) rfl dX3_book_84 ?_
            refine lv_iconst (v := 1) hx hb dX3_book_87 (by decide) ?_
            obtain ⟨T_18, hc_19, h⟩ := q_bd_ok h
            refine q_cv (va_runV (As := [.int (1 : Int32)]) (rest := []) ⟨hx, hb, hml, hown, hts⟩ (c_X0_goSeconds l D y t (fun k => q (k + 8)) _ N T (1 : Int32) T_18 hc_19) (cwV 1 hts gX3_book_X0_goSeconds rfl rfl rfl eX0_goSeconds ⟨Nat.le_of_ble_eq_true rfl, Nat.le_of_ble_eq_true rfl⟩) ⟨q_blind, (va_recv hK hP (ci := 0) (q0 := 8) rfl rfl), (q_pre hP hK hZ hD hA hS [8, 9, 10, 11, 12, 13, 14] rfl (by decide))⟩ rfl rfl hl.1 rfl (lv_room (Nat.le_of_ble_eq_true rfl)) dX3_book_88 ⟨Nat.zero_le _, Nat.zero_le _⟩) hP hD hA hS [8, 9, 10, 11, 12, 13, 14] rfl (by decide) rfl (fun H locs hP hD hS => ?_)
            have hP : va_P D vwCl (wB y q b R T_18 K P B L_17) H := hP
            have hD : va_D A (wB y q b R T_18 K P B L_17) := hD
            obtain ⟨x_20, ex_20, h⟩ := q_let_ok h
            refine lv_iinc (v := x_20) (lv' := [(4, .int x_20), (0, .ref (q 0)), (1, .int v1), (2, .int v2)]) hx hb dX3_book_91 hl (k := 3) rfl (by rw [ex_20]; rfl) (by decide) rfl (fun ls hl => ?_)
            refine lv_goto (tgt := 48) hx hb dX3_book_94 (by decide) ?_
            exact ih48_7 x_20 T_18 L_17 K48_7 _ _ _ hP hD hS (lv_sub hl [1, 2, 3, 0] rfl) h
      exact L48_7 b R K P B v1 v2 N (0 : Int32) T_5 L K48_7 _ _ _ hP hD hS (lv_sub hl [1, 2, 3, 0] rfl) hL7
    · have h := q_f c_4 h
      refine lv_aload_n hx hb dX3_book_28 rfl (lv_at hl 0 rfl) ?_
      refine lv_iload_n hx hb dX3_book_29 rfl (lv_at hl 3 rfl) ?_
      obtain ⟨r_22, b_23, hc_24, h⟩ := q_bd2_ok h
      refine q_ci0 (r := r_22) (va_runV (As := [.int v3]) (rest := []) ⟨hx, hb, hml, hown, hts⟩ (c_X3_found l D y t q _ N b R T K P B L v3 (r_22, b_23) hc_24) (cwV 1 hts gX3_book_X3_found rfl rfl rfl eX3_found ⟨Nat.le_of_ble_eq_true rfl, Nat.le_of_ble_eq_true rfl⟩) ⟨q_blind, (va_recv hK hP (ci := 3) (q0 := 0) rfl rfl), (q_pre0 hP hK hZ hD hA hS)⟩ rfl rfl hl.1 rfl (lv_room (Nat.le_of_ble_eq_true rfl)) dX3_book_30 ⟨Nat.zero_le _, Nat.zero_le _⟩) hD hA hS (fun H locs hP hD hS => ?_)
      have hP : va_P D vwCl (wB y q b_23 R T K P B L) H := hP
      have hD : va_D A (wB y q b_23 R T K P B L) := hD
      have e9 := Option.some.inj h
      exact q_iret hx hb hr hlocks hK hP hD hS dX3_book_33 (by first | rw [← e9] | rfl) (by first | rw [← e9] | rfl)
  unfold f_X3_book at h
  refine lv_aload_n hx hb dX3_book_0 rfl (lv_at hl 0 rfl) ?_
  refine lv_iload_n hx hb dX3_book_1 rfl (lv_at hl 1 rfl) ?_
  obtain ⟨r_1, hc_2, h⟩ := q_bd_ok h
  refine q_ci0 (r := r_1) (va_runV (As := [.int p1]) (rest := []) ⟨hx, hb, hml, hown, hts⟩ (c_X3_findingOfSheet l D y t q _ N b R T K P B L p1 r_1 hc_2) (cwV 1 hts gX3_book_X3_findingOfSheet rfl rfl rfl eX3_findingOfSheet ⟨Nat.le_of_ble_eq_true rfl, Nat.le_of_ble_eq_true rfl⟩) ⟨q_blind, (va_recv hK hP (ci := 3) (q0 := 0) rfl rfl), (q_pre0 hP hK hZ hD hA hS)⟩ rfl rfl hl.1 rfl (lv_room (Nat.le_of_ble_eq_true rfl)) dX3_book_2 ⟨Nat.zero_le _, Nat.zero_le _⟩) hD hA hS (fun H locs hP hD hS => ?_)
  have hP : va_P D vwCl (wB y q b R T K P B L) H := hP
  have hD : va_D A (wB y q b R T K P B L) := hD
  refine lv_istore_n (lv' := [(3, .int r_1), (0, .ref (q 0)), (1, .int p1), (2, .int p2)]) hx hb dX3_book_5 rfl hl (by decide) rfl (fun ls hl => ?_)
  refine lv_iload_n hx hb dX3_book_6 rfl (lv_at hl 0 rfl) ?_
  refine lv_if_ne (tgt := 24) hx hb dX3_book_7 (by decide) (fun c_3 => ?_) (fun c_3 => ?_)
  · have h := q_f c_3 h
    exact B24 b R T K P B L p1 p2 r_1 _ _ _ hP hD hS (lv_sub hl [1, 2, 3, 0] rfl) h
  · have h := q_t c_3 h
    refine lv_aload_n hx hb dX3_book_10 rfl (lv_at hl 1 rfl) ?_
    refine va_get (D := D) (ci := 3) (v := .ref (q 1)) (C := RX3) (T := TX3) (N := 7) hx hb hts uX3_book_X3 hown hK hP 0 rfl rfl 0 (by decide) (hts _ kX3_book_7) (fun _ h9 => h9) rfl dX3_book_11 ?_
    refine lv_iload_n hx hb dX3_book_14 rfl (lv_at hl 3 rfl) ?_
    obtain ⟨r_25, hc_26, h⟩ := q_bd_ok h
    refine q_ci (r := r_25) (va_runV (As := [.int p2]) (rest := []) ⟨hx, hb, hml, hown, hts⟩ (c_X0_has l D y t (fun k => q (k + 1)) _ N R p2 r_25 hc_26) (cwV 1 hts gX3_book_X0_has rfl rfl rfl eX0_has ⟨Nat.le_of_ble_eq_true rfl, Nat.le_of_ble_eq_true rfl⟩) ⟨q_blind, (va_recv hK hP (ci := 0) (q0 := 1) rfl rfl), (q_pre hP hK hZ hD hA hS [1, 2, 3, 4, 5, 6, 7] rfl (by decide))⟩ rfl rfl hl.1 rfl (lv_room (Nat.le_of_ble_eq_true rfl)) dX3_book_15 ⟨Nat.zero_le _, Nat.zero_le _⟩) hP hD hA hS [1, 2, 3, 4, 5, 6, 7] rfl (by decide) rfl (fun H locs hP hD hS => ?_)
    have hP : va_P D vwCl (wB y q b R T K P B L) H := hP
    have hD : va_D A (wB y q b R T K P B L) := hD
    refine lv_if_ne (tgt := 24) hx hb dX3_book_18 (by decide) (fun c_27 => ?_) (fun c_27 => ?_)
    · have h := q_f c_27 h
      exact B24 b R T K P B L p1 p2 r_1 _ _ _ hP hD hS (lv_sub hl [1, 2, 3, 0] rfl) h
    · have h := q_t c_27 h
      refine lv_ldc (v := -1000000001) hx hb hown (hts _ kX3_book_8) dX3_book_21 ?_
      refine lv_istore_n (lv' := [(3, .int (-1000000001 : Int32)), (0, .ref (q 0)), (1, .int p1), (2, .int p2)]) hx hb dX3_book_23 rfl hl (by decide) rfl (fun ls hl => ?_)
      exact B24 b R T K P B L p1 p2 (-1000000001 : Int32) _ _ _ hP hD hS (lv_sub hl [1, 2, 3, 0] rfl) h
theorem eX3_book : yX3_book.cls = RX3 ∧ yX3_book.cls ≠ "java/lang/invoke/MethodHandle" ∧ yX3_book.cls ≠ "java/lang/invoke/VarHandle" ∧ (parseMethodDescriptor yX3_book.desc).map (fun d => d.parameters.length) = some 2 := by decide +kernel
theorem uX3_goesAsBooked_X3 : ∀ w ∈ u_ws RX3 TX3 7, w ∈ wsX3_goesAsBooked := by decide +kernel
theorem kX3_goesAsBooked_1 : Cond.fieldLink RX3 16 "BeamSeats" "trial" "LBeamSeats$Island;" ∈ wsX3_goesAsBooked := List.mem_of_getElem? (i := 3) (by decide +kernel)
theorem uX3_goesAsBooked_X0 : ∀ w ∈ u_ws RX0 TX0 13, w ∈ wsX3_goesAsBooked := by decide +kernel
theorem kX3_goesAsBooked_3 : Cond.fieldLink RX3 97 "BeamSeats$Island" "places" "[I" ∈ wsX3_goesAsBooked := List.mem_of_getElem? (i := 4) (by decide +kernel)
theorem uX3_goesAsBooked_X1 : ∀ w ∈ u_ws RX1 TX1 3, w ∈ wsX3_goesAsBooked := by decide +kernel
theorem kX3_goesAsBooked_5 : Cond.fieldLink RX3 189 "BeamSeats$Sheet" "numbers" "[J" ∈ wsX3_goesAsBooked := List.mem_of_getElem? (i := 2) (by decide +kernel)
theorem kX3_goesAsBooked_6 : Cond.fieldLink RX3 185 "BeamSeats$Sheet" "size" "I" ∈ wsX3_goesAsBooked := List.mem_of_getElem? (i := 1) (by decide +kernel)
def f_X3_goesAsBooked_L2 (N : Nat) (j1 : Nat) (b : Nat → Nat → Int32) (R : Nat → Nat → Int32) (K : Nat → Nat → Int32) (P : Nat → Nat → Int32) (B : Nat → Nat → Int32) (L : Nat → Nat → Int64) (v2 : Int32) : Nat → Int32 → (Nat → Nat → Int32) → Option (Int32 × (Nat → Nat → Int32))
  | 0, _, _ => none
  | k + 1, v3, T =>
    if (B j1 1) ≤ v3 then
      some ((1 : Int32), T)
    else
      q_grd v3 40 (
      q_grd v2 8 (
      if (lg_cmp (L j1 v3.toNatClampNeg) ((T 2 v2.toNatClampNeg).toInt64)) = 0 then
        q_bd (f_X0_goSeconds N T (1 : Int32)) (fun T_8 =>
        q_let (v3 + 1) (fun x_10 =>
        f_X3_goesAsBooked_L2 N j1 b R K P B L v2 k x_10 T_8))
      else
        some ((0 : Int32), T)))
def f_X3_goesAsBooked (N : Nat) (b : Nat → Nat → Int32) (R : Nat → Nat → Int32) (T : Nat → Nat → Int32) (K : Nat → Nat → Int32) (P : Nat → Nat → Int32) (B : Nat → Nat → Int32) (L : Nat → Nat → Int64) (j1 : Nat) (p2 : Int32) : Option (Int32 × (Nat → Nat → Int32)) :=
  f_X3_goesAsBooked_L2 N j1 b R K P B L p2 N (0 : Int32) T
set_option maxHeartbeats 4000000 in
set_option maxRecDepth 100000 in
theorem c_X3_goesAsBooked (l : Launch) (D : va_G) (y : Nat → ClassId) (t : Nat → Nat) (q : Nat → Nat) (sz N : Nat) (b : Nat → Nat → Int32) (R : Nat → Nat → Int32) (T : Nat → Nat → Int32) (K : Nat → Nat → Int32) (P : Nat → Nat → Int32) (B : Nat → Nat → Int32) (L : Nat → Nat → Int64) (j1 : Nat) (p2 : Int32) (hj1 : j1 < 4) (res : Int32 × (Nat → Nat → Int32)) (h : f_X3_goesAsBooked N b R T K P B L j1 p2 = some res) : Met l yX3_goesAsBooked wsX3_goesAsBooked ({ frames := 5, cells := 0, slots := 0, locals := 113 } : Room) (pPre D y t [.ref (q 0), .ref (q (28 + 2 * j1)), .int p2] (wB y q b R T K P B L) sz) (pQi D y (res.1) (wB y q b R (res.2) K P B L) (va_A (wB y q b R T K P B L) sz)) 0 0 (va_A (wB y q b R T K P B L) sz) := by
  refine q_start (Qc := (fun A => pQi D y (res.1) (wB y q b R (res.2) K P B L) A)) (cc := cX3_goesAsBooked) (maxL := 4) (ret := (some .boolean)) (by decide) rfl (Nat.le_of_ble_eq_true rfl) ?_
  intro p e s m below meth c A ls hx hb hr hts hown hlocks hmn hml hP hK hZ hD hA hS hl
  have hl : lv_has ls 4 [(0, .ref (q 0)), (1, .ref (q (28 + 2 * j1))), (2, .int p2)] := hl
  have hown : s.vm.findClass RX3 = some m.cls := hown
  unfold f_X3_goesAsBooked at h
  refine lv_iconst (v := 0) hx hb dX3_goesAsBooked_0 (by decide) ?_
  refine lv_istore_n (lv' := [(3, .int (0 : Int32)), (0, .ref (q 0)), (1, .ref (q (28 + 2 * j1))), (2, .int p2)]) hx hb dX3_goesAsBooked_1 rfl hl (by decide) rfl (fun ls hl => ?_)
  have L2_1 : ∀ (b : Nat → Nat → Int32) (R : Nat → Nat → Int32) (K : Nat → Nat → Int32) (P : Nat → Nat → Int32) (B : Nat → Nat → Int32) (L : Nat → Nat → Int64) (v2 : Int32) (k : Nat) (v3 : Int32) (T : Nat → Nat → Int32), ∀ (H : Heap) (locs : List Loc) (ls : Array Slot), va_P D vwCl (wB y q b R T K P B L) H → va_D A (wB y q b R T K P B L) → va_S A s.heap H locs → lv_has ls 4 [(0, .ref (q 0)), (1, .ref (q (28 + 2 * j1))), (2, .int v2), (3, .int v3)] → f_X3_goesAsBooked_L2 N j1 b R K P B L v2 k v3 T = some res → W p l e ({ frames := 5, cells := 0, slots := 0, locals := 113 } : Room) s m ([.ref (q 0), .ref (q (28 + 2 * j1)), .int p2] : List Value).toArray below meth c H locs 0 0 (MQ below (pQi D y (res.1) (wB y q b R (res.2) K P B L) A) ([.ref (q 0), .ref (q (28 + 2 * j1)), .int p2] : List Value).toArray s 0 0 A) (F0 m 2 ls []) := by
    intro b R K P B L v2 k
    induction k with
    | zero =>
      intro v3 T H locs ls hP hD hS hl h
      have h : (none : Option (Int32 × (Nat → Nat → Int32))) = some _ := h
      cases h
    | succ k ih2_1 =>
      intro v3 T H locs ls hP hD hS hl h
      rw [f_X3_goesAsBooked_L2] at h
      refine lv_iload_n hx hb dX3_goesAsBooked_2 rfl (lv_at hl 3 rfl) ?_
      refine lv_aload_n hx hb dX3_goesAsBooked_3 rfl (lv_at hl 1 rfl) ?_
      refine va_get (D := D) (ci := 1) (v := .int (B j1 1)) (C := RX1) (T := TX1) (N := 3) hx hb hts uX3_goesAsBooked_X1 hown hK hP (28 + 2 * j1) (sh_o hj1) rfl 1 (by decide) (hts _ kX3_goesAsBooked_6) (fun _ h9 => h9) rfl dX3_goesAsBooked_4 ?_
      refine lv_icmp_ge (tgt := 46) hx hb dX3_goesAsBooked_7 (by decide) (fun c_4 => ?_) (fun c_4 => ?_)
      · have h := q_t c_4 h
        refine lv_iconst (v := 1) hx hb dX3_goesAsBooked_46 (by decide) ?_
        have e9 := Option.some.inj h
        exact q_zret hx hb hr hlocks hK hP hD hS dX3_goesAsBooked_47 rfl (by first | rw [← e9] | rfl) (by first | rw [← e9] | rfl)
      · have h := q_f c_4 h
        refine lv_aload_n hx hb dX3_goesAsBooked_10 rfl (lv_at hl 1 rfl) ?_
        refine va_get (D := D) (ci := 1) (v := .ref (q (29 + 2 * j1))) (C := RX1) (T := TX1) (N := 3) hx hb hts uX3_goesAsBooked_X1 hown hK hP (28 + 2 * j1) (sh_o hj1) rfl 2 (by decide) (hts _ kX3_goesAsBooked_5) (fun _ h9 => h9) rfl dX3_goesAsBooked_11 ?_
        refine lv_iload_n hx hb dX3_goesAsBooked_14 rfl (lv_at hl 3 rfl) ?_
        obtain ⟨z_5, h⟩ := q_grd_ok h
        refine va_lald hx hb hK hP (29 + 2 * j1) 2 (sh_n hj1) rfl z_5 dX3_goesAsBooked_15 ?_
        refine lv_aload_n hx hb dX3_goesAsBooked_16 rfl (lv_at hl 0 rfl) ?_
        refine va_get (D := D) (ci := 3) (v := .ref (q 8)) (C := RX3) (T := TX3) (N := 7) hx hb hts uX3_goesAsBooked_X3 hown hK hP 0 rfl rfl 1 (by decide) (hts _ kX3_goesAsBooked_1) (fun _ h9 => h9) rfl dX3_goesAsBooked_17 ?_
        refine va_get (D := D) (ci := 0) (v := .ref (q 10)) (C := RX0) (T := TX0) (N := 13) hx hb hts uX3_goesAsBooked_X0 hown hK hP 8 rfl rfl 8 (by decide) (hts _ kX3_goesAsBooked_3) (fun _ h9 => h9) rfl dX3_goesAsBooked_20 ?_
        refine lv_iload_n hx hb dX3_goesAsBooked_23 rfl (lv_at hl 2 rfl) ?_
        obtain ⟨z_6, h⟩ := q_grd_ok h
        refine va_iald hx hb hK hP 10 0 rfl rfl z_6 dX3_goesAsBooked_24 ?_
        refine lv_i2l hx hb dX3_goesAsBooked_25 rfl ?_
        refine W.lcmp hx hb dX3_goesAsBooked_26 ?_
        refine lv_if_eq (tgt := 32) hx hb dX3_goesAsBooked_27 (by decide) (fun c_7 => ?_) (fun c_7 => ?_)
        · have h := q_t c_7 h
          refine lv_aload_n hx hb dX3_goesAsBooked_32 rfl (lv_at hl 0 rfl) ?_
          refine va_get (D := D) (ci := 3) (v := .ref (q 8)) (C := RX3) (T := TX3) (N := 7) hx hb hts uX3_goesAsBooked_X3 hown hK hP 0 rfl rfl 1 (by decide) (hts _ kX3_goesAsBooked_1) (fun _ h9 => h9) rfl dX3_goesAsBooked_33 ?_
          refine lv_iconst (v := 1) hx hb dX3_goesAsBooked_36 (by decide) ?_
          obtain ⟨T_8, hc_9, h⟩ := q_bd_ok h
          refine q_cv (va_runV (As := [.int (1 : Int32)]) (rest := []) ⟨hx, hb, hml, hown, hts⟩ (c_X0_goSeconds l D y t (fun k => q (k + 8)) _ N T (1 : Int32) T_8 hc_9) (cwV 1 hts gX3_goesAsBooked_X0_goSeconds rfl rfl rfl eX0_goSeconds ⟨Nat.le_of_ble_eq_true rfl, Nat.le_of_ble_eq_true rfl⟩) ⟨q_blind, (va_recv hK hP (ci := 0) (q0 := 8) rfl rfl), (q_pre hP hK hZ hD hA hS [8, 9, 10, 11, 12, 13, 14] rfl (by decide))⟩ rfl rfl hl.1 rfl (lv_room (Nat.le_of_ble_eq_true rfl)) dX3_goesAsBooked_37 ⟨Nat.zero_le _, Nat.zero_le _⟩) hP hD hA hS [8, 9, 10, 11, 12, 13, 14] rfl (by decide) rfl (fun H locs hP hD hS => ?_)
          have hP : va_P D vwCl (wB y q b R T_8 K P B L) H := hP
          have hD : va_D A (wB y q b R T_8 K P B L) := hD
          obtain ⟨x_10, ex_10, h⟩ := q_let_ok h
          refine lv_iinc (v := x_10) (lv' := [(3, .int x_10), (0, .ref (q 0)), (1, .ref (q (28 + 2 * j1))), (2, .int v2)]) hx hb dX3_goesAsBooked_40 hl (k := 3) rfl (by rw [ex_10]; rfl) (by decide) rfl (fun ls hl => ?_)
          refine lv_goto (tgt := 2) hx hb dX3_goesAsBooked_43 (by decide) ?_
          exact ih2_1 x_10 T_8 _ _ _ hP hD hS (lv_sub hl [1, 2, 3, 0] rfl) h
        · have h := q_f c_7 h
          refine lv_iconst (v := 0) hx hb dX3_goesAsBooked_30 (by decide) ?_
          have e9 := Option.some.inj h
          exact q_zret hx hb hr hlocks hK hP hD hS dX3_goesAsBooked_31 rfl (by first | rw [← e9] | rfl) (by first | rw [← e9] | rfl)
  exact L2_1 b R K P B L p2 N (0 : Int32) T _ _ _ hP hD hS (lv_sub hl [1, 2, 3, 0] rfl) h
theorem eX3_goesAsBooked : yX3_goesAsBooked.cls = RX3 ∧ yX3_goesAsBooked.cls ≠ "java/lang/invoke/MethodHandle" ∧ yX3_goesAsBooked.cls ≠ "java/lang/invoke/VarHandle" ∧ (parseMethodDescriptor yX3_goesAsBooked.desc).map (fun d => d.parameters.length) = some 2 := by decide +kernel
theorem uX3_read_X3 : ∀ w ∈ u_ws RX3 TX3 7, w ∈ wsX3_read := by decide +kernel
theorem kX3_read_1 : Cond.fieldLink RX3 35 "BeamSeats" "sheets" "[LBeamSeats$Sheet;" ∈ wsX3_read := List.mem_of_getElem? (i := 6) (by decide +kernel)
theorem uX3_read_X0 : ∀ w ∈ u_ws RX0 TX0 13, w ∈ wsX3_read := by decide +kernel
theorem kX3_read_3 : Cond.fieldLink RX3 52 "BeamSeats$Island" "speed" "I" ∈ wsX3_read := List.mem_of_getElem? (i := 5) (by decide +kernel)
theorem kX3_read_4 : Cond.fieldLink RX3 16 "BeamSeats" "trial" "LBeamSeats$Island;" ∈ wsX3_read := List.mem_of_getElem? (i := 3) (by decide +kernel)
theorem kX3_read_5 : Cond.fieldLink RX3 94 "BeamSeats$Island" "kinds" "[I" ∈ wsX3_read := List.mem_of_getElem? (i := 4) (by decide +kernel)
theorem kX3_read_6 : Cond.fieldLink RX3 10 "BeamSeats" "real" "LBeamSeats$Island;" ∈ wsX3_read := List.mem_of_getElem? (i := 1) (by decide +kernel)
theorem kX3_read_7 : Cond.constant RX3 58 (-1000000001) ∈ wsX3_read := List.mem_of_getElem? (i := 2) (by decide +kernel)
def f_X3_read_L49 (N : Nat) (b : Nat → Nat → Int32) (R : Nat → Nat → Int32) (K : Nat → Nat → Int32) (P : Nat → Nat → Int32) (B : Nat → Nat → Int32) (L : Nat → Nat → Int64) (v1 : Int32) (v2 : Int32) (v5 : Int32) : Nat → Int32 → Int32 → (Nat → Nat → Int32) → Option (Int32 × Int32 × (Nat → Nat → Int32))
  | 0, _, _, _ => none
  | k + 1, v4, v6, T =>
    if (10 : Int32) < v6 then
      some (v4, v6, T)
    else
      q_bd (f_X0_becomes N T R) (fun T_15 =>
      q_grd v2 8 (
      q_let (q_up T_15 1 v2.toNatClampNeg v5) (fun T_18 =>
      q_let (q_up T_18 0 2 v6) (fun T_19 =>
      q_grd v1 4 (
      q_bd2 (f_X3_goesAsBooked N b R T_19 K P B L (v1.toNatClampNeg) v2) (fun r_21 T_22 =>
      if r_21 = 0 then
        q_let (v6 + 1) (fun x_25 =>
        f_X3_read_L49 N b R K P B L v1 v2 v5 k v4 x_25 T_22)
      else
        q_let (v4 + 1) (fun x_26 =>
        q_let (v6 + 1) (fun x_27 =>
        f_X3_read_L49 N b R K P B L v1 v2 v5 k x_26 x_27 T_22))))))))
def f_X3_read_L40 (N : Nat) (b : Nat → Nat → Int32) (R : Nat → Nat → Int32) (K : Nat → Nat → Int32) (P : Nat → Nat → Int32) (B : Nat → Nat → Int32) (L : Nat → Nat → Int64) (v1 : Int32) (v2 : Int32) : Nat → Int32 → Int32 → (Nat → Nat → Int32) → Option (Int32 × Int32 × (Nat → Nat → Int32))
  | 0, _, _, _ => none
  | k + 1, v4, v5, T =>
    if (5 : Int32) < v5 then
      some (v4, v5, T)
    else
      q_bd3 (f_X3_read_L49 N b R K P B L v1 v2 v5 N v4 (1 : Int32) T) (fun x_11 x_12 T_13 =>
      q_let (v5 + 1) (fun x_28 =>
      f_X3_read_L40 N b R K P B L v1 v2 k x_11 x_28 T_13))
def f_X3_read_B24 (N : Nat) (b : Nat → Nat → Int32) (R : Nat → Nat → Int32) (T : Nat → Nat → Int32) (K : Nat → Nat → Int32) (P : Nat → Nat → Int32) (B : Nat → Nat → Int32) (L : Nat → Nat → Int64) (v1 : Int32) (v2 : Int32) (v3 : Int32) : Option (Int32 × (Nat → Nat → Int32) × (Nat → Nat → Int32)) :=
  if v3 = 0 then
    q_bd3 (f_X3_read_L40 N b R K P B L v1 v2 N (0 : Int32) (0 : Int32) T) (fun x_6 x_7 T_8 =>
    some (x_6, b, T_8))
  else
    q_bd2 (f_X3_found N b R T K P B L v3) (fun r_29 b_30 =>
    some (r_29, b_30, T))
def f_X3_read (N : Nat) (b : Nat → Nat → Int32) (R : Nat → Nat → Int32) (T : Nat → Nat → Int32) (K : Nat → Nat → Int32) (P : Nat → Nat → Int32) (B : Nat → Nat → Int32) (L : Nat → Nat → Int64) (p1 : Int32) (p2 : Int32) : Option (Int32 × (Nat → Nat → Int32) × (Nat → Nat → Int32)) :=
  q_bd (f_X3_findingOfSheet N b R T K P B L p1) (fun r_1 =>
  if r_1 = 0 then
    q_bd (f_X0_has N R p2) (fun r_32 =>
    if r_32 = 0 then
      f_X3_read_B24 N b R T K P B L p1 p2 (-1000000001 : Int32)
    else
      f_X3_read_B24 N b R T K P B L p1 p2 r_1)
  else
    f_X3_read_B24 N b R T K P B L p1 p2 r_1)
set_option maxHeartbeats 4000000 in
set_option maxRecDepth 100000 in
theorem c_X3_read (l : Launch) (D : va_G) (y : Nat → ClassId) (t : Nat → Nat) (q : Nat → Nat) (sz N : Nat) (b : Nat → Nat → Int32) (R : Nat → Nat → Int32) (T : Nat → Nat → Int32) (K : Nat → Nat → Int32) (P : Nat → Nat → Int32) (B : Nat → Nat → Int32) (L : Nat → Nat → Int64) (p1 : Int32) (p2 : Int32) (res : Int32 × (Nat → Nat → Int32) × (Nat → Nat → Int32)) (h : f_X3_read N b R T K P B L p1 p2 = some res) : Met l yX3_read wsX3_read ({ frames := 6, cells := 0, slots := 0, locals := 136 } : Room) (pPre D y t [.ref (q 0), .int p1, .int p2] (wB y q b R T K P B L) sz) (pQi D y (res.1) (wB y q (res.2.1) R (res.2.2) K P B L) (va_A (wB y q b R T K P B L) sz)) 0 0 (va_A (wB y q b R T K P B L) sz) := by
  refine q_start (Qc := (fun A => pQi D y (res.1) (wB y q (res.2.1) R (res.2.2) K P B L) A)) (cc := cX3_read) (maxL := 7) (ret := (some .int)) (by decide) rfl (Nat.le_of_ble_eq_true rfl) ?_
  intro p e s m below meth c A ls hx hb hr hts hown hlocks hmn hml hP hK hZ hD hA hS hl
  have hl : lv_has ls 7 [(0, .ref (q 0)), (1, .int p1), (2, .int p2)] := hl
  have hown : s.vm.findClass RX3 = some m.cls := hown
  have B24 : ∀ (b : Nat → Nat → Int32) (R : Nat → Nat → Int32) (T : Nat → Nat → Int32) (K : Nat → Nat → Int32) (P : Nat → Nat → Int32) (B : Nat → Nat → Int32) (L : Nat → Nat → Int64) (v1 : Int32) (v2 : Int32) (v3 : Int32) (H : Heap) (locs : List Loc) (ls : Array Slot), va_P D vwCl (wB y q b R T K P B L) H → va_D A (wB y q b R T K P B L) → va_S A s.heap H locs → lv_has ls 7 [(0, .ref (q 0)), (1, .int v1), (2, .int v2), (3, .int v3)] → f_X3_read_B24 N b R T K P B L v1 v2 v3 = some res → W p l e ({ frames := 6, cells := 0, slots := 0, locals := 136 } : Room) s m ([.ref (q 0), .int p1, .int p2] : List Value).toArray below meth c H locs 0 0 (MQ below (pQi D y (res.1) (wB y q (res.2.1) R (res.2.2) K P B L) A) ([.ref (q 0), .int p1, .int p2] : List Value).toArray s 0 0 A) (F0 m 24 ls []) := by
    intro b R T K P B L v1 v2 v3 H locs ls hP hD hS hl h
    unfold f_X3_read_B24 at h
    refine lv_iload_n hx hb dX3_read_24 rfl (lv_at hl 3 rfl) ?_
    refine lv_if_eq (tgt := 34) hx hb dX3_read_25 (by decide) (fun c_4 => ?_) (fun c_4 => ?_)
    · have h := q_t c_4 h
      refine lv_iconst (v := 0) hx hb dX3_read_34 (by decide) ?_
      refine lv_istore (lv' := [(4, .int (0 : Int32)), (0, .ref (q 0)), (1, .int v1), (2, .int v2), (3, .int v3)]) hx hb dX3_read_35 hl (by decide) rfl (fun ls hl => ?_)
      refine lv_iconst (v := 0) hx hb dX3_read_37 (by decide) ?_
      refine lv_istore (lv' := [(5, .int (0 : Int32)), (4, .int (0 : Int32)), (0, .ref (q 0)), (1, .int v1), (2, .int v2), (3, .int v3)]) hx hb dX3_read_38 hl (by decide) rfl (fun ls hl => ?_)
      obtain ⟨x_6, x_7, T_8, hL5, h⟩ := q_bd3_ok h
      have K40_5 : ∀ (H : Heap) (locs : List Loc) (ls : Array Slot), va_P D vwCl (wB y q b R T_8 K P B L) H → va_D A (wB y q b R T_8 K P B L) → va_S A s.heap H locs → lv_has ls 7 [(0, .ref (q 0)), (1, .int v1), (2, .int v2), (4, .int x_6), (5, .int x_7)] → W p l e ({ frames := 6, cells := 0, slots := 0, locals := 136 } : Room) s m ([.ref (q 0), .int p1, .int p2] : List Value).toArray below meth c H locs 0 0 (MQ below (pQi D y (res.1) (wB y q (res.2.1) R (res.2.2) K P B L) A) ([.ref (q 0), .int p1, .int p2] : List Value).toArray s 0 0 A) (F0 m 116 ls []) := by
        intro H locs ls hP hD hS hl
        refine lv_iload hx hb dX3_read_116 (lv_at hl 3 rfl) ?_
        have e9 := Option.some.inj h
        exact q_iret hx hb hr hlocks hK hP hD hS dX3_read_118 (by first | rw [← e9] | rfl) (by first | rw [← e9] | rfl)
      have L40_5 : ∀ (b : Nat → Nat → Int32) (R : Nat → Nat → Int32) (K : Nat → Nat → Int32) (P : Nat → Nat → Int32) (B : Nat → Nat → Int32) (L : Nat → Nat → Int64) (v1 : Int32) (v2 : Int32) (k : Nat) (v4 : Int32) (v5 : Int32) (T : Nat → Nat → Int32), (∀ (H : Heap) (locs : List Loc) (ls : Array Slot), va_P D vwCl (wB y q b R T_8 K P B L) H → va_D A (wB y q b R T_8 K P B L) → va_S A s.heap H locs → lv_has ls 7 [(0, .ref (q 0)), (1, .int v1), (2, .int v2), (4, .int x_6), (5, .int x_7)] → W p l e ({ frames := 6, cells := 0, slots := 0, locals := 136 } : Room) s m ([.ref (q 0), .int p1, .int p2] : List Value).toArray below meth c H locs 0 0 (MQ below (pQi D y (res.1) (wB y q (res.2.1) R (res.2.2) K P B L) A) ([.ref (q 0), .int p1, .int p2] : List Value).toArray s 0 0 A) (F0 m 116 ls [])) → ∀ (H : Heap) (locs : List Loc) (ls : Array Slot), va_P D vwCl (wB y q b R T K P B L) H → va_D A (wB y q b R T K P B L) → va_S A s.heap H locs → lv_has ls 7 [(0, .ref (q 0)), (1, .int v1), (2, .int v2), (4, .int v4), (5, .int v5)] → f_X3_read_L40 N b R K P B L v1 v2 k v4 v5 T = some (x_6, x_7, T_8) → W p l e ({ frames := 6, cells := 0, slots := 0, locals := 136 } : Room) s m ([.ref (q 0), .int p1, .int p2] : List Value).toArray below meth c H locs 0 0 (MQ below (pQi D y (res.1) (wB y q (res.2.1) R (res.2.2) K P B L) A) ([.ref (q 0), .int p1, .int p2] : List Value).toArray s 0 0 A) (F0 m 40 ls []) := by
        intro b R K P B L v1 v2 k
        induction k with
        | zero =>
          intro v4 v5 T K40_5 H locs ls hP hD hS hl h
          have h : (none : Option (Int32 × Int32 × (Nat → Nat → Int32))) = some _ := h
          cases h
        | succ k ih40_5 =>
          intro v4 v5 T K40_5 H locs ls hP hD hS hl h
          rw [f_X3_read_L40] at h
          refine lv_iload hx hb dX3_read_40 (lv_at hl 4 rfl) ?_
          refine lv_iconst (v := 5) hx hb dX3_read_42 (by decide) ?_
          refine lv_icmp_gt (tgt := 116) hx hb dX3_read_43 (by decide) (fun c_9 => ?_) (fun c_9 => ?_)
          · have h := q_t c_9 h
            cases h
            exact K40_5 _ _ _ hP hD hS (lv_sub hl [0, 1, 2, 3, 4] rfl)
          · have h := q_f c_9 h
            refine lv_iconst (v := 1) hx hb dX3_read_46 (by decide) ?_
            refine lv_istore (lv' := [(6, .int (1 : Int32)), (0, .ref (q 0)), (1, .int v1), (2, .int v2), (4, .int v4), (5, .int v5)]) hx hb dX3_read_47 hl (by decide) rfl (fun ls hl => ?_)
            obtain ⟨x_11, x_12, T_13, hL10, h⟩ := q_bd3_ok h
            have K49_10 : ∀ (H : Heap) (locs : List Loc) (ls : Array Slot), va_P D vwCl (wB y q b R T_13 K P B L) H → va_D A (wB y q b R T_13 K P B L) → va_S A s.heap H locs → lv_has ls 7 [(0, .ref (q 0)), (1, .int v1), (2, .int v2), (4, .int x_11), (5, .int v5), (6, .int x_12)] → W p l e ({ frames := 6, cells := 0, slots := 0, locals := 136 } : Room) s m ([.ref (q 0), .int p1, .int p2] : List Value).toArray below meth c H locs 0 0 (MQ below (pQi D y (res.1) (wB y q (res.2.1) R (res.2.2) K P B L) A) ([.ref (q 0), .int p1, .int p2] : List Value).toArray s 0 0 A) (F0 m 110 ls []) := by
              intro H locs ls hP hD hS hl
              obtain ⟨x_28, ex_28, h⟩ := q_let_ok h
              refine lv_iinc (v := x_28) (lv' := [(5, .int x_28), (0, .ref (q 0)), (1, .int v1), (2, .int v2), (4, .int x_11), (6, .int x_12)]) hx hb dX3_read_110 hl (k := 4) rfl (by rw [ex_28]; rfl) (by decide) rfl (fun ls hl => ?_)
              refine lv_goto (tgt := 40) hx hb dX3_read_113 (by decide) ?_
              exact ih40_5 x_11 x_28 T_13 K40_5 _ _ _ hP hD hS (lv_sub hl [1, 2, 3, 4, 0] rfl) h
            have L49_10 : ∀ (b : Nat → Nat → Int32) (R : Nat → Nat → Int32) (K : Nat → Nat → Int32) (P : Nat → Nat → Int32) (B : Nat → Nat → Int32) (L : Nat → Nat → Int64) (v1 : Int32) (v2 : Int32) (v5 : Int32) (k : Nat) (v4 : Int32) (v6 : Int32) (T : Nat → Nat → Int32), (∀ (H : Heap) (locs : List Loc) (ls : Array Slot), va_P D vwCl (wB y q b R T_13 K P B L) H → va_D A (wB y q b R T_13 K P B L) → va_S A s.heap H locs → lv_has ls 7 [(0, .ref (q 0)), (1, .int v1), (2, .int v2), (4, .int x_11), (5, .int v5), (6, .int x_12)] → W p l e ({ frames := 6, cells := 0, slots := 0, locals := 136 } : Room) s m ([.ref (q 0), .int p1, .int p2] : List Value).toArray below meth c H locs 0 0 (MQ below (pQi D y (res.1) (wB y q (res.2.1) R (res.2.2) K P B L) A) ([.ref (q 0), .int p1, .int p2] : List Value).toArray s 0 0 A) (F0 m 110 ls [])) → ∀ (H : Heap) (locs : List Loc) (ls : Array Slot), va_P D vwCl (wB y q b R T K P B L) H → va_D A (wB y q b R T K P B L) → va_S A s.heap H locs → lv_has ls 7 [(0, .ref (q 0)), (1, .int v1), (2, .int v2), (4, .int v4), (5, .int v5), (6, .int v6)] → f_X3_read_L49 N b R K P B L v1 v2 v5 k v4 v6 T = some (x_11, x_12, T_13) → W p l e ({ frames := 6, cells := 0, slots := 0, locals := 136 } : Room) s m ([.ref (q 0), .int p1, .int p2] : List Value).toArray below meth c H locs 0 0 (MQ below (pQi D y (res.1) (wB y q (res.2.1) R (res.2.2) K P B L) A) ([.ref (q 0), .int p1, .int p2] : List Value).toArray s 0 0 A) (F0 m 49 ls []) := by
              intro b R K P B L v1 v2 v5 k
              induction k with
              | zero =>
                intro v4 v6 T K49_10 H locs ls hP hD hS hl h
                have h : (none : Option (Int32 × Int32 × (Nat → Nat → Int32))) = some _ := h
                cases h
              | succ k ih49_10 =>
                intro v4 v6 T K49_10 H locs ls hP hD hS hl h
                rw [f_X3_read_L49] at h
                refine lv_iload hx hb dX3_read_49 (lv_at hl 5 rfl) ?_
                refine lv_bipush (v := 10) hx hb dX3_read_51 (by decide) ?_
                refine lv_icmp_gt (tgt := 110) hx hb dX3_read_53 (by decide) (fun c_14 => ?_) (fun c_14 => ?_)
                · have h := q_t c_14 h
                  cases h
                  exact K49_10 _ _ _ hP hD hS (lv_sub hl [0, 1, 2, 3, 4, 5] rfl)
                · have h := q_f c_14 h
                  refine lv_aload_n hx hb dX3_read_56 rfl (lv_at hl 0 rfl) ?_
                  refine va_get (D := D) (ci := 3) (v := .ref (q 8)) (C := RX3) (T := TX3) (N := 7) hx hb hts uX3_read_X3 hown hK hP 0 rfl rfl 1 (by decide) (hts _ kX3_read_4) (fun _ h9 => h9) rfl dX3_read_57 ?_
                  refine lv_aload_n hx hb dX3_read_60 rfl (lv_at hl 0 rfl) ?_
                  refine va_get (D := D) (ci := 3) (v := .ref (q 1)) (C := RX3) (T := TX3) (N := 7) hx hb hts uX3_read_X3 hown hK hP 0 rfl rfl 0 (by decide) (hts _ kX3_read_6) (fun _ h9 => h9) rfl dX3_read_61 ?_
                  obtain ⟨T_15, hc_16, h⟩ := q_bd_ok h
                  refine q_cv (va_runV (As := [.ref (q 1)]) (rest := []) ⟨hx, hb, hml, hown, hts⟩ (c_X0_becomes l D y t (fun k => if k < 7 then q (k + 8) else q (k - 7 + 1)) _ N T R T_15 hc_16) (cwV 1 hts gX3_read_X0_becomes rfl rfl rfl eX0_becomes ⟨Nat.le_of_ble_eq_true rfl, Nat.le_of_ble_eq_true rfl⟩) ⟨q_blind, (va_recv hK hP (ci := 0) (q0 := 8) rfl rfl), (q_pre hP hK hZ hD hA hS [8, 9, 10, 11, 12, 13, 14, 1, 2, 3, 4, 5, 6, 7] rfl (by decide))⟩ rfl rfl hl.1 rfl (lv_room (Nat.le_of_ble_eq_true rfl)) dX3_read_64 ⟨Nat.zero_le _, Nat.zero_le _⟩) hP hD hA hS [8, 9, 10, 11, 12, 13, 14, 1, 2, 3, 4, 5, 6, 7] rfl (by decide) rfl (fun H locs hP hD hS => ?_)
                  have hP : va_P D vwCl (wB y q b R T_15 K P B L) H := hP
                  have hD : va_D A (wB y q b R T_15 K P B L) := hD
                  refine lv_aload_n hx hb dX3_read_67 rfl (lv_at hl 0 rfl) ?_
                  refine va_get (D := D) (ci := 3) (v := .ref (q 8)) (C := RX3) (T := TX3) (N := 7) hx hb hts uX3_read_X3 hown hK hP 0 rfl rfl 1 (by decide) (hts _ kX3_read_4) (fun _ h9 => h9) rfl dX3_read_68 ?_
                  refine va_get (D := D) (ci := 0) (v := .ref (q 9)) (C := RX0) (T := TX0) (N := 13) hx hb hts uX3_read_X0 hown hK hP 8 rfl rfl 7 (by decide) (hts _ kX3_read_5) (fun _ h9 => h9) rfl dX3_read_71 ?_
                  refine lv_iload_n hx hb dX3_read_74 rfl (lv_at hl 2 rfl) ?_
                  refine lv_iload hx hb dX3_read_75 (lv_at hl 4 rfl) ?_
                  obtain ⟨z_17, h⟩ := q_grd_ok h
                  obtain ⟨T_18, eT_18, h⟩ := q_let_ok h
                  refine va_iast hx hb hK hP hD hS 9 0 rfl rfl z_17 dX3_read_77 (fun H locs hP hD hS => ?_)
                  have hP : va_P D vwCl (wB y q b R T_18 K P B L) H := by rw [eT_18]; exact hP
                  have hD : va_D A (wB y q b R T_18 K P B L) := by rw [eT_18]; exact hD
                  refine lv_aload_n hx hb dX3_read_78 rfl (lv_at hl 0 rfl) ?_
                  refine va_get (D := D) (ci := 3) (v := .ref (q 8)) (C := RX3) (T := TX3) (N := 7) hx hb hts uX3_read_X3 hown hK hP 0 rfl rfl 1 (by decide) (hts _ kX3_read_4) (fun _ h9 => h9) rfl dX3_read_79 ?_
                  refine lv_iload hx hb dX3_read_82 (lv_at hl 5 rfl) ?_
                  obtain ⟨T_19, eT_19, h⟩ := q_let_ok h
                  refine va_put (D := D) (ci := 0) (v := .int v6) (ty := .int) (C := RX0) (T := TX0) (N := 13) hx hb hts uX3_read_X0 tyX0 tyX0_ok nmX0 hown hK hP hD hS 8 rfl rfl 2 (by decide) (hts _ kX3_read_3) (fun _ h9 => h9) rfl (by decide +kernel) rfl rfl (Nat.le_of_ble_eq_true rfl) dX3_read_84 (fun H locs hP hD hS => ?_)
                  have hP : va_P D vwCl (wB y q b R T_19 K P B L) H := by rw [eT_19]; exact hP
                  have hD : va_D A (wB y q b R T_19 K P B L) := by rw [eT_19]; exact hD
                  refine lv_aload_n hx hb dX3_read_87 rfl (lv_at hl 0 rfl) ?_
                  refine lv_aload_n hx hb dX3_read_88 rfl (lv_at hl 0 rfl) ?_
                  refine va_get (D := D) (ci := 3) (v := .ref (q 27)) (C := RX3) (T := TX3) (N := 7) hx hb hts uX3_read_X3 hown hK hP 0 rfl rfl 5 (by decide) (hts _ kX3_read_1) (fun _ h9 => h9) rfl dX3_read_89 ?_
                  refine lv_iload_n hx hb dX3_read_92 rfl (lv_at hl 1 rfl) ?_
                  obtain ⟨z_20, h⟩ := q_grd_ok h
                  refine va_aldq hx hb hK hP 27 3 rfl rfl z_20 dX3_read_93 ?_
                  refine W.eq (g2 := F0 m 94 ls [.ref (q (28 + 2 * v1.toNatClampNeg)), .ref (q 0)]) rfl ?_
                  refine lv_iload_n hx hb dX3_read_94 rfl (lv_at hl 2 rfl) ?_
                  obtain ⟨r_21, T_22, hc_23, h⟩ := q_bd2_ok h
                  refine q_ci0 (r := r_21) (va_runV (As := [.ref (q (28 + 2 * v1.toNatClampNeg)), .int v2]) (rest := []) ⟨hx, hb, hml, hown, hts⟩ (c_X3_goesAsBooked l D y t q _ N b R T_19 K P B L (v1.toNatClampNeg) v2 (q_in_lt z_20) (r_21, T_22) hc_23) (cwV 2 hts gX3_read_X3_goesAsBooked rfl rfl rfl eX3_goesAsBooked ⟨Nat.le_of_ble_eq_true rfl, Nat.le_of_ble_eq_true rfl⟩) ⟨q_blind, (va_recv hK hP (ci := 3) (q0 := 0) rfl rfl), (q_pre0 hP hK hZ hD hA hS)⟩ rfl rfl hl.1 rfl (lv_room (Nat.le_of_ble_eq_true rfl)) dX3_read_95 ⟨Nat.zero_le _, Nat.zero_le _⟩) hD hA hS (fun H locs hP hD hS => ?_)
                  have hP : va_P D vwCl (wB y q b R T_22 K P B L) H := hP
                  have hD : va_D A (wB y q b R T_22 K P B L) := hD
                  refine lv_if_eq (tgt := 104) hx hb dX3_read_98 (by decide) (fun c_24 => ?_) (fun c_24 => ?_)
                  · have h := q_t c_24 h
                    obtain ⟨x_25, ex_25, h⟩ := q_let_ok h
                    refine lv_iinc (v := x_25) (lv' := [(6, .int x_25), (0, .ref (q 0)), (1, .int v1), (2, .int v2), (4, .int v4), (5, .int v5)]) hx hb dX3_read_104 hl (k := 5) rfl (by rw [ex_25]; rfl) (by decide) rfl (fun ls hl => ?_)
                    refine lv_goto (tgt := 49) hx hb dX3_read_107 (by decide) ?_
                    exact ih49_10 v4 x_25 T_22 K49_10 _ _ _ hP hD hS (lv_sub hl [1, 2, 3, 4, 5, 0] rfl) h
                  · have h := q_f c_24 h
                    obtain ⟨x_26, ex_26, h⟩ := q_let_ok h
                    refine lv_iinc (v := x_26) (lv' := [(4, .int x_26), (0, .ref (q 0)), (1, .int v1), (2, .int v2), (5, .int v5), (6, .int v6)]) hx hb dX3_read_101 hl (k := 3) rfl (by rw [ex_26]; rfl) (by decide) rfl (fun ls hl => ?_)
                    obtain ⟨x_27, ex_27, h⟩ := q_let_ok h
                    refine lv_iinc (v := x_27) (lv' := [(6, .int x_27), (4, .int x_26), (0, .ref (q 0)), (1, .int v1), (2, .int v2), (5, .int v5)]) hx hb dX3_read_104 hl (k := 5) rfl (by rw [ex_27]; rfl) (by decide) rfl (fun ls hl => ?_)
                    refine lv_goto (tgt := 49) hx hb dX3_read_107 (by decide) ?_
                    exact ih49_10 x_26 x_27 T_22 K49_10 _ _ _ hP hD hS (lv_sub hl [2, 3, 4, 1, 5, 0] rfl) h
            exact L49_10 b R K P B L v1 v2 v5 N v4 (1 : Int32) T K49_10 _ _ _ hP hD hS (lv_sub hl [1, 2, 3, 4, 5, 0] rfl) hL10
      exact L40_5 b R K P B L v1 v2 N (0 : Int32) (0 : Int32) T K40_5 _ _ _ hP hD hS (lv_sub hl [2, 3, 4, 1, 0] rfl) hL5
    · have h := q_f c_4 h
      refine lv_aload_n hx hb dX3_read_28 rfl (lv_at hl 0 rfl) ?_
      refine lv_iload_n hx hb dX3_read_29 rfl (lv_at hl 3 rfl) ?_
      obtain ⟨r_29, b_30, hc_31, h⟩ := q_bd2_ok h
      refine q_ci0 (r := r_29) (va_runV (As := [.int v3]) (rest := []) ⟨hx, hb, hml, hown, hts⟩ (c_X3_found l D y t q _ N b R T K P B L v3 (r_29, b_30) hc_31) (cwV 1 hts gX3_read_X3_found rfl rfl rfl eX3_found ⟨Nat.le_of_ble_eq_true rfl, Nat.le_of_ble_eq_true rfl⟩) ⟨q_blind, (va_recv hK hP (ci := 3) (q0 := 0) rfl rfl), (q_pre0 hP hK hZ hD hA hS)⟩ rfl rfl hl.1 rfl (lv_room (Nat.le_of_ble_eq_true rfl)) dX3_read_30 ⟨Nat.zero_le _, Nat.zero_le _⟩) hD hA hS (fun H locs hP hD hS => ?_)
      have hP : va_P D vwCl (wB y q b_30 R T K P B L) H := hP
      have hD : va_D A (wB y q b_30 R T K P B L) := hD
      have e9 := Option.some.inj h
      exact q_iret hx hb hr hlocks hK hP hD hS dX3_read_33 (by first | rw [← e9] | rfl) (by first | rw [← e9] | rfl)
  unfold f_X3_read at h
  refine lv_aload_n hx hb dX3_read_0 rfl (lv_at hl 0 rfl) ?_
  refine lv_iload_n hx hb dX3_read_1 rfl (lv_at hl 1 rfl) ?_
  obtain ⟨r_1, hc_2, h⟩ := q_bd_ok h
  refine q_ci0 (r := r_1) (va_runV (As := [.int p1]) (rest := []) ⟨hx, hb, hml, hown, hts⟩ (c_X3_findingOfSheet l D y t q _ N b R T K P B L p1 r_1 hc_2) (cwV 1 hts gX3_read_X3_findingOfSheet rfl rfl rfl eX3_findingOfSheet ⟨Nat.le_of_ble_eq_true rfl, Nat.le_of_ble_eq_true rfl⟩) ⟨q_blind, (va_recv hK hP (ci := 3) (q0 := 0) rfl rfl), (q_pre0 hP hK hZ hD hA hS)⟩ rfl rfl hl.1 rfl (lv_room (Nat.le_of_ble_eq_true rfl)) dX3_read_2 ⟨Nat.zero_le _, Nat.zero_le _⟩) hD hA hS (fun H locs hP hD hS => ?_)
  have hP : va_P D vwCl (wB y q b R T K P B L) H := hP
  have hD : va_D A (wB y q b R T K P B L) := hD
  refine lv_istore_n (lv' := [(3, .int r_1), (0, .ref (q 0)), (1, .int p1), (2, .int p2)]) hx hb dX3_read_5 rfl hl (by decide) rfl (fun ls hl => ?_)
  refine lv_iload_n hx hb dX3_read_6 rfl (lv_at hl 0 rfl) ?_
  refine lv_if_ne (tgt := 24) hx hb dX3_read_7 (by decide) (fun c_3 => ?_) (fun c_3 => ?_)
  · have h := q_f c_3 h
    exact B24 b R T K P B L p1 p2 r_1 _ _ _ hP hD hS (lv_sub hl [1, 2, 3, 0] rfl) h
  · have h := q_t c_3 h
    refine lv_aload_n hx hb dX3_read_10 rfl (lv_at hl 1 rfl) ?_
    refine va_get (D := D) (ci := 3) (v := .ref (q 1)) (C := RX3) (T := TX3) (N := 7) hx hb hts uX3_read_X3 hown hK hP 0 rfl rfl 0 (by decide) (hts _ kX3_read_6) (fun _ h9 => h9) rfl dX3_read_11 ?_
    refine lv_iload_n hx hb dX3_read_14 rfl (lv_at hl 3 rfl) ?_
    obtain ⟨r_32, hc_33, h⟩ := q_bd_ok h
    refine q_ci (r := r_32) (va_runV (As := [.int p2]) (rest := []) ⟨hx, hb, hml, hown, hts⟩ (c_X0_has l D y t (fun k => q (k + 1)) _ N R p2 r_32 hc_33) (cwV 1 hts gX3_read_X0_has rfl rfl rfl eX0_has ⟨Nat.le_of_ble_eq_true rfl, Nat.le_of_ble_eq_true rfl⟩) ⟨q_blind, (va_recv hK hP (ci := 0) (q0 := 1) rfl rfl), (q_pre hP hK hZ hD hA hS [1, 2, 3, 4, 5, 6, 7] rfl (by decide))⟩ rfl rfl hl.1 rfl (lv_room (Nat.le_of_ble_eq_true rfl)) dX3_read_15 ⟨Nat.zero_le _, Nat.zero_le _⟩) hP hD hA hS [1, 2, 3, 4, 5, 6, 7] rfl (by decide) rfl (fun H locs hP hD hS => ?_)
    have hP : va_P D vwCl (wB y q b R T K P B L) H := hP
    have hD : va_D A (wB y q b R T K P B L) := hD
    refine lv_if_ne (tgt := 24) hx hb dX3_read_18 (by decide) (fun c_34 => ?_) (fun c_34 => ?_)
    · have h := q_f c_34 h
      exact B24 b R T K P B L p1 p2 r_1 _ _ _ hP hD hS (lv_sub hl [1, 2, 3, 0] rfl) h
    · have h := q_t c_34 h
      refine lv_ldc (v := -1000000001) hx hb hown (hts _ kX3_read_7) dX3_read_21 ?_
      refine lv_istore_n (lv' := [(3, .int (-1000000001 : Int32)), (0, .ref (q 0)), (1, .int p1), (2, .int p2)]) hx hb dX3_read_23 rfl hl (by decide) rfl (fun ls hl => ?_)
      exact B24 b R T K P B L p1 p2 (-1000000001 : Int32) _ _ _ hP hD hS (lv_sub hl [1, 2, 3, 0] rfl) h
theorem eX3_read : yX3_read.cls = RX3 ∧ yX3_read.cls ≠ "java/lang/invoke/MethodHandle" ∧ yX3_read.cls ≠ "java/lang/invoke/VarHandle" ∧ (parseMethodDescriptor yX3_read.desc).map (fun d => d.parameters.length) = some 2 := by decide +kernel
theorem uX3_image_X3 : ∀ w ∈ u_ws RX3 TX3 7, w ∈ wsX3_image := by decide +kernel
theorem kX3_image_1 : Cond.fieldLink RX3 22 "BeamSeats" "isKept" "Z" ∈ wsX3_image := List.mem_of_getElem? (i := 3) (by decide +kernel)
theorem kX3_image_2 : Cond.fieldLink RX3 10 "BeamSeats" "real" "LBeamSeats$Island;" ∈ wsX3_image := List.mem_of_getElem? (i := 2) (by decide +kernel)
theorem kX3_image_3 : Cond.fieldLink RX3 19 "BeamSeats" "kept" "LBeamSeats$Island;" ∈ wsX3_image := List.mem_of_getElem? (i := 1) (by decide +kernel)
def f_X3_image (N : Nat) (b : Nat → Nat → Int32) (R : Nat → Nat → Int32) (T : Nat → Nat → Int32) (K : Nat → Nat → Int32) (P : Nat → Nat → Int32) (B : Nat → Nat → Int32) (L : Nat → Nat → Int64) : Option (Int32 × (Nat → Nat → Int32) × (Nat → Nat → Int32)) :=
  q_bd (f_X0_becomes N K R) (fun K_1 =>
  q_let (q_up b 0 0 (1 : Int32)) (fun b_3 =>
  some ((1 : Int32), b_3, K_1)))
set_option maxHeartbeats 4000000 in
set_option maxRecDepth 100000 in
theorem c_X3_image (l : Launch) (D : va_G) (y : Nat → ClassId) (t : Nat → Nat) (q : Nat → Nat) (sz N : Nat) (b : Nat → Nat → Int32) (R : Nat → Nat → Int32) (T : Nat → Nat → Int32) (K : Nat → Nat → Int32) (P : Nat → Nat → Int32) (B : Nat → Nat → Int32) (L : Nat → Nat → Int64) (res : Int32 × (Nat → Nat → Int32) × (Nat → Nat → Int32)) (h : f_X3_image N b R T K P B L = some res) : Met l yX3_image wsX3_image ({ frames := 1, cells := 0, slots := 0, locals := 22 } : Room) (pPre D y t [.ref (q 0)] (wB y q b R T K P B L) sz) (pQi D y (res.1) (wB y q (res.2.1) R T (res.2.2) P B L) (va_A (wB y q b R T K P B L) sz)) 0 0 (va_A (wB y q b R T K P B L) sz) := by
  refine q_start (Qc := (fun A => pQi D y (res.1) (wB y q (res.2.1) R T (res.2.2) P B L) A)) (cc := cX3_image) (maxL := 1) (ret := (some .int)) (by decide) rfl (Nat.le_of_ble_eq_true rfl) ?_
  intro p e s m below meth c A ls hx hb hr hts hown hlocks hmn hml hP hK hZ hD hA hS hl
  have hl : lv_has ls 1 [(0, .ref (q 0))] := hl
  have hown : s.vm.findClass RX3 = some m.cls := hown
  unfold f_X3_image at h
  refine lv_aload_n hx hb dX3_image_0 rfl (lv_at hl 0 rfl) ?_
  refine va_get (D := D) (ci := 3) (v := .ref (q 15)) (C := RX3) (T := TX3) (N := 7) hx hb hts uX3_image_X3 hown hK hP 0 rfl rfl 2 (by decide) (hts _ kX3_image_3) (fun _ h9 => h9) rfl dX3_image_1 ?_
  refine lv_aload_n hx hb dX3_image_4 rfl (lv_at hl 0 rfl) ?_
  refine va_get (D := D) (ci := 3) (v := .ref (q 1)) (C := RX3) (T := TX3) (N := 7) hx hb hts uX3_image_X3 hown hK hP 0 rfl rfl 0 (by decide) (hts _ kX3_image_2) (fun _ h9 => h9) rfl dX3_image_5 ?_
  obtain ⟨K_1, hc_2, h⟩ := q_bd_ok h
  refine q_cv (va_runV (As := [.ref (q 1)]) (rest := []) ⟨hx, hb, hml, hown, hts⟩ (c_X0_becomes l D y t (fun k => if k < 7 then q (k + 15) else q (k - 7 + 1)) _ N K R K_1 hc_2) (cwV 1 hts gX3_image_X0_becomes rfl rfl rfl eX0_becomes ⟨Nat.le_of_ble_eq_true rfl, Nat.le_of_ble_eq_true rfl⟩) ⟨q_blind, (va_recv hK hP (ci := 0) (q0 := 15) rfl rfl), (q_pre hP hK hZ hD hA hS [15, 16, 17, 18, 19, 20, 21, 1, 2, 3, 4, 5, 6, 7] rfl (by decide))⟩ rfl rfl hl.1 rfl (lv_room (Nat.le_of_ble_eq_true rfl)) dX3_image_8 ⟨Nat.zero_le _, Nat.zero_le _⟩) hP hD hA hS [15, 16, 17, 18, 19, 20, 21, 1, 2, 3, 4, 5, 6, 7] rfl (by decide) rfl (fun H locs hP hD hS => ?_)
  have hP : va_P D vwCl (wB y q b R T K_1 P B L) H := hP
  have hD : va_D A (wB y q b R T K_1 P B L) := hD
  refine lv_aload_n hx hb dX3_image_11 rfl (lv_at hl 0 rfl) ?_
  refine lv_iconst (v := 1) hx hb dX3_image_12 (by decide) ?_
  obtain ⟨b_3, eb_3, h⟩ := q_let_ok h
  refine va_put (D := D) (ci := 3) (v := .int (1 : Int32)) (ty := .boolean) (C := RX3) (T := TX3) (N := 7) hx hb hts uX3_image_X3 tyX3 tyX3_ok nmX3 hown hK hP hD hS 0 rfl rfl 3 (by decide) (hts _ kX3_image_1) (fun _ h9 => h9) rfl (by decide +kernel) rfl rfl (Nat.le_of_ble_eq_true rfl) dX3_image_13 (fun H locs hP hD hS => ?_)
  have hP : va_P D vwCl (wB y q b_3 R T K_1 P B L) H := by rw [eb_3]; exact hP
  have hD : va_D A (wB y q b_3 R T K_1 P B L) := by rw [eb_3]; exact hD
  refine lv_iconst (v := 1) hx hb dX3_image_16 (by decide) ?_
  have e9 := Option.some.inj h
  exact q_iret hx hb hr hlocks hK hP hD hS dX3_image_17 (by first | rw [← e9] | rfl) (by first | rw [← e9] | rfl)
theorem eX3_image : yX3_image.cls = RX3 ∧ yX3_image.cls ≠ "java/lang/invoke/MethodHandle" ∧ yX3_image.cls ≠ "java/lang/invoke/VarHandle" ∧ (parseMethodDescriptor yX3_image.desc).map (fun d => d.parameters.length) = some 0 := by decide +kernel
theorem uX3_undo_X0 : ∀ w ∈ u_ws RX0 TX0 13, w ∈ wsX3_undo := by decide +kernel
theorem kX3_undo_1 : Cond.fieldLink RX3 82 "BeamSeats$Island" "size" "I" ∈ wsX3_undo := List.mem_of_getElem? (i := 5) (by decide +kernel)
theorem uX3_undo_X3 : ∀ w ∈ u_ws RX3 TX3 7, w ∈ wsX3_undo := by decide +kernel
theorem kX3_undo_3 : Cond.fieldLink RX3 10 "BeamSeats" "real" "LBeamSeats$Island;" ∈ wsX3_undo := List.mem_of_getElem? (i := 3) (by decide +kernel)
theorem kX3_undo_4 : Cond.fieldLink RX3 19 "BeamSeats" "kept" "LBeamSeats$Island;" ∈ wsX3_undo := List.mem_of_getElem? (i := 4) (by decide +kernel)
theorem kX3_undo_5 : Cond.constant RX3 167 (-1000000004) ∈ wsX3_undo := List.mem_of_getElem? (i := 2) (by decide +kernel)
theorem kX3_undo_6 : Cond.fieldLink RX3 22 "BeamSeats" "isKept" "Z" ∈ wsX3_undo := List.mem_of_getElem? (i := 1) (by decide +kernel)
def f_X3_undo (N : Nat) (b : Nat → Nat → Int32) (R : Nat → Nat → Int32) (T : Nat → Nat → Int32) (K : Nat → Nat → Int32) (P : Nat → Nat → Int32) (B : Nat → Nat → Int32) (L : Nat → Nat → Int64) : Option (Int32 × (Nat → Nat → Int32) × (Nat → Nat → Int32)) :=
  if (b 0 0) = 0 then
    q_bd2 (f_X3_found N b R T K P B L (-1000000004 : Int32)) (fun r_4 b_5 =>
    some (r_4, b_5, R))
  else
    q_bd (f_X0_becomes N R K) (fun R_2 =>
    some ((R_2 0 4), b, R_2))
set_option maxHeartbeats 4000000 in
set_option maxRecDepth 100000 in
theorem c_X3_undo (l : Launch) (D : va_G) (y : Nat → ClassId) (t : Nat → Nat) (q : Nat → Nat) (sz N : Nat) (b : Nat → Nat → Int32) (R : Nat → Nat → Int32) (T : Nat → Nat → Int32) (K : Nat → Nat → Int32) (P : Nat → Nat → Int32) (B : Nat → Nat → Int32) (L : Nat → Nat → Int64) (res : Int32 × (Nat → Nat → Int32) × (Nat → Nat → Int32)) (h : f_X3_undo N b R T K P B L = some res) : Met l yX3_undo wsX3_undo ({ frames := 2, cells := 0, slots := 0, locals := 44 } : Room) (pPre D y t [.ref (q 0)] (wB y q b R T K P B L) sz) (pQi D y (res.1) (wB y q (res.2.1) (res.2.2) T K P B L) (va_A (wB y q b R T K P B L) sz)) 0 0 (va_A (wB y q b R T K P B L) sz) := by
  refine q_start (Qc := (fun A => pQi D y (res.1) (wB y q (res.2.1) (res.2.2) T K P B L) A)) (cc := cX3_undo) (maxL := 1) (ret := (some .int)) (by decide) rfl (Nat.le_of_ble_eq_true rfl) ?_
  intro p e s m below meth c A ls hx hb hr hts hown hlocks hmn hml hP hK hZ hD hA hS hl
  have hl : lv_has ls 1 [(0, .ref (q 0))] := hl
  have hown : s.vm.findClass RX3 = some m.cls := hown
  unfold f_X3_undo at h
  refine lv_aload_n hx hb dX3_undo_0 rfl (lv_at hl 0 rfl) ?_
  refine va_get (D := D) (ci := 3) (v := .int (b 0 0)) (C := RX3) (T := TX3) (N := 7) hx hb hts uX3_undo_X3 hown hK hP 0 rfl rfl 3 (by decide) (hts _ kX3_undo_6) (fun _ h9 => h9) rfl dX3_undo_1 ?_
  refine lv_if_ne (tgt := 14) hx hb dX3_undo_4 (by decide) (fun c_1 => ?_) (fun c_1 => ?_)
  · have h := q_f c_1 h
    refine lv_aload_n hx hb dX3_undo_14 rfl (lv_at hl 0 rfl) ?_
    refine va_get (D := D) (ci := 3) (v := .ref (q 1)) (C := RX3) (T := TX3) (N := 7) hx hb hts uX3_undo_X3 hown hK hP 0 rfl rfl 0 (by decide) (hts _ kX3_undo_3) (fun _ h9 => h9) rfl dX3_undo_15 ?_
    refine lv_aload_n hx hb dX3_undo_18 rfl (lv_at hl 0 rfl) ?_
    refine va_get (D := D) (ci := 3) (v := .ref (q 15)) (C := RX3) (T := TX3) (N := 7) hx hb hts uX3_undo_X3 hown hK hP 0 rfl rfl 2 (by decide) (hts _ kX3_undo_4) (fun _ h9 => h9) rfl dX3_undo_19 ?_
    obtain ⟨R_2, hc_3, h⟩ := q_bd_ok h
    refine q_cv (va_runV (As := [.ref (q 15)]) (rest := []) ⟨hx, hb, hml, hown, hts⟩ (c_X0_becomes l D y t (fun k => if k < 7 then q (k + 1) else q (k - 7 + 15)) _ N R K R_2 hc_3) (cwV 1 hts gX3_undo_X0_becomes rfl rfl rfl eX0_becomes ⟨Nat.le_of_ble_eq_true rfl, Nat.le_of_ble_eq_true rfl⟩) ⟨q_blind, (va_recv hK hP (ci := 0) (q0 := 1) rfl rfl), (q_pre hP hK hZ hD hA hS [1, 2, 3, 4, 5, 6, 7, 15, 16, 17, 18, 19, 20, 21] rfl (by decide))⟩ rfl rfl hl.1 rfl (lv_room (Nat.le_of_ble_eq_true rfl)) dX3_undo_22 ⟨Nat.zero_le _, Nat.zero_le _⟩) hP hD hA hS [1, 2, 3, 4, 5, 6, 7, 15, 16, 17, 18, 19, 20, 21] rfl (by decide) rfl (fun H locs hP hD hS => ?_)
    have hP : va_P D vwCl (wB y q b R_2 T K P B L) H := hP
    have hD : va_D A (wB y q b R_2 T K P B L) := hD
    refine lv_aload_n hx hb dX3_undo_25 rfl (lv_at hl 0 rfl) ?_
    refine va_get (D := D) (ci := 3) (v := .ref (q 1)) (C := RX3) (T := TX3) (N := 7) hx hb hts uX3_undo_X3 hown hK hP 0 rfl rfl 0 (by decide) (hts _ kX3_undo_3) (fun _ h9 => h9) rfl dX3_undo_26 ?_
    refine va_get (D := D) (ci := 0) (v := .int (R_2 0 4)) (C := RX0) (T := TX0) (N := 13) hx hb hts uX3_undo_X0 hown hK hP 1 rfl rfl 4 (by decide) (hts _ kX3_undo_1) (fun _ h9 => h9) rfl dX3_undo_29 ?_
    have e9 := Option.some.inj h
    exact q_iret hx hb hr hlocks hK hP hD hS dX3_undo_32 (by first | rw [← e9] | rfl) (by first | rw [← e9] | rfl)
  · have h := q_t c_1 h
    refine lv_aload_n hx hb dX3_undo_7 rfl (lv_at hl 0 rfl) ?_
    refine lv_ldc (v := -1000000004) hx hb hown (hts _ kX3_undo_5) dX3_undo_8 ?_
    obtain ⟨r_4, b_5, hc_6, h⟩ := q_bd2_ok h
    refine q_ci0 (r := r_4) (va_runV (As := [.int (-1000000004 : Int32)]) (rest := []) ⟨hx, hb, hml, hown, hts⟩ (c_X3_found l D y t q _ N b R T K P B L (-1000000004 : Int32) (r_4, b_5) hc_6) (cwV 1 hts gX3_undo_X3_found rfl rfl rfl eX3_found ⟨Nat.le_of_ble_eq_true rfl, Nat.le_of_ble_eq_true rfl⟩) ⟨q_blind, (va_recv hK hP (ci := 3) (q0 := 0) rfl rfl), (q_pre0 hP hK hZ hD hA hS)⟩ rfl rfl hl.1 rfl (lv_room (Nat.le_of_ble_eq_true rfl)) dX3_undo_10 ⟨Nat.zero_le _, Nat.zero_le _⟩) hD hA hS (fun H locs hP hD hS => ?_)
    have hP : va_P D vwCl (wB y q b_5 R T K P B L) H := hP
    have hD : va_D A (wB y q b_5 R T K P B L) := hD
    have e9 := Option.some.inj h
    exact q_iret hx hb hr hlocks hK hP hD hS dX3_undo_13 (by first | rw [← e9] | rfl) (by first | rw [← e9] | rfl)
theorem eX3_undo : yX3_undo.cls = RX3 ∧ yX3_undo.cls ≠ "java/lang/invoke/MethodHandle" ∧ yX3_undo.cls ≠ "java/lang/invoke/VarHandle" ∧ (parseMethodDescriptor yX3_undo.desc).map (fun d => d.parameters.length) = some 0 := by decide +kernel
theorem uX3_tear_X3 : ∀ w ∈ u_ws RX3 TX3 7, w ∈ wsX3_tear := by decide +kernel
theorem kX3_tear_1 : Cond.fieldLink RX3 22 "BeamSeats" "isKept" "Z" ∈ wsX3_tear := List.mem_of_getElem? (i := 1) (by decide +kernel)
def f_X3_tear (N : Nat) (b : Nat → Nat → Int32) (R : Nat → Nat → Int32) (T : Nat → Nat → Int32) (K : Nat → Nat → Int32) (P : Nat → Nat → Int32) (B : Nat → Nat → Int32) (L : Nat → Nat → Int64) : Option (Int32 × (Nat → Nat → Int32)) :=
  if (b 0 0) = 0 then
    q_let (q_up b 0 0 (0 : Int32)) (fun b_2 =>
    some ((0 : Int32), b_2))
  else
    q_let (q_up b 0 0 (0 : Int32)) (fun b_3 =>
    some ((1 : Int32), b_3))
set_option maxHeartbeats 4000000 in
set_option maxRecDepth 100000 in
theorem c_X3_tear (l : Launch) (D : va_G) (y : Nat → ClassId) (t : Nat → Nat) (q : Nat → Nat) (sz N : Nat) (b : Nat → Nat → Int32) (R : Nat → Nat → Int32) (T : Nat → Nat → Int32) (K : Nat → Nat → Int32) (P : Nat → Nat → Int32) (B : Nat → Nat → Int32) (L : Nat → Nat → Int64) (res : Int32 × (Nat → Nat → Int32)) (h : f_X3_tear N b R T K P B L = some res) : Met l yX3_tear wsX3_tear ({ frames := 0, cells := 0, slots := 0, locals := 0 } : Room) (pPre D y t [.ref (q 0)] (wB y q b R T K P B L) sz) (pQi D y (res.1) (wB y q (res.2) R T K P B L) (va_A (wB y q b R T K P B L) sz)) 0 0 (va_A (wB y q b R T K P B L) sz) := by
  refine q_start (Qc := (fun A => pQi D y (res.1) (wB y q (res.2) R T K P B L) A)) (cc := cX3_tear) (maxL := 2) (ret := (some .int)) (by decide) rfl (Nat.le_of_ble_eq_true rfl) ?_
  intro p e s m below meth c A ls hx hb hr hts hown hlocks hmn hml hP hK hZ hD hA hS hl
  have hl : lv_has ls 2 [(0, .ref (q 0))] := hl
  have hown : s.vm.findClass RX3 = some m.cls := hown
  unfold f_X3_tear at h
  refine lv_aload_n hx hb dX3_tear_0 rfl (lv_at hl 0 rfl) ?_
  refine va_get (D := D) (ci := 3) (v := .int (b 0 0)) (C := RX3) (T := TX3) (N := 7) hx hb hts uX3_tear_X3 hown hK hP 0 rfl rfl 3 (by decide) (hts _ kX3_tear_1) (fun _ h9 => h9) rfl dX3_tear_1 ?_
  refine lv_if_eq (tgt := 11) hx hb dX3_tear_4 (by decide) (fun c_1 => ?_) (fun c_1 => ?_)
  · have h := q_t c_1 h
    refine lv_iconst (v := 0) hx hb dX3_tear_11 (by decide) ?_
    refine lv_istore_n (lv' := [(1, .int (0 : Int32)), (0, .ref (q 0))]) hx hb dX3_tear_12 rfl hl (by decide) rfl (fun ls hl => ?_)
    refine lv_aload_n hx hb dX3_tear_13 rfl (lv_at hl 1 rfl) ?_
    refine lv_iconst (v := 0) hx hb dX3_tear_14 (by decide) ?_
    obtain ⟨b_2, eb_2, h⟩ := q_let_ok h
    refine va_put (D := D) (ci := 3) (v := .int (0 : Int32)) (ty := .boolean) (C := RX3) (T := TX3) (N := 7) hx hb hts uX3_tear_X3 tyX3 tyX3_ok nmX3 hown hK hP hD hS 0 rfl rfl 3 (by decide) (hts _ kX3_tear_1) (fun _ h9 => h9) rfl (by decide +kernel) rfl rfl (Nat.le_of_ble_eq_true rfl) dX3_tear_15 (fun H locs hP hD hS => ?_)
    have hP : va_P D vwCl (wB y q b_2 R T K P B L) H := by rw [eb_2]; exact hP
    have hD : va_D A (wB y q b_2 R T K P B L) := by rw [eb_2]; exact hD
    refine lv_iload_n hx hb dX3_tear_18 rfl (lv_at hl 0 rfl) ?_
    have e9 := Option.some.inj h
    exact q_iret hx hb hr hlocks hK hP hD hS dX3_tear_19 (by first | rw [← e9] | rfl) (by first | rw [← e9] | rfl)
  · have h := q_f c_1 h
    refine lv_iconst (v := 1) hx hb dX3_tear_7 (by decide) ?_
    refine lv_goto (tgt := 12) hx hb dX3_tear_8 (by decide) ?_
    refine lv_istore_n (lv' := [(1, .int (1 : Int32)), (0, .ref (q 0))]) hx hb dX3_tear_12 rfl hl (by decide) rfl (fun ls hl => ?_)
    refine lv_aload_n hx hb dX3_tear_13 rfl (lv_at hl 1 rfl) ?_
    refine lv_iconst (v := 0) hx hb dX3_tear_14 (by decide) ?_
    obtain ⟨b_3, eb_3, h⟩ := q_let_ok h
    refine va_put (D := D) (ci := 3) (v := .int (0 : Int32)) (ty := .boolean) (C := RX3) (T := TX3) (N := 7) hx hb hts uX3_tear_X3 tyX3 tyX3_ok nmX3 hown hK hP hD hS 0 rfl rfl 3 (by decide) (hts _ kX3_tear_1) (fun _ h9 => h9) rfl (by decide +kernel) rfl rfl (Nat.le_of_ble_eq_true rfl) dX3_tear_15 (fun H locs hP hD hS => ?_)
    have hP : va_P D vwCl (wB y q b_3 R T K P B L) H := by rw [eb_3]; exact hP
    have hD : va_D A (wB y q b_3 R T K P B L) := by rw [eb_3]; exact hD
    refine lv_iload_n hx hb dX3_tear_18 rfl (lv_at hl 0 rfl) ?_
    have e9 := Option.some.inj h
    exact q_iret hx hb hr hlocks hK hP hD hS dX3_tear_19 (by first | rw [← e9] | rfl) (by first | rw [← e9] | rfl)
theorem eX3_tear : yX3_tear.cls = RX3 ∧ yX3_tear.cls ≠ "java/lang/invoke/MethodHandle" ∧ yX3_tear.cls ≠ "java/lang/invoke/VarHandle" ∧ (parseMethodDescriptor yX3_tear.desc).map (fun d => d.parameters.length) = some 0 := by decide +kernel
def f_X3_sum_L4 (N : Nat) (n0 : Nat) (E : Nat → Int32) (v1 : Int32) : Nat → Int32 → Int32 → Option (Int32 × Int32)
  | 0, _, _ => none
  | k + 1, v2, v3 =>
    if v1 ≤ v3 then
      some (v2, v3)
    else
      if (Int32.ofNat n0) ≤ v3 then
        some (v2, v3)
      else
        q_grd v3 n0 (
        q_let (v2 + (E v3.toNatClampNeg)) (fun x_7 =>
        q_let (v3 + 1) (fun x_8 =>
        f_X3_sum_L4 N n0 E v1 k x_7 x_8)))
def f_X3_sum (N : Nat) (n0 : Nat) (E : Nat → Int32) (p2 : Int32) : Option (Int32) :=
  q_bd2 (f_X3_sum_L4 N n0 E p2 N (0 : Int32) (0 : Int32)) (fun x_2 x_3 =>
  some x_2)
set_option maxHeartbeats 4000000 in
set_option maxRecDepth 100000 in
theorem c_X3_sum (l : Launch) (D : va_G) (y : Nat → ClassId) (t : Nat → Nat) (q : Nat → Nat) (sz N : Nat) (n0 : Nat) (E : Nat → Int32) (p2 : Int32) (res : Int32) (h : f_X3_sum N n0 E p2 = some res) : Met l yX3_sum wsX3_sum ({ frames := 0, cells := 0, slots := 0, locals := 0 } : Room) (pPre D y t [.ref (q 0), .int p2] (wA1 y q n0 E) sz) (pQi D y res (wA1 y q n0 E) (va_A (wA1 y q n0 E) sz)) 0 0 (va_A (wA1 y q n0 E) sz) := by
  refine q_start (Qc := (fun A => pQi D y res (wA1 y q n0 E) A)) (cc := cX3_sum) (maxL := 4) (ret := (some .int)) (by decide) rfl (Nat.le_of_ble_eq_true rfl) ?_
  intro p e s m below meth c A ls hx hb hr hts hown hlocks hmn hml hP hK hZ hD hA hS hl
  have hl : lv_has ls 4 [(0, .ref (q 0)), (1, .int p2)] := hl
  have hown : s.vm.findClass RX3 = some m.cls := hown
  unfold f_X3_sum at h
  refine lv_iconst (v := 0) hx hb dX3_sum_0 (by decide) ?_
  refine lv_istore_n (lv' := [(2, .int (0 : Int32)), (0, .ref (q 0)), (1, .int p2)]) hx hb dX3_sum_1 rfl hl (by decide) rfl (fun ls hl => ?_)
  refine lv_iconst (v := 0) hx hb dX3_sum_2 (by decide) ?_
  refine lv_istore_n (lv' := [(3, .int (0 : Int32)), (2, .int (0 : Int32)), (0, .ref (q 0)), (1, .int p2)]) hx hb dX3_sum_3 rfl hl (by decide) rfl (fun ls hl => ?_)
  obtain ⟨x_2, x_3, hL1, h⟩ := q_bd2_ok h
  have K4_1 : ∀ (H : Heap) (locs : List Loc) (ls : Array Slot), va_P D vwCl (wA1 y q n0 E) H → va_D A (wA1 y q n0 E) → va_S A s.heap H locs → lv_has ls 4 [(0, .ref (q 0)), (1, .int p2), (2, .int x_2), (3, .int x_3)] → W p l e ({ frames := 0, cells := 0, slots := 0, locals := 0 } : Room) s m ([.ref (q 0), .int p2] : List Value).toArray below meth c H locs 0 0 (MQ below (pQi D y res (wA1 y q n0 E) A) ([.ref (q 0), .int p2] : List Value).toArray s 0 0 A) (F0 m 27 ls []) := by
    intro H locs ls hP hD hS hl
    refine lv_iload_n hx hb dX3_sum_27 rfl (lv_at hl 2 rfl) ?_
    have e9 := Option.some.inj h
    exact q_iret hx hb hr hlocks hK hP hD hS dX3_sum_28 (by first | rw [← e9] | rfl) (by first | rw [← e9] | rfl)
  have L4_1 : ∀ (E : Nat → Int32) (v1 : Int32) (k : Nat) (v2 : Int32) (v3 : Int32), (∀ (H : Heap) (locs : List Loc) (ls : Array Slot), va_P D vwCl (wA1 y q n0 E) H → va_D A (wA1 y q n0 E) → va_S A s.heap H locs → lv_has ls 4 [(0, .ref (q 0)), (1, .int v1), (2, .int x_2), (3, .int x_3)] → W p l e ({ frames := 0, cells := 0, slots := 0, locals := 0 } : Room) s m ([.ref (q 0), .int p2] : List Value).toArray below meth c H locs 0 0 (MQ below (pQi D y res (wA1 y q n0 E) A) ([.ref (q 0), .int p2] : List Value).toArray s 0 0 A) (F0 m 27 ls [])) → ∀ (H : Heap) (locs : List Loc) (ls : Array Slot), va_P D vwCl (wA1 y q n0 E) H → va_D A (wA1 y q n0 E) → va_S A s.heap H locs → lv_has ls 4 [(0, .ref (q 0)), (1, .int v1), (2, .int v2), (3, .int v3)] → f_X3_sum_L4 N n0 E v1 k v2 v3 = some (x_2, x_3) → W p l e ({ frames := 0, cells := 0, slots := 0, locals := 0 } : Room) s m ([.ref (q 0), .int p2] : List Value).toArray below meth c H locs 0 0 (MQ below (pQi D y res (wA1 y q n0 E) A) ([.ref (q 0), .int p2] : List Value).toArray s 0 0 A) (F0 m 4 ls []) := by
    intro E v1 k
    induction k with
    | zero =>
      intro v2 v3 K4_1 H locs ls hP hD hS hl h
      have h : (none : Option (Int32 × Int32)) = some _ := h
      cases h
    | succ k ih4_1 =>
      intro v2 v3 K4_1 H locs ls hP hD hS hl h
      rw [f_X3_sum_L4] at h
      refine lv_iload_n hx hb dX3_sum_4 rfl (lv_at hl 3 rfl) ?_
      refine lv_iload_n hx hb dX3_sum_5 rfl (lv_at hl 1 rfl) ?_
      refine lv_icmp_ge (tgt := 27) hx hb dX3_sum_6 (by decide) (fun c_4 => ?_) (fun c_4 => ?_)
      · have h := q_t c_4 h
        cases h
        exact K4_1 _ _ _ hP hD hS (lv_sub hl [0, 1, 2, 3] rfl)
      · have h := q_f c_4 h
        refine lv_iload_n hx hb dX3_sum_9 rfl (lv_at hl 3 rfl) ?_
        refine lv_aload_n hx hb dX3_sum_10 rfl (lv_at hl 0 rfl) ?_
        refine va_alen (v := (Int32.ofNat n0)) hx hb hK hP 0 0 rfl (ty := .int) rfl rfl dX3_sum_11 ?_
        refine lv_icmp_ge (tgt := 27) hx hb dX3_sum_12 (by decide) (fun c_5 => ?_) (fun c_5 => ?_)
        · have h := q_t c_5 h
          cases h
          exact K4_1 _ _ _ hP hD hS (lv_sub hl [0, 1, 2, 3] rfl)
        · have h := q_f c_5 h
          refine lv_iload_n hx hb dX3_sum_15 rfl (lv_at hl 2 rfl) ?_
          refine lv_aload_n hx hb dX3_sum_16 rfl (lv_at hl 0 rfl) ?_
          refine lv_iload_n hx hb dX3_sum_17 rfl (lv_at hl 3 rfl) ?_
          obtain ⟨z_6, h⟩ := q_grd_ok h
          refine va_iald hx hb hK hP 0 0 rfl rfl z_6 dX3_sum_18 ?_
          refine lv_iadd hx hb dX3_sum_19 ?_
          refine lv_topi (fun x_7 ex_7 => ?_)
          have h := q_let_at ex_7 h
          refine lv_istore_n (lv' := [(2, .int x_7), (0, .ref (q 0)), (1, .int v1), (3, .int v3)]) hx hb dX3_sum_20 rfl hl (by decide) rfl (fun ls hl => ?_)
          obtain ⟨x_8, ex_8, h⟩ := q_let_ok h
          refine lv_iinc (v := x_8) (lv' := [(3, .int x_8), (2, .int x_7), (0, .ref (q 0)), (1, .int v1)]) hx hb dX3_sum_21 hl (k := 3) rfl (by rw [ex_8]; rfl) (by decide) rfl (fun ls hl => ?_)
          refine lv_goto (tgt := 4) hx hb dX3_sum_24 (by decide) ?_
          exact ih4_1 x_7 x_8 K4_1 _ _ _ hP hD hS (lv_sub hl [2, 3, 1, 0] rfl) h
  exact L4_1 E p2 N (0 : Int32) (0 : Int32) K4_1 _ _ _ hP hD hS (lv_sub hl [2, 3, 1, 0] rfl) hL1
theorem eX3_sum : yX3_sum.cls ≠ "java/lang/invoke/MethodHandle" ∧ yX3_sum.cls ≠ "java/lang/invoke/VarHandle" ∧ (parseMethodDescriptor yX3_sum.desc).map (fun d => d.parameters.length) = some 2 := by decide +kernel
theorem uX3_count_X0 : ∀ w ∈ u_ws RX0 TX0 13, w ∈ wsX3_count := by decide +kernel
theorem kX3_count_1 : Cond.fieldLink RX3 82 "BeamSeats$Island" "size" "I" ∈ wsX3_count := List.mem_of_getElem? (i := 2) (by decide +kernel)
theorem uX3_count_X3 : ∀ w ∈ u_ws RX3 TX3 7, w ∈ wsX3_count := by decide +kernel
theorem kX3_count_3 : Cond.fieldLink RX3 10 "BeamSeats" "real" "LBeamSeats$Island;" ∈ wsX3_count := List.mem_of_getElem? (i := 1) (by decide +kernel)
theorem uX3_count_X2 : ∀ w ∈ u_ws RX2 TX2 7, w ∈ wsX3_count := by decide +kernel
theorem kX3_count_5 : Cond.fieldLink RX3 171 "BeamSeats$Tape" "size" "I" ∈ wsX3_count := List.mem_of_getElem? (i := 4) (by decide +kernel)
theorem kX3_count_6 : Cond.fieldLink RX3 29 "BeamSeats" "tape" "LBeamSeats$Tape;" ∈ wsX3_count := List.mem_of_getElem? (i := 3) (by decide +kernel)
theorem kX3_count_7 : Cond.fieldLink RX3 106 "BeamSeats$Island" "wets" "[I" ∈ wsX3_count := List.mem_of_getElem? (i := 5) (by decide +kernel)
theorem kX3_count_8 : Cond.fieldLink RX3 115 "BeamSeats$Island" "times" "[I" ∈ wsX3_count := List.mem_of_getElem? (i := 6) (by decide +kernel)
theorem kX3_count_9 : Cond.constant RX3 58 (-1000000001) ∈ wsX3_count := List.mem_of_getElem? (i := 7) (by decide +kernel)
def f_X3_count (N : Nat) (b : Nat → Nat → Int32) (R : Nat → Nat → Int32) (T : Nat → Nat → Int32) (K : Nat → Nat → Int32) (P : Nat → Nat → Int32) (B : Nat → Nat → Int32) (L : Nat → Nat → Int64) (p1 : Int32) : Option (Int32 × (Nat → Nat → Int32)) :=
  if p1 = 0 then
    some ((R 0 4), b)
  else
    if p1 = 1 then
      some ((P 0 0), b)
    else
      if p1 = 2 then
        q_bd (f_X3_sum N 8 (R 4) (R 0 4)) (fun r_4 =>
        some (r_4, b))
      else
        if p1 = 3 then
          q_bd (f_X3_sum N 8 (R 6) (R 0 4)) (fun r_7 =>
          some (r_7, b))
        else
          q_bd2 (f_X3_found N b R T K P B L (-1000000001 : Int32)) (fun r_9 b_10 =>
          some (r_9, b_10))
set_option maxHeartbeats 4000000 in
set_option maxRecDepth 100000 in
theorem c_X3_count (l : Launch) (D : va_G) (y : Nat → ClassId) (t : Nat → Nat) (q : Nat → Nat) (sz N : Nat) (b : Nat → Nat → Int32) (R : Nat → Nat → Int32) (T : Nat → Nat → Int32) (K : Nat → Nat → Int32) (P : Nat → Nat → Int32) (B : Nat → Nat → Int32) (L : Nat → Nat → Int64) (p1 : Int32) (res : Int32 × (Nat → Nat → Int32)) (h : f_X3_count N b R T K P B L p1 = some res) : Met l yX3_count wsX3_count ({ frames := 2, cells := 0, slots := 0, locals := 44 } : Room) (pPre D y t [.ref (q 0), .int p1] (wB y q b R T K P B L) sz) (pQi D y (res.1) (wB y q (res.2) R T K P B L) (va_A (wB y q b R T K P B L) sz)) 0 0 (va_A (wB y q b R T K P B L) sz) := by
  refine q_start (Qc := (fun A => pQi D y (res.1) (wB y q (res.2) R T K P B L) A)) (cc := cX3_count) (maxL := 2) (ret := (some .int)) (by decide) rfl (Nat.le_of_ble_eq_true rfl) ?_
  intro p e s m below meth c A ls hx hb hr hts hown hlocks hmn hml hP hK hZ hD hA hS hl
  have hl : lv_has ls 2 [(0, .ref (q 0)), (1, .int p1)] := hl
  have hown : s.vm.findClass RX3 = some m.cls := hown
  unfold f_X3_count at h
  refine lv_iload_n hx hb dX3_count_0 rfl (lv_at hl 1 rfl) ?_
  by_cases c_1 : p1 = 0
  · have h := q_t c_1 h
    refine lv_tableIn (tgt := 32) (off := 31) hx hb dX3_count_1 (by rw [c_1]; decide) (by rw [c_1]; decide) (by rw [c_1]; rfl) (by decide) ?_
    refine lv_aload_n hx hb dX3_count_32 rfl (lv_at hl 0 rfl) ?_
    refine va_get (D := D) (ci := 3) (v := .ref (q 1)) (C := RX3) (T := TX3) (N := 7) hx hb hts uX3_count_X3 hown hK hP 0 rfl rfl 0 (by decide) (hts _ kX3_count_3) (fun _ h9 => h9) rfl dX3_count_33 ?_
    refine va_get (D := D) (ci := 0) (v := .int (R 0 4)) (C := RX0) (T := TX0) (N := 13) hx hb hts uX3_count_X0 hown hK hP 1 rfl rfl 4 (by decide) (hts _ kX3_count_1) (fun _ h9 => h9) rfl dX3_count_36 ?_
    have e9 := Option.some.inj h
    exact q_iret hx hb hr hlocks hK hP hD hS dX3_count_39 (by first | rw [← e9] | rfl) (by first | rw [← e9] | rfl)
  · have h := q_f c_1 h
    by_cases c_2 : p1 = 1
    · have h := q_t c_2 h
      refine lv_tableIn (tgt := 40) (off := 39) hx hb dX3_count_1 (by rw [c_2]; decide) (by rw [c_2]; decide) (by rw [c_2]; rfl) (by decide) ?_
      refine lv_aload_n hx hb dX3_count_40 rfl (lv_at hl 0 rfl) ?_
      refine va_get (D := D) (ci := 3) (v := .ref (q 22)) (C := RX3) (T := TX3) (N := 7) hx hb hts uX3_count_X3 hown hK hP 0 rfl rfl 4 (by decide) (hts _ kX3_count_6) (fun _ h9 => h9) rfl dX3_count_41 ?_
      refine va_get (D := D) (ci := 2) (v := .int (P 0 0)) (C := RX2) (T := TX2) (N := 7) hx hb hts uX3_count_X2 hown hK hP 22 rfl rfl 1 (by decide) (hts _ kX3_count_5) (fun _ h9 => h9) rfl dX3_count_44 ?_
      have e9 := Option.some.inj h
      exact q_iret hx hb hr hlocks hK hP hD hS dX3_count_47 (by first | rw [← e9] | rfl) (by first | rw [← e9] | rfl)
    · have h := q_f c_2 h
      by_cases c_3 : p1 = 2
      · have h := q_t c_3 h
        refine lv_tableIn (tgt := 48) (off := 47) hx hb dX3_count_1 (by rw [c_3]; decide) (by rw [c_3]; decide) (by rw [c_3]; rfl) (by decide) ?_
        refine lv_aload_n hx hb dX3_count_48 rfl (lv_at hl 0 rfl) ?_
        refine va_get (D := D) (ci := 3) (v := .ref (q 1)) (C := RX3) (T := TX3) (N := 7) hx hb hts uX3_count_X3 hown hK hP 0 rfl rfl 0 (by decide) (hts _ kX3_count_3) (fun _ h9 => h9) rfl dX3_count_49 ?_
        refine va_get (D := D) (ci := 0) (v := .ref (q 5)) (C := RX0) (T := TX0) (N := 13) hx hb hts uX3_count_X0 hown hK hP 1 rfl rfl 10 (by decide) (hts _ kX3_count_7) (fun _ h9 => h9) rfl dX3_count_52 ?_
        refine lv_aload_n hx hb dX3_count_55 rfl (lv_at hl 0 rfl) ?_
        refine va_get (D := D) (ci := 3) (v := .ref (q 1)) (C := RX3) (T := TX3) (N := 7) hx hb hts uX3_count_X3 hown hK hP 0 rfl rfl 0 (by decide) (hts _ kX3_count_3) (fun _ h9 => h9) rfl dX3_count_56 ?_
        refine va_get (D := D) (ci := 0) (v := .int (R 0 4)) (C := RX0) (T := TX0) (N := 13) hx hb hts uX3_count_X0 hown hK hP 1 rfl rfl 4 (by decide) (hts _ kX3_count_1) (fun _ h9 => h9) rfl dX3_count_59 ?_
        obtain ⟨r_4, hc_5, h⟩ := q_bd_ok h
        refine q_ci (r := r_4) (va_runS (As := [.ref (q 5), .int (R 0 4)]) (rest := []) ⟨hx, hb, hml, hown, hts⟩ (c_X3_sum l D y t (fun k => q 5) _ N 8 (R 4) (R 0 4) r_4 hc_5) (va_cwS 2 hts gX3_count_X3_sum rfl rfl rfl eX3_sum ⟨Nat.le_of_ble_eq_true rfl, Nat.le_of_ble_eq_true rfl⟩) ⟨q_blind, (q_pre hP hK hZ hD hA hS [5] rfl (by decide))⟩ rfl rfl hl.1 rfl (lv_room (Nat.le_of_ble_eq_true rfl)) dX3_count_62 ⟨Nat.zero_le _, Nat.zero_le _⟩) hP hD hA hS [5] rfl (by decide) rfl (fun H locs hP hD hS => ?_)
        have hP : va_P D vwCl (wB y q b R T K P B L) H := hP
        have hD : va_D A (wB y q b R T K P B L) := hD
        have e9 := Option.some.inj h
        exact q_iret hx hb hr hlocks hK hP hD hS dX3_count_65 (by first | rw [← e9] | rfl) (by first | rw [← e9] | rfl)
      · have h := q_f c_3 h
        by_cases c_6 : p1 = 3
        · have h := q_t c_6 h
          refine lv_tableIn (tgt := 66) (off := 65) hx hb dX3_count_1 (by rw [c_6]; decide) (by rw [c_6]; decide) (by rw [c_6]; rfl) (by decide) ?_
          refine lv_aload_n hx hb dX3_count_66 rfl (lv_at hl 0 rfl) ?_
          refine va_get (D := D) (ci := 3) (v := .ref (q 1)) (C := RX3) (T := TX3) (N := 7) hx hb hts uX3_count_X3 hown hK hP 0 rfl rfl 0 (by decide) (hts _ kX3_count_3) (fun _ h9 => h9) rfl dX3_count_67 ?_
          refine va_get (D := D) (ci := 0) (v := .ref (q 7)) (C := RX0) (T := TX0) (N := 13) hx hb hts uX3_count_X0 hown hK hP 1 rfl rfl 12 (by decide) (hts _ kX3_count_8) (fun _ h9 => h9) rfl dX3_count_70 ?_
          refine lv_aload_n hx hb dX3_count_73 rfl (lv_at hl 0 rfl) ?_
          refine va_get (D := D) (ci := 3) (v := .ref (q 1)) (C := RX3) (T := TX3) (N := 7) hx hb hts uX3_count_X3 hown hK hP 0 rfl rfl 0 (by decide) (hts _ kX3_count_3) (fun _ h9 => h9) rfl dX3_count_74 ?_
          refine va_get (D := D) (ci := 0) (v := .int (R 0 4)) (C := RX0) (T := TX0) (N := 13) hx hb hts uX3_count_X0 hown hK hP 1 rfl rfl 4 (by decide) (hts _ kX3_count_1) (fun _ h9 => h9) rfl dX3_count_77 ?_
          obtain ⟨r_7, hc_8, h⟩ := q_bd_ok h
          refine q_ci (r := r_7) (va_runS (As := [.ref (q 7), .int (R 0 4)]) (rest := []) ⟨hx, hb, hml, hown, hts⟩ (c_X3_sum l D y t (fun k => q 7) _ N 8 (R 6) (R 0 4) r_7 hc_8) (va_cwS 2 hts gX3_count_X3_sum rfl rfl rfl eX3_sum ⟨Nat.le_of_ble_eq_true rfl, Nat.le_of_ble_eq_true rfl⟩) ⟨q_blind, (q_pre hP hK hZ hD hA hS [7] rfl (by decide))⟩ rfl rfl hl.1 rfl (lv_room (Nat.le_of_ble_eq_true rfl)) dX3_count_80 ⟨Nat.zero_le _, Nat.zero_le _⟩) hP hD hA hS [7] rfl (by decide) rfl (fun H locs hP hD hS => ?_)
          have hP : va_P D vwCl (wB y q b R T K P B L) H := hP
          have hD : va_D A (wB y q b R T K P B L) := hD
          have e9 := Option.some.inj h
          exact q_iret hx hb hr hlocks hK hP hD hS dX3_count_83 (by first | rw [← e9] | rfl) (by first | rw [← e9] | rfl)
        · have h := q_f c_6 h
          have nc_1 := lv_neT c_1 (show ((0 : Int32)).toInt = 0 from by decide)
          have nc_2 := lv_neT c_2 (show ((1 : Int32)).toInt = 1 from by decide)
          have nc_3 := lv_neT c_3 (show ((2 : Int32)).toInt = 2 from by decide)
          have nc_6 := lv_neT c_6 (show ((3 : Int32)).toInt = 3 from by decide)
          refine lv_tableOut (tgt := 84) hx hb dX3_count_1 (by omega) (by decide) ?_
          refine lv_aload_n hx hb dX3_count_84 rfl (lv_at hl 0 rfl) ?_
          refine lv_ldc (v := -1000000001) hx hb hown (hts _ kX3_count_9) dX3_count_85 ?_
          obtain ⟨r_9, b_10, hc_11, h⟩ := q_bd2_ok h
          refine q_ci0 (r := r_9) (va_runV (As := [.int (-1000000001 : Int32)]) (rest := []) ⟨hx, hb, hml, hown, hts⟩ (c_X3_found l D y t q _ N b R T K P B L (-1000000001 : Int32) (r_9, b_10) hc_11) (cwV 1 hts gX3_count_X3_found rfl rfl rfl eX3_found ⟨Nat.le_of_ble_eq_true rfl, Nat.le_of_ble_eq_true rfl⟩) ⟨q_blind, (va_recv hK hP (ci := 3) (q0 := 0) rfl rfl), (q_pre0 hP hK hZ hD hA hS)⟩ rfl rfl hl.1 rfl (lv_room (Nat.le_of_ble_eq_true rfl)) dX3_count_87 ⟨Nat.zero_le _, Nat.zero_le _⟩) hD hA hS (fun H locs hP hD hS => ?_)
          have hP : va_P D vwCl (wB y q b_10 R T K P B L) H := hP
          have hD : va_D A (wB y q b_10 R T K P B L) := hD
          have e9 := Option.some.inj h
          exact q_iret hx hb hr hlocks hK hP hD hS dX3_count_90 (by first | rw [← e9] | rfl) (by first | rw [← e9] | rfl)
theorem eX3_count : yX3_count.cls = RX3 ∧ yX3_count.cls ≠ "java/lang/invoke/MethodHandle" ∧ yX3_count.cls ≠ "java/lang/invoke/VarHandle" ∧ (parseMethodDescriptor yX3_count.desc).map (fun d => d.parameters.length) = some 1 := by decide +kernel
theorem uX3_status_X3 : ∀ w ∈ u_ws RX3 TX3 7, w ∈ wsX3_status := by decide +kernel
theorem kX3_status_1 : Cond.fieldLink RX3 39 "BeamSeats" "findings" "[I" ∈ wsX3_status := List.mem_of_getElem? (i := 2) (by decide +kernel)
theorem kX3_status_2 : Cond.constant RX3 58 (-1000000001) ∈ wsX3_status := List.mem_of_getElem? (i := 1) (by decide +kernel)
def f_X3_status (N : Nat) (b : Nat → Nat → Int32) (R : Nat → Nat → Int32) (T : Nat → Nat → Int32) (K : Nat → Nat → Int32) (P : Nat → Nat → Int32) (B : Nat → Nat → Int32) (L : Nat → Nat → Int64) (p1 : Int32) : Option (Int32 × (Nat → Nat → Int32)) :=
  q_bd (f_X3_within N p1 (-1 : Int32) (6 : Int32)) (fun r_1 =>
  if r_1 = 0 then
    q_bd2 (f_X3_found N b R T K P B L (-1000000001 : Int32)) (fun r_8 b_9 =>
    some (r_8, b_9))
  else
    if p1 = (-1 : Int32) then
      q_bd (f_X3_sum N 7 (b 1) (7 : Int32)) (fun r_6 =>
      some (r_6, b))
    else
      q_grd p1 7 (
      some ((b 1 p1.toNatClampNeg), b)))
set_option maxHeartbeats 4000000 in
set_option maxRecDepth 100000 in
theorem c_X3_status (l : Launch) (D : va_G) (y : Nat → ClassId) (t : Nat → Nat) (q : Nat → Nat) (sz N : Nat) (b : Nat → Nat → Int32) (R : Nat → Nat → Int32) (T : Nat → Nat → Int32) (K : Nat → Nat → Int32) (P : Nat → Nat → Int32) (B : Nat → Nat → Int32) (L : Nat → Nat → Int64) (p1 : Int32) (res : Int32 × (Nat → Nat → Int32)) (h : f_X3_status N b R T K P B L p1 = some res) : Met l yX3_status wsX3_status ({ frames := 2, cells := 0, slots := 0, locals := 44 } : Room) (pPre D y t [.ref (q 0), .int p1] (wB y q b R T K P B L) sz) (pQi D y (res.1) (wB y q (res.2) R T K P B L) (va_A (wB y q b R T K P B L) sz)) 0 0 (va_A (wB y q b R T K P B L) sz) := by
  refine q_start (Qc := (fun A => pQi D y (res.1) (wB y q (res.2) R T K P B L) A)) (cc := cX3_status) (maxL := 2) (ret := (some .int)) (by decide) rfl (Nat.le_of_ble_eq_true rfl) ?_
  intro p e s m below meth c A ls hx hb hr hts hown hlocks hmn hml hP hK hZ hD hA hS hl
  have hl : lv_has ls 2 [(0, .ref (q 0)), (1, .int p1)] := hl
  have hown : s.vm.findClass RX3 = some m.cls := hown
  unfold f_X3_status at h
  refine lv_iload_n hx hb dX3_status_0 rfl (lv_at hl 1 rfl) ?_
  refine lv_iconst (v := -1) hx hb dX3_status_1 (by decide) ?_
  refine lv_bipush (v := 6) hx hb dX3_status_2 (by decide) ?_
  obtain ⟨r_1, hc_2, h⟩ := q_bd_ok h
  refine q_ci (r := r_1) (va_runS (As := [.int p1, .int (-1 : Int32), .int (6 : Int32)]) (rest := []) ⟨hx, hb, hml, hown, hts⟩ (c_X3_within l D y t q _ N p1 (-1 : Int32) (6 : Int32) r_1 hc_2) (va_cwS 3 hts gX3_status_X3_within rfl rfl rfl eX3_within ⟨Nat.le_of_ble_eq_true rfl, Nat.le_of_ble_eq_true rfl⟩) ⟨q_blind, (q_pre hP hK hZ hD hA hS [] rfl (by decide))⟩ rfl rfl hl.1 rfl (lv_room (Nat.le_of_ble_eq_true rfl)) dX3_status_4 ⟨Nat.zero_le _, Nat.zero_le _⟩) hP hD hA hS [] rfl (by decide) rfl (fun H locs hP hD hS => ?_)
  have hP : va_P D vwCl (wB y q b R T K P B L) H := hP
  have hD : va_D A (wB y q b R T K P B L) := hD
  refine lv_if_ne (tgt := 17) hx hb dX3_status_7 (by decide) (fun c_3 => ?_) (fun c_3 => ?_)
  · have h := q_f c_3 h
    refine lv_iload_n hx hb dX3_status_17 rfl (lv_at hl 1 rfl) ?_
    refine lv_iconst (v := -1) hx hb dX3_status_18 (by decide) ?_
    refine lv_icmp_ne (tgt := 34) hx hb dX3_status_19 (by decide) (fun c_4 => ?_) (fun c_4 => ?_)
    · have h := q_f c_4 h
      refine lv_aload_n hx hb dX3_status_34 rfl (lv_at hl 0 rfl) ?_
      refine va_get (D := D) (ci := 3) (v := .ref (q 36)) (C := RX3) (T := TX3) (N := 7) hx hb hts uX3_status_X3 hown hK hP 0 rfl rfl 6 (by decide) (hts _ kX3_status_1) (fun _ h9 => h9) rfl dX3_status_35 ?_
      refine lv_iload_n hx hb dX3_status_38 rfl (lv_at hl 1 rfl) ?_
      obtain ⟨z_5, h⟩ := q_grd_ok h
      refine va_iald hx hb hK hP 36 0 rfl rfl z_5 dX3_status_39 ?_
      have e9 := Option.some.inj h
      exact q_iret hx hb hr hlocks hK hP hD hS dX3_status_40 (by first | rw [← e9] | rfl) (by first | rw [← e9] | rfl)
    · have h := q_t c_4 h
      refine lv_aload_n hx hb dX3_status_22 rfl (lv_at hl 0 rfl) ?_
      refine va_get (D := D) (ci := 3) (v := .ref (q 36)) (C := RX3) (T := TX3) (N := 7) hx hb hts uX3_status_X3 hown hK hP 0 rfl rfl 6 (by decide) (hts _ kX3_status_1) (fun _ h9 => h9) rfl dX3_status_23 ?_
      refine lv_bipush (v := 7) hx hb dX3_status_26 (by decide) ?_
      obtain ⟨r_6, hc_7, h⟩ := q_bd_ok h
      refine q_ci (r := r_6) (va_runS (As := [.ref (q 36), .int (7 : Int32)]) (rest := []) ⟨hx, hb, hml, hown, hts⟩ (c_X3_sum l D y t (fun k => q 36) _ N 7 (b 1) (7 : Int32) r_6 hc_7) (va_cwS 2 hts gX3_status_X3_sum rfl rfl rfl eX3_sum ⟨Nat.le_of_ble_eq_true rfl, Nat.le_of_ble_eq_true rfl⟩) ⟨q_blind, (q_pre hP hK hZ hD hA hS [36] rfl (by decide))⟩ rfl rfl hl.1 rfl (lv_room (Nat.le_of_ble_eq_true rfl)) dX3_status_28 ⟨Nat.zero_le _, Nat.zero_le _⟩) hP hD hA hS [36] rfl (by decide) rfl (fun H locs hP hD hS => ?_)
      have hP : va_P D vwCl (wB y q b R T K P B L) H := hP
      have hD : va_D A (wB y q b R T K P B L) := hD
      refine lv_goto (tgt := 40) hx hb dX3_status_31 (by decide) ?_
      have e9 := Option.some.inj h
      exact q_iret hx hb hr hlocks hK hP hD hS dX3_status_40 (by first | rw [← e9] | rfl) (by first | rw [← e9] | rfl)
  · have h := q_t c_3 h
    refine lv_aload_n hx hb dX3_status_10 rfl (lv_at hl 0 rfl) ?_
    refine lv_ldc (v := -1000000001) hx hb hown (hts _ kX3_status_2) dX3_status_11 ?_
    obtain ⟨r_8, b_9, hc_10, h⟩ := q_bd2_ok h
    refine q_ci0 (r := r_8) (va_runV (As := [.int (-1000000001 : Int32)]) (rest := []) ⟨hx, hb, hml, hown, hts⟩ (c_X3_found l D y t q _ N b R T K P B L (-1000000001 : Int32) (r_8, b_9) hc_10) (cwV 1 hts gX3_status_X3_found rfl rfl rfl eX3_found ⟨Nat.le_of_ble_eq_true rfl, Nat.le_of_ble_eq_true rfl⟩) ⟨q_blind, (va_recv hK hP (ci := 3) (q0 := 0) rfl rfl), (q_pre0 hP hK hZ hD hA hS)⟩ rfl rfl hl.1 rfl (lv_room (Nat.le_of_ble_eq_true rfl)) dX3_status_13 ⟨Nat.zero_le _, Nat.zero_le _⟩) hD hA hS (fun H locs hP hD hS => ?_)
    have hP : va_P D vwCl (wB y q b_9 R T K P B L) H := hP
    have hD : va_D A (wB y q b_9 R T K P B L) := hD
    have e9 := Option.some.inj h
    exact q_iret hx hb hr hlocks hK hP hD hS dX3_status_16 (by first | rw [← e9] | rfl) (by first | rw [← e9] | rfl)
theorem eX3_status : yX3_status.cls = RX3 ∧ yX3_status.cls ≠ "java/lang/invoke/MethodHandle" ∧ yX3_status.cls ≠ "java/lang/invoke/VarHandle" ∧ (parseMethodDescriptor yX3_status.desc).map (fun d => d.parameters.length) = some 1 := by decide +kernel
