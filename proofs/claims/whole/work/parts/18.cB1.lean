theorem kX3_on_0 : Cond.constant RX3 58 (-1000000001) ∈ wsX3_on := List.mem_of_getElem? (i := 2) (by decide +kernel)
theorem uX3_on_X0 : ∀ w ∈ u_ws RX0 TX0 13, w ∈ wsX3_on := by decide +kernel
theorem kX3_on_2 : Cond.fieldLink RX3 97 "BeamSeats$Island" "places" "[I" ∈ wsX3_on := List.mem_of_getElem? (i := 4) (by decide +kernel)
theorem uX3_on_X3 : ∀ w ∈ u_ws RX3 TX3 7, w ∈ wsX3_on := by decide +kernel
theorem kX3_on_4 : Cond.fieldLink RX3 16 "BeamSeats" "trial" "LBeamSeats$Island;" ∈ wsX3_on := List.mem_of_getElem? (i := 3) (by decide +kernel)
theorem kX3_on_5 : Cond.fieldLink RX3 106 "BeamSeats$Island" "wets" "[I" ∈ wsX3_on := List.mem_of_getElem? (i := 5) (by decide +kernel)
theorem kX3_on_6 : Cond.fieldLink RX3 115 "BeamSeats$Island" "times" "[I" ∈ wsX3_on := List.mem_of_getElem? (i := 6) (by decide +kernel)
theorem kX3_on_7 : Cond.fieldLink RX3 10 "BeamSeats" "real" "LBeamSeats$Island;" ∈ wsX3_on := List.mem_of_getElem? (i := 1) (by decide +kernel)
def f_X3_on_B31 (N : Nat) (b : Nat → Nat → Int32) (R : Nat → Nat → Int32) (T : Nat → Nat → Int32) (K : Nat → Nat → Int32) (P : Nat → Nat → Int32) (B : Nat → Nat → Int32) (L : Nat → Nat → Int64) : Option (Int32 × (Nat → Nat → Int32) × (Nat → Nat → Int32)) :=
  q_bd2 (f_X3_found N b R T K P B L (-1000000001 : Int32)) (fun r_4 b_5 =>
  some (r_4, b_5, T))
def f_X3_on (N : Nat) (b : Nat → Nat → Int32) (R : Nat → Nat → Int32) (T : Nat → Nat → Int32) (K : Nat → Nat → Int32) (P : Nat → Nat → Int32) (B : Nat → Nat → Int32) (L : Nat → Nat → Int64) (p1 : Int32) (p2 : Int32) (p3 : Int32) : Option (Int32 × (Nat → Nat → Int32) × (Nat → Nat → Int32)) :=
  q_bd (f_X0_has N R p1) (fun r_1 =>
  if r_1 = 0 then
    f_X3_on_B31 N b R T K P B L
  else
    q_bd (f_X3_within N p2 (0 : Int32) (400 : Int32)) (fun r_7 =>
    if r_7 = 0 then
      f_X3_on_B31 N b R T K P B L
    else
      q_bd (f_X3_within N p3 (0 : Int32) (4 : Int32)) (fun r_10 =>
      if r_10 = 0 then
        f_X3_on_B31 N b R T K P B L
      else
        q_bd (f_X0_becomes N T R) (fun T_13 =>
        q_bd (f_X0_goSeconds N T_13 p2) (fun T_15 =>
        if p3 = 0 then
          q_grd p1 8 (
          some ((T_15 2 p1.toNatClampNeg), b, T_15))
        else
          if p3 = 1 then
            q_bd (f_X0_isOn N T_15 p1) (fun r_20 =>
            if r_20 = 0 then
              some ((0 : Int32), b, T_15)
            else
              some ((1 : Int32), b, T_15))
          else
            if p3 = 2 then
              q_grd p1 8 (
              some ((T_15 4 p1.toNatClampNeg), b, T_15))
            else
              if p3 = 3 then
                q_bd (f_X0_isLost N T_15 p1) (fun r_26 =>
                if r_26 = 0 then
                  some ((0 : Int32), b, T_15)
                else
                  some ((1 : Int32), b, T_15))
              else
                q_grd p1 8 (
                some ((T_15 6 p1.toNatClampNeg), b, T_15)))))))
set_option maxHeartbeats 4000000 in
set_option maxRecDepth 100000 in
theorem c_X3_on (l : Launch) (D : va_G) (y : Nat → ClassId) (t : Nat → Nat) (q : Nat → Nat) (sz N : Nat) (b : Nat → Nat → Int32) (R : Nat → Nat → Int32) (T : Nat → Nat → Int32) (K : Nat → Nat → Int32) (P : Nat → Nat → Int32) (B : Nat → Nat → Int32) (L : Nat → Nat → Int64) (p1 : Int32) (p2 : Int32) (p3 : Int32) (res : Int32 × (Nat → Nat → Int32) × (Nat → Nat → Int32)) (h : f_X3_on N b R T K P B L p1 p2 p3 = some res) : Met l yX3_on wsX3_on ({ frames := 5, cells := 0, slots := 0, locals := 113 } : Room) (pPre D y t [.ref (q 0), .int p1, .int p2, .int p3] (wB y q b R T K P B L) sz) (pQi D y (res.1) (wB y q (res.2.1) R (res.2.2) K P B L) (va_A (wB y q b R T K P B L) sz)) 0 0 (va_A (wB y q b R T K P B L) sz) := by
  refine q_start (Qc := (fun A => pQi D y (res.1) (wB y q (res.2.1) R (res.2.2) K P B L) A)) (cc := cX3_on) (maxL := 4) (ret := (some .int)) (by decide) rfl (Nat.le_of_ble_eq_true rfl) ?_
  intro p e s m below meth c A ls hx hb hr hts hown hlocks hmn hml hP hK hZ hD hA hS hl
  have hl : lv_has ls 4 [(0, .ref (q 0)), (1, .int p1), (2, .int p2), (3, .int p3)] := hl
  have hown : s.vm.findClass RX3 = some m.cls := hown
  have B31 : ∀ (b : Nat → Nat → Int32) (R : Nat → Nat → Int32) (T : Nat → Nat → Int32) (K : Nat → Nat → Int32) (P : Nat → Nat → Int32) (B : Nat → Nat → Int32) (L : Nat → Nat → Int64) (H : Heap) (locs : List Loc) (ls : Array Slot), va_P D vwCl (wB y q b R T K P B L) H → va_D A (wB y q b R T K P B L) → va_S A s.heap H locs → lv_has ls 4 [(0, .ref (q 0))] → f_X3_on_B31 N b R T K P B L = some res → W p l e ({ frames := 5, cells := 0, slots := 0, locals := 113 } : Room) s m ([.ref (q 0), .int p1, .int p2, .int p3] : List Value).toArray below meth c H locs 0 0 (MQ below (pQi D y (res.1) (wB y q (res.2.1) R (res.2.2) K P B L) A) ([.ref (q 0), .int p1, .int p2, .int p3] : List Value).toArray s 0 0 A) (F0 m 31 ls []) := by
    intro b R T K P B L H locs ls hP hD hS hl h
    unfold f_X3_on_B31 at h
    refine lv_aload_n hx hb dX3_on_31 rfl (lv_at hl 0 rfl) ?_
    refine lv_ldc (v := -1000000001) hx hb hown (hts _ kX3_on_0) dX3_on_32 ?_
    obtain ⟨r_4, b_5, hc_6, h⟩ := q_bd2_ok h
    refine q_ci0 (r := r_4) (va_runV (As := [.int (-1000000001 : Int32)]) (rest := []) ⟨hx, hb, hml, hown, hts⟩ (c_X3_found l D y t q _ N b R T K P B L (-1000000001 : Int32) (r_4, b_5) hc_6) (cwV 1 hts gX3_on_X3_found rfl rfl rfl eX3_found ⟨Nat.le_of_ble_eq_true rfl, Nat.le_of_ble_eq_true rfl⟩) ⟨q_blind, (va_recv hK hP (ci := 3) (q0 := 0) rfl rfl), (q_pre0 hP hK hZ hD hA hS)⟩ rfl rfl hl.1 rfl (lv_room (Nat.le_of_ble_eq_true rfl)) dX3_on_34 ⟨Nat.zero_le _, Nat.zero_le _⟩) hD hA hS (fun H locs hP hD hS => ?_)
    have hP : va_P D vwCl (wB y q b_5 R T K P B L) H := hP
    have hD : va_D A (wB y q b_5 R T K P B L) := hD
    have e9 := Option.some.inj h
    exact q_iret hx hb hr hlocks hK hP hD hS dX3_on_37 (by first | rw [← e9] | rfl) (by first | rw [← e9] | rfl)
  unfold f_X3_on at h
  refine lv_aload_n hx hb dX3_on_0 rfl (lv_at hl 0 rfl) ?_
  refine va_get (D := D) (ci := 3) (v := .ref (q 1)) (C := RX3) (T := TX3) (N := 7) hx hb hts uX3_on_X3 hown hK hP 0 rfl rfl 0 (by decide) (hts _ kX3_on_7) (fun _ h9 => h9) rfl dX3_on_1 ?_
  refine lv_iload_n hx hb dX3_on_4 rfl (lv_at hl 1 rfl) ?_
  obtain ⟨r_1, hc_2, h⟩ := q_bd_ok h
  refine q_ci (r := r_1) (va_runV (As := [.int p1]) (rest := []) ⟨hx, hb, hml, hown, hts⟩ (c_X0_has l D y t (fun k => q (k + 1)) _ N R p1 r_1 hc_2) (cwV 1 hts gX3_on_X0_has rfl rfl rfl eX0_has ⟨Nat.le_of_ble_eq_true rfl, Nat.le_of_ble_eq_true rfl⟩) ⟨q_blind, (va_recv hK hP (ci := 0) (q0 := 1) rfl rfl), (q_pre hP hK hZ hD hA hS [1, 2, 3, 4, 5, 6, 7] rfl (by decide))⟩ rfl rfl hl.1 rfl (lv_room (Nat.le_of_ble_eq_true rfl)) dX3_on_5 ⟨Nat.zero_le _, Nat.zero_le _⟩) hP hD hA hS [1, 2, 3, 4, 5, 6, 7] rfl (by decide) rfl (fun H locs hP hD hS => ?_)
  have hP : va_P D vwCl (wB y q b R T K P B L) H := hP
  have hD : va_D A (wB y q b R T K P B L) := hD
  refine lv_if_eq (tgt := 31) hx hb dX3_on_8 (by decide) (fun c_3 => ?_) (fun c_3 => ?_)
  · have h := q_t c_3 h
    exact B31 b R T K P B L _ _ _ hP hD hS (lv_sub hl [0] rfl) h
  · have h := q_f c_3 h
    refine lv_iload_n hx hb dX3_on_11 rfl (lv_at hl 2 rfl) ?_
    refine lv_iconst (v := 0) hx hb dX3_on_12 (by decide) ?_
    refine lv_sipush (v := 400) hx hb dX3_on_13 (by decide) ?_
    obtain ⟨r_7, hc_8, h⟩ := q_bd_ok h
    refine q_ci (r := r_7) (va_runS (As := [.int p2, .int (0 : Int32), .int (400 : Int32)]) (rest := []) ⟨hx, hb, hml, hown, hts⟩ (c_X3_within l D y t q _ N p2 (0 : Int32) (400 : Int32) r_7 hc_8) (va_cwS 3 hts gX3_on_X3_within rfl rfl rfl eX3_within ⟨Nat.le_of_ble_eq_true rfl, Nat.le_of_ble_eq_true rfl⟩) ⟨q_blind, (q_pre hP hK hZ hD hA hS [] rfl (by decide))⟩ rfl rfl hl.1 rfl (lv_room (Nat.le_of_ble_eq_true rfl)) dX3_on_16 ⟨Nat.zero_le _, Nat.zero_le _⟩) hP hD hA hS [] rfl (by decide) rfl (fun H locs hP hD hS => ?_)
    have hP : va_P D vwCl (wB y q b R T K P B L) H := hP
    have hD : va_D A (wB y q b R T K P B L) := hD
    refine lv_if_eq (tgt := 31) hx hb dX3_on_19 (by decide) (fun c_9 => ?_) (fun c_9 => ?_)
    · have h := q_t c_9 h
      exact B31 b R T K P B L _ _ _ hP hD hS (lv_sub hl [0] rfl) h
    · have h := q_f c_9 h
      refine lv_iload_n hx hb dX3_on_22 rfl (lv_at hl 3 rfl) ?_
      refine lv_iconst (v := 0) hx hb dX3_on_23 (by decide) ?_
      refine lv_iconst (v := 4) hx hb dX3_on_24 (by decide) ?_
      obtain ⟨r_10, hc_11, h⟩ := q_bd_ok h
      refine q_ci (r := r_10) (va_runS (As := [.int p3, .int (0 : Int32), .int (4 : Int32)]) (rest := []) ⟨hx, hb, hml, hown, hts⟩ (c_X3_within l D y t q _ N p3 (0 : Int32) (4 : Int32) r_10 hc_11) (va_cwS 3 hts gX3_on_X3_within rfl rfl rfl eX3_within ⟨Nat.le_of_ble_eq_true rfl, Nat.le_of_ble_eq_true rfl⟩) ⟨q_blind, (q_pre hP hK hZ hD hA hS [] rfl (by decide))⟩ rfl rfl hl.1 rfl (lv_room (Nat.le_of_ble_eq_true rfl)) dX3_on_25 ⟨Nat.zero_le _, Nat.zero_le _⟩) hP hD hA hS [] rfl (by decide) rfl (fun H locs hP hD hS => ?_)
      have hP : va_P D vwCl (wB y q b R T K P B L) H := hP
      have hD : va_D A (wB y q b R T K P B L) := hD
      refine lv_if_ne (tgt := 38) hx hb dX3_on_28 (by decide) (fun c_12 => ?_) (fun c_12 => ?_)
      · have h := q_f c_12 h
        refine lv_aload_n hx hb dX3_on_38 rfl (lv_at hl 0 rfl) ?_
        refine va_get (D := D) (ci := 3) (v := .ref (q 8)) (C := RX3) (T := TX3) (N := 7) hx hb hts uX3_on_X3 hown hK hP 0 rfl rfl 1 (by decide) (hts _ kX3_on_4) (fun _ h9 => h9) rfl dX3_on_39 ?_
        refine lv_aload_n hx hb dX3_on_42 rfl (lv_at hl 0 rfl) ?_
        refine va_get (D := D) (ci := 3) (v := .ref (q 1)) (C := RX3) (T := TX3) (N := 7) hx hb hts uX3_on_X3 hown hK hP 0 rfl rfl 0 (by decide) (hts _ kX3_on_7) (fun _ h9 => h9) rfl dX3_on_43 ?_
        obtain ⟨T_13, hc_14, h⟩ := q_bd_ok h
        refine q_cv (va_runV (As := [.ref (q 1)]) (rest := []) ⟨hx, hb, hml, hown, hts⟩ (c_X0_becomes l D y t (fun k => if k < 7 then q (k + 8) else q (k - 7 + 1)) _ N T R T_13 hc_14) (cwV 1 hts gX3_on_X0_becomes rfl rfl rfl eX0_becomes ⟨Nat.le_of_ble_eq_true rfl, Nat.le_of_ble_eq_true rfl⟩) ⟨q_blind, (va_recv hK hP (ci := 0) (q0 := 8) rfl rfl), (q_pre hP hK hZ hD hA hS [8, 9, 10, 11, 12, 13, 14, 1, 2, 3, 4, 5, 6, 7] rfl (by decide))⟩ rfl rfl hl.1 rfl (lv_room (Nat.le_of_ble_eq_true rfl)) dX3_on_46 ⟨Nat.zero_le _, Nat.zero_le _⟩) hP hD hA hS [8, 9, 10, 11, 12, 13, 14, 1, 2, 3, 4, 5, 6, 7] rfl (by decide) rfl (fun H locs hP hD hS => ?_)
        have hP : va_P D vwCl (wB y q b R T_13 K P B L) H := hP
        have hD : va_D A (wB y q b R T_13 K P B L) := hD
        refine lv_aload_n hx hb dX3_on_49 rfl (lv_at hl 0 rfl) ?_
        refine va_get (D := D) (ci := 3) (v := .ref (q 8)) (C := RX3) (T := TX3) (N := 7) hx hb hts uX3_on_X3 hown hK hP 0 rfl rfl 1 (by decide) (hts _ kX3_on_4) (fun _ h9 => h9) rfl dX3_on_50 ?_
        refine lv_iload_n hx hb dX3_on_53 rfl (lv_at hl 2 rfl) ?_
        obtain ⟨T_15, hc_16, h⟩ := q_bd_ok h
        refine q_cv (va_runV (As := [.int p2]) (rest := []) ⟨hx, hb, hml, hown, hts⟩ (c_X0_goSeconds l D y t (fun k => q (k + 8)) _ N T_13 p2 T_15 hc_16) (cwV 1 hts gX3_on_X0_goSeconds rfl rfl rfl eX0_goSeconds ⟨Nat.le_of_ble_eq_true rfl, Nat.le_of_ble_eq_true rfl⟩) ⟨q_blind, (va_recv hK hP (ci := 0) (q0 := 8) rfl rfl), (q_pre hP hK hZ hD hA hS [8, 9, 10, 11, 12, 13, 14] rfl (by decide))⟩ rfl rfl hl.1 rfl (lv_room (Nat.le_of_ble_eq_true rfl)) dX3_on_54 ⟨Nat.zero_le _, Nat.zero_le _⟩) hP hD hA hS [8, 9, 10, 11, 12, 13, 14] rfl (by decide) rfl (fun H locs hP hD hS => ?_)
        have hP : va_P D vwCl (wB y q b R T_15 K P B L) H := hP
        have hD : va_D A (wB y q b R T_15 K P B L) := hD
        refine lv_iload_n hx hb dX3_on_57 rfl (lv_at hl 3 rfl) ?_
        by_cases c_17 : p3 = 0
        · have h := q_t c_17 h
          refine lv_tableIn (tgt := 88) (off := 30) hx hb dX3_on_58 (by rw [c_17]; decide) (by rw [c_17]; decide) (by rw [c_17]; rfl) (by decide) ?_
          refine lv_aload_n hx hb dX3_on_88 rfl (lv_at hl 0 rfl) ?_
          refine va_get (D := D) (ci := 3) (v := .ref (q 8)) (C := RX3) (T := TX3) (N := 7) hx hb hts uX3_on_X3 hown hK hP 0 rfl rfl 1 (by decide) (hts _ kX3_on_4) (fun _ h9 => h9) rfl dX3_on_89 ?_
          refine va_get (D := D) (ci := 0) (v := .ref (q 10)) (C := RX0) (T := TX0) (N := 13) hx hb hts uX3_on_X0 hown hK hP 8 rfl rfl 8 (by decide) (hts _ kX3_on_2) (fun _ h9 => h9) rfl dX3_on_92 ?_
          refine lv_iload_n hx hb dX3_on_95 rfl (lv_at hl 1 rfl) ?_
          obtain ⟨z_18, h⟩ := q_grd_ok h
          refine va_iald hx hb hK hP 10 0 rfl rfl z_18 dX3_on_96 ?_
          have e9 := Option.some.inj h
          exact q_iret hx hb hr hlocks hK hP hD hS dX3_on_97 (by first | rw [← e9] | rfl) (by first | rw [← e9] | rfl)
        · have h := q_f c_17 h
          by_cases c_19 : p3 = 1
          · have h := q_t c_19 h
            refine lv_tableIn (tgt := 98) (off := 40) hx hb dX3_on_58 (by rw [c_19]; decide) (by rw [c_19]; decide) (by rw [c_19]; rfl) (by decide) ?_
            refine lv_aload_n hx hb dX3_on_98 rfl (lv_at hl 0 rfl) ?_
            refine va_get (D := D) (ci := 3) (v := .ref (q 8)) (C := RX3) (T := TX3) (N := 7) hx hb hts uX3_on_X3 hown hK hP 0 rfl rfl 1 (by decide) (hts _ kX3_on_4) (fun _ h9 => h9) rfl dX3_on_99 ?_
            refine lv_iload_n hx hb dX3_on_102 rfl (lv_at hl 1 rfl) ?_
            obtain ⟨r_20, hc_21, h⟩ := q_bd_ok h
            refine q_ci (r := r_20) (va_runV (As := [.int p1]) (rest := []) ⟨hx, hb, hml, hown, hts⟩ (c_X0_isOn l D y t (fun k => q (k + 8)) _ N T_15 p1 r_20 hc_21) (cwV 1 hts gX3_on_X0_isOn rfl rfl rfl eX0_isOn ⟨Nat.le_of_ble_eq_true rfl, Nat.le_of_ble_eq_true rfl⟩) ⟨q_blind, (va_recv hK hP (ci := 0) (q0 := 8) rfl rfl), (q_pre hP hK hZ hD hA hS [8, 9, 10, 11, 12, 13, 14] rfl (by decide))⟩ rfl rfl hl.1 rfl (lv_room (Nat.le_of_ble_eq_true rfl)) dX3_on_103 ⟨Nat.zero_le _, Nat.zero_le _⟩) hP hD hA hS [8, 9, 10, 11, 12, 13, 14] rfl (by decide) rfl (fun H locs hP hD hS => ?_)
            have hP : va_P D vwCl (wB y q b R T_15 K P B L) H := hP
            have hD : va_D A (wB y q b R T_15 K P B L) := hD
            refine lv_if_eq (tgt := 113) hx hb dX3_on_106 (by decide) (fun c_22 => ?_) (fun c_22 => ?_)
            · have h := q_t c_22 h
              refine lv_iconst (v := 0) hx hb dX3_on_113 (by decide) ?_
              have e9 := Option.some.inj h
              exact q_iret hx hb hr hlocks hK hP hD hS dX3_on_114 (by first | rw [← e9] | rfl) (by first | rw [← e9] | rfl)
            · have h := q_f c_22 h
              refine lv_iconst (v := 1) hx hb dX3_on_109 (by decide) ?_
              refine lv_goto (tgt := 114) hx hb dX3_on_110 (by decide) ?_
              have e9 := Option.some.inj h
              exact q_iret hx hb hr hlocks hK hP hD hS dX3_on_114 (by first | rw [← e9] | rfl) (by first | rw [← e9] | rfl)
          · have h := q_f c_19 h
            by_cases c_23 : p3 = 2
            · have h := q_t c_23 h
              refine lv_tableIn (tgt := 115) (off := 57) hx hb dX3_on_58 (by rw [c_23]; decide) (by rw [c_23]; decide) (by rw [c_23]; rfl) (by decide) ?_
              refine lv_aload_n hx hb dX3_on_115 rfl (lv_at hl 0 rfl) ?_
              refine va_get (D := D) (ci := 3) (v := .ref (q 8)) (C := RX3) (T := TX3) (N := 7) hx hb hts uX3_on_X3 hown hK hP 0 rfl rfl 1 (by decide) (hts _ kX3_on_4) (fun _ h9 => h9) rfl dX3_on_116 ?_
              refine va_get (D := D) (ci := 0) (v := .ref (q 12)) (C := RX0) (T := TX0) (N := 13) hx hb hts uX3_on_X0 hown hK hP 8 rfl rfl 10 (by decide) (hts _ kX3_on_5) (fun _ h9 => h9) rfl dX3_on_119 ?_
              refine lv_iload_n hx hb dX3_on_122 rfl (lv_at hl 1 rfl) ?_
              obtain ⟨z_24, h⟩ := q_grd_ok h
              refine va_iald hx hb hK hP 12 0 rfl rfl z_24 dX3_on_123 ?_
              have e9 := Option.some.inj h
              exact q_iret hx hb hr hlocks hK hP hD hS dX3_on_124 (by first | rw [← e9] | rfl) (by first | rw [← e9] | rfl)
            · have h := q_f c_23 h
              by_cases c_25 : p3 = 3
              · have h := q_t c_25 h
                refine lv_tableIn (tgt := 125) (off := 67) hx hb dX3_on_58 (by rw [c_25]; decide) (by rw [c_25]; decide) (by rw [c_25]; rfl) (by decide) ?_
                refine lv_aload_n hx hb dX3_on_125 rfl (lv_at hl 0 rfl) ?_
                refine va_get (D := D) (ci := 3) (v := .ref (q 8)) (C := RX3) (T := TX3) (N := 7) hx hb hts uX3_on_X3 hown hK hP 0 rfl rfl 1 (by decide) (hts _ kX3_on_4) (fun _ h9 => h9) rfl dX3_on_126 ?_
                refine lv_iload_n hx hb dX3_on_129 rfl (lv_at hl 1 rfl) ?_
                obtain ⟨r_26, hc_27, h⟩ := q_bd_ok h
                refine q_ci (r := r_26) (va_runV (As := [.int p1]) (rest := []) ⟨hx, hb, hml, hown, hts⟩ (c_X0_isLost l D y t (fun k => q (k + 8)) _ N T_15 p1 r_26 hc_27) (cwV 1 hts gX3_on_X0_isLost rfl rfl rfl eX0_isLost ⟨Nat.le_of_ble_eq_true rfl, Nat.le_of_ble_eq_true rfl⟩) ⟨q_blind, (va_recv hK hP (ci := 0) (q0 := 8) rfl rfl), (q_pre hP hK hZ hD hA hS [8, 9, 10, 11, 12, 13, 14] rfl (by decide))⟩ rfl rfl hl.1 rfl (lv_room (Nat.le_of_ble_eq_true rfl)) dX3_on_130 ⟨Nat.zero_le _, Nat.zero_le _⟩) hP hD hA hS [8, 9, 10, 11, 12, 13, 14] rfl (by decide) rfl (fun H locs hP hD hS => ?_)
                have hP : va_P D vwCl (wB y q b R T_15 K P B L) H := hP
                have hD : va_D A (wB y q b R T_15 K P B L) := hD
                refine lv_if_eq (tgt := 140) hx hb dX3_on_133 (by decide) (fun c_28 => ?_) (fun c_28 => ?_)
                · have h := q_t c_28 h
                  refine lv_iconst (v := 0) hx hb dX3_on_140 (by decide) ?_
                  have e9 := Option.some.inj h
                  exact q_iret hx hb hr hlocks hK hP hD hS dX3_on_141 (by first | rw [← e9] | rfl) (by first | rw [← e9] | rfl)
                · have h := q_f c_28 h
                  refine lv_iconst (v := 1) hx hb dX3_on_136 (by decide) ?_
                  refine lv_goto (tgt := 141) hx hb dX3_on_137 (by decide) ?_
                  have e9 := Option.some.inj h
                  exact q_iret hx hb hr hlocks hK hP hD hS dX3_on_141 (by first | rw [← e9] | rfl) (by first | rw [← e9] | rfl)
              · have h := q_f c_25 h
                have nc_17 := lv_neT c_17 (show ((0 : Int32)).toInt = 0 from by decide)
                have nc_19 := lv_neT c_19 (show ((1 : Int32)).toInt = 1 from by decide)
                have nc_23 := lv_neT c_23 (show ((2 : Int32)).toInt = 2 from by decide)
                have nc_25 := lv_neT c_25 (show ((3 : Int32)).toInt = 3 from by decide)
                refine lv_tableOut (tgt := 142) hx hb dX3_on_58 (by omega) (by decide) ?_
                refine lv_aload_n hx hb dX3_on_142 rfl (lv_at hl 0 rfl) ?_
                refine va_get (D := D) (ci := 3) (v := .ref (q 8)) (C := RX3) (T := TX3) (N := 7) hx hb hts uX3_on_X3 hown hK hP 0 rfl rfl 1 (by decide) (hts _ kX3_on_4) (fun _ h9 => h9) rfl dX3_on_143 ?_
                refine va_get (D := D) (ci := 0) (v := .ref (q 14)) (C := RX0) (T := TX0) (N := 13) hx hb hts uX3_on_X0 hown hK hP 8 rfl rfl 12 (by decide) (hts _ kX3_on_6) (fun _ h9 => h9) rfl dX3_on_146 ?_
                refine lv_iload_n hx hb dX3_on_149 rfl (lv_at hl 1 rfl) ?_
                obtain ⟨z_29, h⟩ := q_grd_ok h
                refine va_iald hx hb hK hP 14 0 rfl rfl z_29 dX3_on_150 ?_
                have e9 := Option.some.inj h
                exact q_iret hx hb hr hlocks hK hP hD hS dX3_on_151 (by first | rw [← e9] | rfl) (by first | rw [← e9] | rfl)
      · have h := q_t c_12 h
        exact B31 b R T K P B L _ _ _ hP hD hS (lv_sub hl [0] rfl) h
theorem eX3_on : yX3_on.cls = RX3 ∧ yX3_on.cls ≠ "java/lang/invoke/MethodHandle" ∧ yX3_on.cls ≠ "java/lang/invoke/VarHandle" ∧ (parseMethodDescriptor yX3_on.desc).map (fun d => d.parameters.length) = some 3 := by decide +kernel
theorem kX3_then_0 : Cond.constant RX3 58 (-1000000001) ∈ wsX3_then := List.mem_of_getElem? (i := 1) (by decide +kernel)
theorem uX3_then_X0 : ∀ w ∈ u_ws RX0 TX0 13, w ∈ wsX3_then := by decide +kernel
theorem kX3_then_2 : Cond.fieldLink RX3 69 "BeamSeats$Island" "lostSet" "I" ∈ wsX3_then := List.mem_of_getElem? (i := 5) (by decide +kernel)
theorem uX3_then_X3 : ∀ w ∈ u_ws RX3 TX3 7, w ∈ wsX3_then := by decide +kernel
theorem kX3_then_4 : Cond.fieldLink RX3 16 "BeamSeats" "trial" "LBeamSeats$Island;" ∈ wsX3_then := List.mem_of_getElem? (i := 2) (by decide +kernel)
theorem kX3_then_5 : Cond.fieldLink RX3 66 "BeamSeats$Island" "onSet" "I" ∈ wsX3_then := List.mem_of_getElem? (i := 4) (by decide +kernel)
theorem kX3_then_6 : Cond.fieldLink RX3 10 "BeamSeats" "real" "LBeamSeats$Island;" ∈ wsX3_then := List.mem_of_getElem? (i := 3) (by decide +kernel)
def f_X3_then_B20 (N : Nat) (b : Nat → Nat → Int32) (R : Nat → Nat → Int32) (T : Nat → Nat → Int32) (K : Nat → Nat → Int32) (P : Nat → Nat → Int32) (B : Nat → Nat → Int32) (L : Nat → Nat → Int64) : Option (Int32 × (Nat → Nat → Int32) × (Nat → Nat → Int32)) :=
  q_bd2 (f_X3_found N b R T K P B L (-1000000001 : Int32)) (fun r_4 b_5 =>
  some (r_4, b_5, T))
def f_X3_then_B67 (N : Nat) (b : Nat → Nat → Int32) (R : Nat → Nat → Int32) (T : Nat → Nat → Int32) (K : Nat → Nat → Int32) (P : Nat → Nat → Int32) (B : Nat → Nat → Int32) (L : Nat → Nat → Int64) (s0 : Int32) : Option (Int32 × (Nat → Nat → Int32) × (Nat → Nat → Int32)) :=
  q_bd (f_J6_bitCount_0f7a4 N s0) (fun r_15 =>
  some (r_15, b, T))
def f_X3_then (N : Nat) (b : Nat → Nat → Int32) (R : Nat → Nat → Int32) (T : Nat → Nat → Int32) (K : Nat → Nat → Int32) (P : Nat → Nat → Int32) (B : Nat → Nat → Int32) (L : Nat → Nat → Int64) (p1 : Int32) (p2 : Int32) : Option (Int32 × (Nat → Nat → Int32) × (Nat → Nat → Int32)) :=
  q_bd (f_X3_within N p1 (0 : Int32) (400 : Int32)) (fun r_1 =>
  if r_1 = 0 then
    f_X3_then_B20 N b R T K P B L
  else
    q_bd (f_X3_within N p2 (0 : Int32) (1 : Int32)) (fun r_7 =>
    if r_7 = 0 then
      f_X3_then_B20 N b R T K P B L
    else
      q_bd (f_X0_becomes N T R) (fun T_10 =>
      q_bd (f_X0_goSeconds N T_10 p1) (fun T_12 =>
      if p2 = 0 then
        f_X3_then_B67 N b R T_12 K P B L (T_12 0 5)
      else
        f_X3_then_B67 N b R T_12 K P B L (T_12 0 6)))))
set_option maxHeartbeats 4000000 in
set_option maxRecDepth 100000 in
theorem c_X3_then (l : Launch) (D : va_G) (y : Nat → ClassId) (t : Nat → Nat) (q : Nat → Nat) (sz N : Nat) (b : Nat → Nat → Int32) (R : Nat → Nat → Int32) (T : Nat → Nat → Int32) (K : Nat → Nat → Int32) (P : Nat → Nat → Int32) (B : Nat → Nat → Int32) (L : Nat → Nat → Int64) (p1 : Int32) (p2 : Int32) (res : Int32 × (Nat → Nat → Int32) × (Nat → Nat → Int32)) (h : f_X3_then N b R T K P B L p1 p2 = some res) : Met l yX3_then wsX3_then ({ frames := 5, cells := 0, slots := 0, locals := 113 } : Room) (pPre D y t [.ref (q 0), .int p1, .int p2] (wB y q b R T K P B L) sz) (pQi D y (res.1) (wB y q (res.2.1) R (res.2.2) K P B L) (va_A (wB y q b R T K P B L) sz)) 0 0 (va_A (wB y q b R T K P B L) sz) := by
  refine q_start (Qc := (fun A => pQi D y (res.1) (wB y q (res.2.1) R (res.2.2) K P B L) A)) (cc := cX3_then) (maxL := 3) (ret := (some .int)) (by decide) rfl (Nat.le_of_ble_eq_true rfl) ?_
  intro p e s m below meth c A ls hx hb hr hts hown hlocks hmn hml hP hK hZ hD hA hS hl
  have hl : lv_has ls 3 [(0, .ref (q 0)), (1, .int p1), (2, .int p2)] := hl
  have hown : s.vm.findClass RX3 = some m.cls := hown
  have B20 : ∀ (b : Nat → Nat → Int32) (R : Nat → Nat → Int32) (T : Nat → Nat → Int32) (K : Nat → Nat → Int32) (P : Nat → Nat → Int32) (B : Nat → Nat → Int32) (L : Nat → Nat → Int64) (H : Heap) (locs : List Loc) (ls : Array Slot), va_P D vwCl (wB y q b R T K P B L) H → va_D A (wB y q b R T K P B L) → va_S A s.heap H locs → lv_has ls 3 [(0, .ref (q 0))] → f_X3_then_B20 N b R T K P B L = some res → W p l e ({ frames := 5, cells := 0, slots := 0, locals := 113 } : Room) s m ([.ref (q 0), .int p1, .int p2] : List Value).toArray below meth c H locs 0 0 (MQ below (pQi D y (res.1) (wB y q (res.2.1) R (res.2.2) K P B L) A) ([.ref (q 0), .int p1, .int p2] : List Value).toArray s 0 0 A) (F0 m 20 ls []) := by
    intro b R T K P B L H locs ls hP hD hS hl h
    unfold f_X3_then_B20 at h
    refine lv_aload_n hx hb dX3_then_20 rfl (lv_at hl 0 rfl) ?_
    refine lv_ldc (v := -1000000001) hx hb hown (hts _ kX3_then_0) dX3_then_21 ?_
    obtain ⟨r_4, b_5, hc_6, h⟩ := q_bd2_ok h
    refine q_ci0 (r := r_4) (va_runV (As := [.int (-1000000001 : Int32)]) (rest := []) ⟨hx, hb, hml, hown, hts⟩ (c_X3_found l D y t q _ N b R T K P B L (-1000000001 : Int32) (r_4, b_5) hc_6) (cwV 1 hts gX3_then_X3_found rfl rfl rfl eX3_found ⟨Nat.le_of_ble_eq_true rfl, Nat.le_of_ble_eq_true rfl⟩) ⟨q_blind, (va_recv hK hP (ci := 3) (q0 := 0) rfl rfl), (q_pre0 hP hK hZ hD hA hS)⟩ rfl rfl hl.1 rfl (lv_room (Nat.le_of_ble_eq_true rfl)) dX3_then_23 ⟨Nat.zero_le _, Nat.zero_le _⟩) hD hA hS (fun H locs hP hD hS => ?_)
    have hP : va_P D vwCl (wB y q b_5 R T K P B L) H := hP
    have hD : va_D A (wB y q b_5 R T K P B L) := hD
    have e9 := Option.some.inj h
    exact q_iret hx hb hr hlocks hK hP hD hS dX3_then_26 (by first | rw [← e9] | rfl) (by first | rw [← e9] | rfl)
  have B67 : ∀ (b : Nat → Nat → Int32) (R : Nat → Nat → Int32) (T : Nat → Nat → Int32) (K : Nat → Nat → Int32) (P : Nat → Nat → Int32) (B : Nat → Nat → Int32) (L : Nat → Nat → Int64) (s0 : Int32) (H : Heap) (locs : List Loc) (ls : Array Slot), va_P D vwCl (wB y q b R T K P B L) H → va_D A (wB y q b R T K P B L) → va_S A s.heap H locs → lv_has ls 3 [] → f_X3_then_B67 N b R T K P B L s0 = some res → W p l e ({ frames := 5, cells := 0, slots := 0, locals := 113 } : Room) s m ([.ref (q 0), .int p1, .int p2] : List Value).toArray below meth c H locs 0 0 (MQ below (pQi D y (res.1) (wB y q (res.2.1) R (res.2.2) K P B L) A) ([.ref (q 0), .int p1, .int p2] : List Value).toArray s 0 0 A) (F0 m 67 ls [.int s0]) := by
    intro b R T K P B L s0 H locs ls hP hD hS hl h
    unfold f_X3_then_B67 at h
    obtain ⟨r_15, hc_16, h⟩ := q_bd_ok h
    refine q_ci (r := r_15) (va_runS (As := [.int s0]) (rest := []) ⟨hx, hb, hml, hown, hts⟩ (c_J6_bitCount_0f7a4 l D y t q _ N s0 r_15 hc_16) (va_cwS 1 hts gX3_then_J6_bitCount_0f7a4 rfl rfl rfl eJ6_bitCount_0f7a4 ⟨Nat.le_of_ble_eq_true rfl, Nat.le_of_ble_eq_true rfl⟩) ⟨q_blind, (q_pre hP hK hZ hD hA hS [] rfl (by decide))⟩ rfl rfl hl.1 rfl (lv_room (Nat.le_of_ble_eq_true rfl)) dX3_then_67 ⟨Nat.zero_le _, Nat.zero_le _⟩) hP hD hA hS [] rfl (by decide) rfl (fun H locs hP hD hS => ?_)
    have hP : va_P D vwCl (wB y q b R T K P B L) H := hP
    have hD : va_D A (wB y q b R T K P B L) := hD
    have e9 := Option.some.inj h
    exact q_iret hx hb hr hlocks hK hP hD hS dX3_then_70 (by first | rw [← e9] | rfl) (by first | rw [← e9] | rfl)
  unfold f_X3_then at h
  refine lv_iload_n hx hb dX3_then_0 rfl (lv_at hl 1 rfl) ?_
  refine lv_iconst (v := 0) hx hb dX3_then_1 (by decide) ?_
  refine lv_sipush (v := 400) hx hb dX3_then_2 (by decide) ?_
  obtain ⟨r_1, hc_2, h⟩ := q_bd_ok h
  refine q_ci (r := r_1) (va_runS (As := [.int p1, .int (0 : Int32), .int (400 : Int32)]) (rest := []) ⟨hx, hb, hml, hown, hts⟩ (c_X3_within l D y t q _ N p1 (0 : Int32) (400 : Int32) r_1 hc_2) (va_cwS 3 hts gX3_then_X3_within rfl rfl rfl eX3_within ⟨Nat.le_of_ble_eq_true rfl, Nat.le_of_ble_eq_true rfl⟩) ⟨q_blind, (q_pre hP hK hZ hD hA hS [] rfl (by decide))⟩ rfl rfl hl.1 rfl (lv_room (Nat.le_of_ble_eq_true rfl)) dX3_then_5 ⟨Nat.zero_le _, Nat.zero_le _⟩) hP hD hA hS [] rfl (by decide) rfl (fun H locs hP hD hS => ?_)
  have hP : va_P D vwCl (wB y q b R T K P B L) H := hP
  have hD : va_D A (wB y q b R T K P B L) := hD
  refine lv_if_eq (tgt := 20) hx hb dX3_then_8 (by decide) (fun c_3 => ?_) (fun c_3 => ?_)
  · have h := q_t c_3 h
    exact B20 b R T K P B L _ _ _ hP hD hS (lv_sub hl [0] rfl) h
  · have h := q_f c_3 h
    refine lv_iload_n hx hb dX3_then_11 rfl (lv_at hl 2 rfl) ?_
    refine lv_iconst (v := 0) hx hb dX3_then_12 (by decide) ?_
    refine lv_iconst (v := 1) hx hb dX3_then_13 (by decide) ?_
    obtain ⟨r_7, hc_8, h⟩ := q_bd_ok h
    refine q_ci (r := r_7) (va_runS (As := [.int p2, .int (0 : Int32), .int (1 : Int32)]) (rest := []) ⟨hx, hb, hml, hown, hts⟩ (c_X3_within l D y t q _ N p2 (0 : Int32) (1 : Int32) r_7 hc_8) (va_cwS 3 hts gX3_then_X3_within rfl rfl rfl eX3_within ⟨Nat.le_of_ble_eq_true rfl, Nat.le_of_ble_eq_true rfl⟩) ⟨q_blind, (q_pre hP hK hZ hD hA hS [] rfl (by decide))⟩ rfl rfl hl.1 rfl (lv_room (Nat.le_of_ble_eq_true rfl)) dX3_then_14 ⟨Nat.zero_le _, Nat.zero_le _⟩) hP hD hA hS [] rfl (by decide) rfl (fun H locs hP hD hS => ?_)
    have hP : va_P D vwCl (wB y q b R T K P B L) H := hP
    have hD : va_D A (wB y q b R T K P B L) := hD
    refine lv_if_ne (tgt := 27) hx hb dX3_then_17 (by decide) (fun c_9 => ?_) (fun c_9 => ?_)
    · have h := q_f c_9 h
      refine lv_aload_n hx hb dX3_then_27 rfl (lv_at hl 0 rfl) ?_
      refine va_get (D := D) (ci := 3) (v := .ref (q 8)) (C := RX3) (T := TX3) (N := 7) hx hb hts uX3_then_X3 hown hK hP 0 rfl rfl 1 (by decide) (hts _ kX3_then_4) (fun _ h9 => h9) rfl dX3_then_28 ?_
      refine lv_aload_n hx hb dX3_then_31 rfl (lv_at hl 0 rfl) ?_
      refine va_get (D := D) (ci := 3) (v := .ref (q 1)) (C := RX3) (T := TX3) (N := 7) hx hb hts uX3_then_X3 hown hK hP 0 rfl rfl 0 (by decide) (hts _ kX3_then_6) (fun _ h9 => h9) rfl dX3_then_32 ?_
      obtain ⟨T_10, hc_11, h⟩ := q_bd_ok h
      refine q_cv (va_runV (As := [.ref (q 1)]) (rest := []) ⟨hx, hb, hml, hown, hts⟩ (c_X0_becomes l D y t (fun k => if k < 7 then q (k + 8) else q (k - 7 + 1)) _ N T R T_10 hc_11) (cwV 1 hts gX3_then_X0_becomes rfl rfl rfl eX0_becomes ⟨Nat.le_of_ble_eq_true rfl, Nat.le_of_ble_eq_true rfl⟩) ⟨q_blind, (va_recv hK hP (ci := 0) (q0 := 8) rfl rfl), (q_pre hP hK hZ hD hA hS [8, 9, 10, 11, 12, 13, 14, 1, 2, 3, 4, 5, 6, 7] rfl (by decide))⟩ rfl rfl hl.1 rfl (lv_room (Nat.le_of_ble_eq_true rfl)) dX3_then_35 ⟨Nat.zero_le _, Nat.zero_le _⟩) hP hD hA hS [8, 9, 10, 11, 12, 13, 14, 1, 2, 3, 4, 5, 6, 7] rfl (by decide) rfl (fun H locs hP hD hS => ?_)
      have hP : va_P D vwCl (wB y q b R T_10 K P B L) H := hP
      have hD : va_D A (wB y q b R T_10 K P B L) := hD
      refine lv_aload_n hx hb dX3_then_38 rfl (lv_at hl 0 rfl) ?_
      refine va_get (D := D) (ci := 3) (v := .ref (q 8)) (C := RX3) (T := TX3) (N := 7) hx hb hts uX3_then_X3 hown hK hP 0 rfl rfl 1 (by decide) (hts _ kX3_then_4) (fun _ h9 => h9) rfl dX3_then_39 ?_
      refine lv_iload_n hx hb dX3_then_42 rfl (lv_at hl 1 rfl) ?_
      obtain ⟨T_12, hc_13, h⟩ := q_bd_ok h
      refine q_cv (va_runV (As := [.int p1]) (rest := []) ⟨hx, hb, hml, hown, hts⟩ (c_X0_goSeconds l D y t (fun k => q (k + 8)) _ N T_10 p1 T_12 hc_13) (cwV 1 hts gX3_then_X0_goSeconds rfl rfl rfl eX0_goSeconds ⟨Nat.le_of_ble_eq_true rfl, Nat.le_of_ble_eq_true rfl⟩) ⟨q_blind, (va_recv hK hP (ci := 0) (q0 := 8) rfl rfl), (q_pre hP hK hZ hD hA hS [8, 9, 10, 11, 12, 13, 14] rfl (by decide))⟩ rfl rfl hl.1 rfl (lv_room (Nat.le_of_ble_eq_true rfl)) dX3_then_43 ⟨Nat.zero_le _, Nat.zero_le _⟩) hP hD hA hS [8, 9, 10, 11, 12, 13, 14] rfl (by decide) rfl (fun H locs hP hD hS => ?_)
      have hP : va_P D vwCl (wB y q b R T_12 K P B L) H := hP
      have hD : va_D A (wB y q b R T_12 K P B L) := hD
      refine lv_iload_n hx hb dX3_then_46 rfl (lv_at hl 2 rfl) ?_
      refine lv_if_ne (tgt := 60) hx hb dX3_then_47 (by decide) (fun c_14 => ?_) (fun c_14 => ?_)
      · have h := q_f c_14 h
        refine lv_aload_n hx hb dX3_then_60 rfl (lv_at hl 0 rfl) ?_
        refine va_get (D := D) (ci := 3) (v := .ref (q 8)) (C := RX3) (T := TX3) (N := 7) hx hb hts uX3_then_X3 hown hK hP 0 rfl rfl 1 (by decide) (hts _ kX3_then_4) (fun _ h9 => h9) rfl dX3_then_61 ?_
        refine va_get (D := D) (ci := 0) (v := .int (T_12 0 6)) (C := RX0) (T := TX0) (N := 13) hx hb hts uX3_then_X0 hown hK hP 8 rfl rfl 6 (by decide) (hts _ kX3_then_2) (fun _ h9 => h9) rfl dX3_then_64 ?_
        exact B67 b R T_12 K P B L (T_12 0 6) _ _ _ hP hD hS (lv_sub hl [] rfl) h
      · have h := q_t c_14 h
        refine lv_aload_n hx hb dX3_then_50 rfl (lv_at hl 0 rfl) ?_
        refine va_get (D := D) (ci := 3) (v := .ref (q 8)) (C := RX3) (T := TX3) (N := 7) hx hb hts uX3_then_X3 hown hK hP 0 rfl rfl 1 (by decide) (hts _ kX3_then_4) (fun _ h9 => h9) rfl dX3_then_51 ?_
        refine va_get (D := D) (ci := 0) (v := .int (T_12 0 5)) (C := RX0) (T := TX0) (N := 13) hx hb hts uX3_then_X0 hown hK hP 8 rfl rfl 5 (by decide) (hts _ kX3_then_5) (fun _ h9 => h9) rfl dX3_then_54 ?_
        refine lv_goto (tgt := 67) hx hb dX3_then_57 (by decide) ?_
        exact B67 b R T_12 K P B L (T_12 0 5) _ _ _ hP hD hS (lv_sub hl [] rfl) h
    · have h := q_t c_9 h
      exact B20 b R T K P B L _ _ _ hP hD hS (lv_sub hl [0] rfl) h
theorem eX3_then : yX3_then.cls = RX3 ∧ yX3_then.cls ≠ "java/lang/invoke/MethodHandle" ∧ yX3_then.cls ≠ "java/lang/invoke/VarHandle" ∧ (parseMethodDescriptor yX3_then.desc).map (fun d => d.parameters.length) = some 2 := by decide +kernel
theorem kX3_secondsUntil_0 : Cond.constant RX3 167 (-1000000004) ∈ wsX3_secondsUntil := List.mem_of_getElem? (i := 2) (by decide +kernel)
theorem uX3_secondsUntil_X3 : ∀ w ∈ u_ws RX3 TX3 7, w ∈ wsX3_secondsUntil := by decide +kernel
theorem kX3_secondsUntil_2 : Cond.fieldLink RX3 16 "BeamSeats" "trial" "LBeamSeats$Island;" ∈ wsX3_secondsUntil := List.mem_of_getElem? (i := 1) (by decide +kernel)
def f_X3_secondsUntil_L3 (N : Nat) (b : Nat → Nat → Int32) (R : Nat → Nat → Int32) (K : Nat → Nat → Int32) (P : Nat → Nat → Int32) (B : Nat → Nat → Int32) (L : Nat → Nat → Int64) (v1 : Int32) (v2 : Int32) (v3 : Int32) : Nat → Int32 → (Nat → Nat → Int32) → Option (Int32 × (Nat → Nat → Int32))
  | 0, _, _ => none
  | k + 1, v4, T =>
    if v3 < v4 then
      some ((-1000000004 : Int32), T)
    else
      q_bd (f_X0_isSo N T v1 v2) (fun r_5 =>
      if r_5 = 0 then
        q_bd (f_X0_goSeconds N T (1 : Int32)) (fun T_8 =>
        q_let (v4 + 1) (fun x_10 =>
        f_X3_secondsUntil_L3 N b R K P B L v1 v2 v3 k x_10 T_8))
      else
        some (v4, T))
def f_X3_secondsUntil (N : Nat) (b : Nat → Nat → Int32) (R : Nat → Nat → Int32) (T : Nat → Nat → Int32) (K : Nat → Nat → Int32) (P : Nat → Nat → Int32) (B : Nat → Nat → Int32) (L : Nat → Nat → Int64) (p1 : Int32) (p2 : Int32) (p3 : Int32) : Option (Int32 × (Nat → Nat → Int32)) :=
  f_X3_secondsUntil_L3 N b R K P B L p1 p2 p3 N (0 : Int32) T
set_option maxHeartbeats 4000000 in
set_option maxRecDepth 100000 in
theorem c_X3_secondsUntil (l : Launch) (D : va_G) (y : Nat → ClassId) (t : Nat → Nat) (q : Nat → Nat) (sz N : Nat) (b : Nat → Nat → Int32) (R : Nat → Nat → Int32) (T : Nat → Nat → Int32) (K : Nat → Nat → Int32) (P : Nat → Nat → Int32) (B : Nat → Nat → Int32) (L : Nat → Nat → Int64) (p1 : Int32) (p2 : Int32) (p3 : Int32) (res : Int32 × (Nat → Nat → Int32)) (h : f_X3_secondsUntil N b R T K P B L p1 p2 p3 = some res) : Met l yX3_secondsUntil wsX3_secondsUntil ({ frames := 5, cells := 0, slots := 0, locals := 113 } : Room) (pPre D y t [.ref (q 0), .int p1, .int p2, .int p3] (wB y q b R T K P B L) sz) (pQi D y (res.1) (wB y q b R (res.2) K P B L) (va_A (wB y q b R T K P B L) sz)) 0 0 (va_A (wB y q b R T K P B L) sz) := by
  refine q_start (Qc := (fun A => pQi D y (res.1) (wB y q b R (res.2) K P B L) A)) (cc := cX3_secondsUntil) (maxL := 5) (ret := (some .int)) (by decide) rfl (Nat.le_of_ble_eq_true rfl) ?_
  intro p e s m below meth c A ls hx hb hr hts hown hlocks hmn hml hP hK hZ hD hA hS hl
  have hl : lv_has ls 5 [(0, .ref (q 0)), (1, .int p1), (2, .int p2), (3, .int p3)] := hl
  have hown : s.vm.findClass RX3 = some m.cls := hown
  unfold f_X3_secondsUntil at h
  refine lv_iconst (v := 0) hx hb dX3_secondsUntil_0 (by decide) ?_
  refine lv_istore (lv' := [(4, .int (0 : Int32)), (0, .ref (q 0)), (1, .int p1), (2, .int p2), (3, .int p3)]) hx hb dX3_secondsUntil_1 hl (by decide) rfl (fun ls hl => ?_)
  have L3_1 : ∀ (b : Nat → Nat → Int32) (R : Nat → Nat → Int32) (K : Nat → Nat → Int32) (P : Nat → Nat → Int32) (B : Nat → Nat → Int32) (L : Nat → Nat → Int64) (v1 : Int32) (v2 : Int32) (v3 : Int32) (k : Nat) (v4 : Int32) (T : Nat → Nat → Int32), ∀ (H : Heap) (locs : List Loc) (ls : Array Slot), va_P D vwCl (wB y q b R T K P B L) H → va_D A (wB y q b R T K P B L) → va_S A s.heap H locs → lv_has ls 5 [(0, .ref (q 0)), (1, .int v1), (2, .int v2), (3, .int v3), (4, .int v4)] → f_X3_secondsUntil_L3 N b R K P B L v1 v2 v3 k v4 T = some res → W p l e ({ frames := 5, cells := 0, slots := 0, locals := 113 } : Room) s m ([.ref (q 0), .int p1, .int p2, .int p3] : List Value).toArray below meth c H locs 0 0 (MQ below (pQi D y (res.1) (wB y q b R (res.2) K P B L) A) ([.ref (q 0), .int p1, .int p2, .int p3] : List Value).toArray s 0 0 A) (F0 m 3 ls []) := by
    intro b R K P B L v1 v2 v3 k
    induction k with
    | zero =>
      intro v4 T H locs ls hP hD hS hl h
      have h : (none : Option (Int32 × (Nat → Nat → Int32))) = some _ := h
      cases h
    | succ k ih3_1 =>
      intro v4 T H locs ls hP hD hS hl h
      rw [f_X3_secondsUntil_L3] at h
      refine lv_iload hx hb dX3_secondsUntil_3 (lv_at hl 4 rfl) ?_
      refine lv_iload_n hx hb dX3_secondsUntil_5 rfl (lv_at hl 3 rfl) ?_
      refine lv_icmp_gt (tgt := 38) hx hb dX3_secondsUntil_6 (by decide) (fun c_4 => ?_) (fun c_4 => ?_)
      · have h := q_t c_4 h
        refine lv_ldc (v := -1000000004) hx hb hown (hts _ kX3_secondsUntil_0) dX3_secondsUntil_38 ?_
        have e9 := Option.some.inj h
        exact q_iret hx hb hr hlocks hK hP hD hS dX3_secondsUntil_40 (by first | rw [← e9] | rfl) (by first | rw [← e9] | rfl)
      · have h := q_f c_4 h
        refine lv_aload_n hx hb dX3_secondsUntil_9 rfl (lv_at hl 0 rfl) ?_
        refine va_get (D := D) (ci := 3) (v := .ref (q 8)) (C := RX3) (T := TX3) (N := 7) hx hb hts uX3_secondsUntil_X3 hown hK hP 0 rfl rfl 1 (by decide) (hts _ kX3_secondsUntil_2) (fun _ h9 => h9) rfl dX3_secondsUntil_10 ?_
        refine lv_iload_n hx hb dX3_secondsUntil_13 rfl (lv_at hl 1 rfl) ?_
        refine lv_iload_n hx hb dX3_secondsUntil_14 rfl (lv_at hl 2 rfl) ?_
        obtain ⟨r_5, hc_6, h⟩ := q_bd_ok h
        refine q_ci (r := r_5) (va_runV (As := [.int v1, .int v2]) (rest := []) ⟨hx, hb, hml, hown, hts⟩ (c_X0_isSo l D y t (fun k => q (k + 8)) _ N T v1 v2 r_5 hc_6) (cwV 2 hts gX3_secondsUntil_X0_isSo rfl rfl rfl eX0_isSo ⟨Nat.le_of_ble_eq_true rfl, Nat.le_of_ble_eq_true rfl⟩) ⟨q_blind, (va_recv hK hP (ci := 0) (q0 := 8) rfl rfl), (q_pre hP hK hZ hD hA hS [8, 9, 10, 11, 12, 13, 14] rfl (by decide))⟩ rfl rfl hl.1 rfl (lv_room (Nat.le_of_ble_eq_true rfl)) dX3_secondsUntil_15 ⟨Nat.zero_le _, Nat.zero_le _⟩) hP hD hA hS [8, 9, 10, 11, 12, 13, 14] rfl (by decide) rfl (fun H locs hP hD hS => ?_)
        have hP : va_P D vwCl (wB y q b R T K P B L) H := hP
        have hD : va_D A (wB y q b R T K P B L) := hD
        refine lv_if_eq (tgt := 24) hx hb dX3_secondsUntil_18 (by decide) (fun c_7 => ?_) (fun c_7 => ?_)
        · have h := q_t c_7 h
          refine lv_aload_n hx hb dX3_secondsUntil_24 rfl (lv_at hl 0 rfl) ?_
          refine va_get (D := D) (ci := 3) (v := .ref (q 8)) (C := RX3) (T := TX3) (N := 7) hx hb hts uX3_secondsUntil_X3 hown hK hP 0 rfl rfl 1 (by decide) (hts _ kX3_secondsUntil_2) (fun _ h9 => h9) rfl dX3_secondsUntil_25 ?_
          refine lv_iconst (v := 1) hx hb dX3_secondsUntil_28 (by decide) ?_
          obtain ⟨T_8, hc_9, h⟩ := q_bd_ok h
          refine q_cv (va_runV (As := [.int (1 : Int32)]) (rest := []) ⟨hx, hb, hml, hown, hts⟩ (c_X0_goSeconds l D y t (fun k => q (k + 8)) _ N T (1 : Int32) T_8 hc_9) (cwV 1 hts gX3_secondsUntil_X0_goSeconds rfl rfl rfl eX0_goSeconds ⟨Nat.le_of_ble_eq_true rfl, Nat.le_of_ble_eq_true rfl⟩) ⟨q_blind, (va_recv hK hP (ci := 0) (q0 := 8) rfl rfl), (q_pre hP hK hZ hD hA hS [8, 9, 10, 11, 12, 13, 14] rfl (by decide))⟩ rfl rfl hl.1 rfl (lv_room (Nat.le_of_ble_eq_true rfl)) dX3_secondsUntil_29 ⟨Nat.zero_le _, Nat.zero_le _⟩) hP hD hA hS [8, 9, 10, 11, 12, 13, 14] rfl (by decide) rfl (fun H locs hP hD hS => ?_)
          have hP : va_P D vwCl (wB y q b R T_8 K P B L) H := hP
          have hD : va_D A (wB y q b R T_8 K P B L) := hD
          obtain ⟨x_10, ex_10, h⟩ := q_let_ok h
          refine lv_iinc (v := x_10) (lv' := [(4, .int x_10), (0, .ref (q 0)), (1, .int v1), (2, .int v2), (3, .int v3)]) hx hb dX3_secondsUntil_32 hl (k := 4) rfl (by rw [ex_10]; rfl) (by decide) rfl (fun ls hl => ?_)
          refine lv_goto (tgt := 3) hx hb dX3_secondsUntil_35 (by decide) ?_
          exact ih3_1 x_10 T_8 _ _ _ hP hD hS (lv_sub hl [1, 2, 3, 4, 0] rfl) h
        · have h := q_f c_7 h
          refine lv_iload hx hb dX3_secondsUntil_21 (lv_at hl 4 rfl) ?_
          have e9 := Option.some.inj h
          exact q_iret hx hb hr hlocks hK hP hD hS dX3_secondsUntil_23 (by first | rw [← e9] | rfl) (by first | rw [← e9] | rfl)
  exact L3_1 b R K P B L p1 p2 p3 N (0 : Int32) T _ _ _ hP hD hS (lv_sub hl [1, 2, 3, 4, 0] rfl) h
theorem eX3_secondsUntil : yX3_secondsUntil.cls = RX3 ∧ yX3_secondsUntil.cls ≠ "java/lang/invoke/MethodHandle" ∧ yX3_secondsUntil.cls ≠ "java/lang/invoke/VarHandle" ∧ (parseMethodDescriptor yX3_secondsUntil.desc).map (fun d => d.parameters.length) = some 3 := by decide +kernel
theorem kX3_orNone_0 : Cond.constant RX3 167 (-1000000004) ∈ wsX3_orNone := List.mem_of_getElem? (i := 1) (by decide +kernel)
def f_X3_orNone (N : Nat) (b : Nat → Nat → Int32) (R : Nat → Nat → Int32) (T : Nat → Nat → Int32) (K : Nat → Nat → Int32) (P : Nat → Nat → Int32) (B : Nat → Nat → Int32) (L : Nat → Nat → Int64) (p1 : Int32) : Option (Int32 × (Nat → Nat → Int32)) :=
  if p1 = (-1000000004 : Int32) then
    q_bd2 (f_X3_found N b R T K P B L (-1000000004 : Int32)) (fun r_2 b_3 =>
    some (r_2, b_3))
  else
    some (p1, b)
set_option maxHeartbeats 4000000 in
set_option maxRecDepth 100000 in
theorem c_X3_orNone (l : Launch) (D : va_G) (y : Nat → ClassId) (t : Nat → Nat) (q : Nat → Nat) (sz N : Nat) (b : Nat → Nat → Int32) (R : Nat → Nat → Int32) (T : Nat → Nat → Int32) (K : Nat → Nat → Int32) (P : Nat → Nat → Int32) (B : Nat → Nat → Int32) (L : Nat → Nat → Int64) (p1 : Int32) (res : Int32 × (Nat → Nat → Int32)) (h : f_X3_orNone N b R T K P B L p1 = some res) : Met l yX3_orNone wsX3_orNone ({ frames := 2, cells := 0, slots := 0, locals := 44 } : Room) (pPre D y t [.ref (q 0), .int p1] (wB y q b R T K P B L) sz) (pQi D y (res.1) (wB y q (res.2) R T K P B L) (va_A (wB y q b R T K P B L) sz)) 0 0 (va_A (wB y q b R T K P B L) sz) := by
  refine q_start (Qc := (fun A => pQi D y (res.1) (wB y q (res.2) R T K P B L) A)) (cc := cX3_orNone) (maxL := 2) (ret := (some .int)) (by decide) rfl (Nat.le_of_ble_eq_true rfl) ?_
  intro p e s m below meth c A ls hx hb hr hts hown hlocks hmn hml hP hK hZ hD hA hS hl
  have hl : lv_has ls 2 [(0, .ref (q 0)), (1, .int p1)] := hl
  have hown : s.vm.findClass RX3 = some m.cls := hown
  unfold f_X3_orNone at h
  refine lv_iload_n hx hb dX3_orNone_0 rfl (lv_at hl 1 rfl) ?_
  refine lv_ldc (v := -1000000004) hx hb hown (hts _ kX3_orNone_0) dX3_orNone_1 ?_
  refine lv_icmp_ne (tgt := 15) hx hb dX3_orNone_3 (by decide) (fun c_1 => ?_) (fun c_1 => ?_)
  · have h := q_f c_1 h
    refine lv_iload_n hx hb dX3_orNone_15 rfl (lv_at hl 1 rfl) ?_
    have e9 := Option.some.inj h
    exact q_iret hx hb hr hlocks hK hP hD hS dX3_orNone_16 (by first | rw [← e9] | rfl) (by first | rw [← e9] | rfl)
  · have h := q_t c_1 h
    refine lv_aload_n hx hb dX3_orNone_6 rfl (lv_at hl 0 rfl) ?_
    refine lv_ldc (v := -1000000004) hx hb hown (hts _ kX3_orNone_0) dX3_orNone_7 ?_
    obtain ⟨r_2, b_3, hc_4, h⟩ := q_bd2_ok h
    refine q_ci0 (r := r_2) (va_runV (As := [.int (-1000000004 : Int32)]) (rest := []) ⟨hx, hb, hml, hown, hts⟩ (c_X3_found l D y t q _ N b R T K P B L (-1000000004 : Int32) (r_2, b_3) hc_4) (cwV 1 hts gX3_orNone_X3_found rfl rfl rfl eX3_found ⟨Nat.le_of_ble_eq_true rfl, Nat.le_of_ble_eq_true rfl⟩) ⟨q_blind, (va_recv hK hP (ci := 3) (q0 := 0) rfl rfl), (q_pre0 hP hK hZ hD hA hS)⟩ rfl rfl hl.1 rfl (lv_room (Nat.le_of_ble_eq_true rfl)) dX3_orNone_9 ⟨Nat.zero_le _, Nat.zero_le _⟩) hD hA hS (fun H locs hP hD hS => ?_)
    have hP : va_P D vwCl (wB y q b_3 R T K P B L) H := hP
    have hD : va_D A (wB y q b_3 R T K P B L) := hD
    refine lv_goto (tgt := 16) hx hb dX3_orNone_12 (by decide) ?_
    have e9 := Option.some.inj h
    exact q_iret hx hb hr hlocks hK hP hD hS dX3_orNone_16 (by first | rw [← e9] | rfl) (by first | rw [← e9] | rfl)
theorem eX3_orNone : yX3_orNone.cls = RX3 ∧ yX3_orNone.cls ≠ "java/lang/invoke/MethodHandle" ∧ yX3_orNone.cls ≠ "java/lang/invoke/VarHandle" ∧ (parseMethodDescriptor yX3_orNone.desc).map (fun d => d.parameters.length) = some 1 := by decide +kernel
theorem uX3_gets_X3 : ∀ w ∈ u_ws RX3 TX3 7, w ∈ wsX3_gets := by decide +kernel
theorem kX3_gets_1 : Cond.fieldLink RX3 10 "BeamSeats" "real" "LBeamSeats$Island;" ∈ wsX3_gets := List.mem_of_getElem? (i := 1) (by decide +kernel)
theorem kX3_gets_2 : Cond.fieldLink RX3 16 "BeamSeats" "trial" "LBeamSeats$Island;" ∈ wsX3_gets := List.mem_of_getElem? (i := 3) (by decide +kernel)
theorem kX3_gets_3 : Cond.constant RX3 58 (-1000000001) ∈ wsX3_gets := List.mem_of_getElem? (i := 2) (by decide +kernel)
def f_X3_gets (N : Nat) (b : Nat → Nat → Int32) (R : Nat → Nat → Int32) (T : Nat → Nat → Int32) (K : Nat → Nat → Int32) (P : Nat → Nat → Int32) (B : Nat → Nat → Int32) (L : Nat → Nat → Int64) (p1 : Int32) : Option (Int32 × (Nat → Nat → Int32) × (Nat → Nat → Int32)) :=
  q_bd (f_X0_has N R p1) (fun r_1 =>
  if r_1 = 0 then
    q_bd2 (f_X3_found N b R T K P B L (-1000000001 : Int32)) (fun r_12 b_13 =>
    some (r_12, b_13, T))
  else
    q_bd (f_X0_becomes N T R) (fun T_4 =>
    q_bd2 (f_X3_secondsUntil N b R T_4 K P B L p1 (0 : Int32) (400 : Int32)) (fun r_6 T_7 =>
    q_bd2 (f_X3_orNone N b R T_7 K P B L r_6) (fun r_9 b_10 =>
    some (r_9, b_10, T_7)))))
set_option maxHeartbeats 4000000 in
set_option maxRecDepth 100000 in
theorem c_X3_gets (l : Launch) (D : va_G) (y : Nat → ClassId) (t : Nat → Nat) (q : Nat → Nat) (sz N : Nat) (b : Nat → Nat → Int32) (R : Nat → Nat → Int32) (T : Nat → Nat → Int32) (K : Nat → Nat → Int32) (P : Nat → Nat → Int32) (B : Nat → Nat → Int32) (L : Nat → Nat → Int64) (p1 : Int32) (res : Int32 × (Nat → Nat → Int32) × (Nat → Nat → Int32)) (h : f_X3_gets N b R T K P B L p1 = some res) : Met l yX3_gets wsX3_gets ({ frames := 6, cells := 0, slots := 0, locals := 137 } : Room) (pPre D y t [.ref (q 0), .int p1] (wB y q b R T K P B L) sz) (pQi D y (res.1) (wB y q (res.2.1) R (res.2.2) K P B L) (va_A (wB y q b R T K P B L) sz)) 0 0 (va_A (wB y q b R T K P B L) sz) := by
  refine q_start (Qc := (fun A => pQi D y (res.1) (wB y q (res.2.1) R (res.2.2) K P B L) A)) (cc := cX3_gets) (maxL := 2) (ret := (some .int)) (by decide) rfl (Nat.le_of_ble_eq_true rfl) ?_
  intro p e s m below meth c A ls hx hb hr hts hown hlocks hmn hml hP hK hZ hD hA hS hl
  have hl : lv_has ls 2 [(0, .ref (q 0)), (1, .int p1)] := hl
  have hown : s.vm.findClass RX3 = some m.cls := hown
  unfold f_X3_gets at h
  refine lv_aload_n hx hb dX3_gets_0 rfl (lv_at hl 0 rfl) ?_
  refine va_get (D := D) (ci := 3) (v := .ref (q 1)) (C := RX3) (T := TX3) (N := 7) hx hb hts uX3_gets_X3 hown hK hP 0 rfl rfl 0 (by decide) (hts _ kX3_gets_1) (fun _ h9 => h9) rfl dX3_gets_1 ?_
  refine lv_iload_n hx hb dX3_gets_4 rfl (lv_at hl 1 rfl) ?_
  obtain ⟨r_1, hc_2, h⟩ := q_bd_ok h
  refine q_ci (r := r_1) (va_runV (As := [.int p1]) (rest := []) ⟨hx, hb, hml, hown, hts⟩ (c_X0_has l D y t (fun k => q (k + 1)) _ N R p1 r_1 hc_2) (cwV 1 hts gX3_gets_X0_has rfl rfl rfl eX0_has ⟨Nat.le_of_ble_eq_true rfl, Nat.le_of_ble_eq_true rfl⟩) ⟨q_blind, (va_recv hK hP (ci := 0) (q0 := 1) rfl rfl), (q_pre hP hK hZ hD hA hS [1, 2, 3, 4, 5, 6, 7] rfl (by decide))⟩ rfl rfl hl.1 rfl (lv_room (Nat.le_of_ble_eq_true rfl)) dX3_gets_5 ⟨Nat.zero_le _, Nat.zero_le _⟩) hP hD hA hS [1, 2, 3, 4, 5, 6, 7] rfl (by decide) rfl (fun H locs hP hD hS => ?_)
  have hP : va_P D vwCl (wB y q b R T K P B L) H := hP
  have hD : va_D A (wB y q b R T K P B L) := hD
  refine lv_if_ne (tgt := 18) hx hb dX3_gets_8 (by decide) (fun c_3 => ?_) (fun c_3 => ?_)
  · have h := q_f c_3 h
    refine lv_aload_n hx hb dX3_gets_18 rfl (lv_at hl 0 rfl) ?_
    refine va_get (D := D) (ci := 3) (v := .ref (q 8)) (C := RX3) (T := TX3) (N := 7) hx hb hts uX3_gets_X3 hown hK hP 0 rfl rfl 1 (by decide) (hts _ kX3_gets_2) (fun _ h9 => h9) rfl dX3_gets_19 ?_
    refine lv_aload_n hx hb dX3_gets_22 rfl (lv_at hl 0 rfl) ?_
    refine va_get (D := D) (ci := 3) (v := .ref (q 1)) (C := RX3) (T := TX3) (N := 7) hx hb hts uX3_gets_X3 hown hK hP 0 rfl rfl 0 (by decide) (hts _ kX3_gets_1) (fun _ h9 => h9) rfl dX3_gets_23 ?_
    obtain ⟨T_4, hc_5, h⟩ := q_bd_ok h
    refine q_cv (va_runV (As := [.ref (q 1)]) (rest := []) ⟨hx, hb, hml, hown, hts⟩ (c_X0_becomes l D y t (fun k => if k < 7 then q (k + 8) else q (k - 7 + 1)) _ N T R T_4 hc_5) (cwV 1 hts gX3_gets_X0_becomes rfl rfl rfl eX0_becomes ⟨Nat.le_of_ble_eq_true rfl, Nat.le_of_ble_eq_true rfl⟩) ⟨q_blind, (va_recv hK hP (ci := 0) (q0 := 8) rfl rfl), (q_pre hP hK hZ hD hA hS [8, 9, 10, 11, 12, 13, 14, 1, 2, 3, 4, 5, 6, 7] rfl (by decide))⟩ rfl rfl hl.1 rfl (lv_room (Nat.le_of_ble_eq_true rfl)) dX3_gets_26 ⟨Nat.zero_le _, Nat.zero_le _⟩) hP hD hA hS [8, 9, 10, 11, 12, 13, 14, 1, 2, 3, 4, 5, 6, 7] rfl (by decide) rfl (fun H locs hP hD hS => ?_)
    have hP : va_P D vwCl (wB y q b R T_4 K P B L) H := hP
    have hD : va_D A (wB y q b R T_4 K P B L) := hD
    refine lv_aload_n hx hb dX3_gets_29 rfl (lv_at hl 0 rfl) ?_
    refine lv_aload_n hx hb dX3_gets_30 rfl (lv_at hl 0 rfl) ?_
    refine lv_iload_n hx hb dX3_gets_31 rfl (lv_at hl 1 rfl) ?_
    refine lv_iconst (v := 0) hx hb dX3_gets_32 (by decide) ?_
    refine lv_sipush (v := 400) hx hb dX3_gets_33 (by decide) ?_
    obtain ⟨r_6, T_7, hc_8, h⟩ := q_bd2_ok h
    refine q_ci0 (r := r_6) (va_runV (As := [.int p1, .int (0 : Int32), .int (400 : Int32)]) (rest := [.ref (q 0)]) ⟨hx, hb, hml, hown, hts⟩ (c_X3_secondsUntil l D y t q _ N b R T_4 K P B L p1 (0 : Int32) (400 : Int32) (r_6, T_7) hc_8) (cwV 3 hts gX3_gets_X3_secondsUntil rfl rfl rfl eX3_secondsUntil ⟨Nat.le_of_ble_eq_true rfl, Nat.le_of_ble_eq_true rfl⟩) ⟨q_blind, (va_recv hK hP (ci := 3) (q0 := 0) rfl rfl), (q_pre0 hP hK hZ hD hA hS)⟩ rfl rfl hl.1 rfl (lv_room (Nat.le_of_ble_eq_true rfl)) dX3_gets_36 ⟨Nat.zero_le _, Nat.zero_le _⟩) hD hA hS (fun H locs hP hD hS => ?_)
    have hP : va_P D vwCl (wB y q b R T_7 K P B L) H := hP
    have hD : va_D A (wB y q b R T_7 K P B L) := hD
    obtain ⟨r_9, b_10, hc_11, h⟩ := q_bd2_ok h
    refine q_ci0 (r := r_9) (va_runV (As := [.int r_6]) (rest := []) ⟨hx, hb, hml, hown, hts⟩ (c_X3_orNone l D y t q _ N b R T_7 K P B L r_6 (r_9, b_10) hc_11) (cwV 1 hts gX3_gets_X3_orNone rfl rfl rfl eX3_orNone ⟨Nat.le_of_ble_eq_true rfl, Nat.le_of_ble_eq_true rfl⟩) ⟨q_blind, (va_recv hK hP (ci := 3) (q0 := 0) rfl rfl), (q_pre0 hP hK hZ hD hA hS)⟩ rfl rfl hl.1 rfl (lv_room (Nat.le_of_ble_eq_true rfl)) dX3_gets_39 ⟨Nat.zero_le _, Nat.zero_le _⟩) hD hA hS (fun H locs hP hD hS => ?_)
    have hP : va_P D vwCl (wB y q b_10 R T_7 K P B L) H := hP
    have hD : va_D A (wB y q b_10 R T_7 K P B L) := hD
    have e9 := Option.some.inj h
    exact q_iret hx hb hr hlocks hK hP hD hS dX3_gets_42 (by first | rw [← e9] | rfl) (by first | rw [← e9] | rfl)
  · have h := q_t c_3 h
    refine lv_aload_n hx hb dX3_gets_11 rfl (lv_at hl 0 rfl) ?_
    refine lv_ldc (v := -1000000001) hx hb hown (hts _ kX3_gets_3) dX3_gets_12 ?_
    obtain ⟨r_12, b_13, hc_14, h⟩ := q_bd2_ok h
    refine q_ci0 (r := r_12) (va_runV (As := [.int (-1000000001 : Int32)]) (rest := []) ⟨hx, hb, hml, hown, hts⟩ (c_X3_found l D y t q _ N b R T K P B L (-1000000001 : Int32) (r_12, b_13) hc_14) (cwV 1 hts gX3_gets_X3_found rfl rfl rfl eX3_found ⟨Nat.le_of_ble_eq_true rfl, Nat.le_of_ble_eq_true rfl⟩) ⟨q_blind, (va_recv hK hP (ci := 3) (q0 := 0) rfl rfl), (q_pre0 hP hK hZ hD hA hS)⟩ rfl rfl hl.1 rfl (lv_room (Nat.le_of_ble_eq_true rfl)) dX3_gets_14 ⟨Nat.zero_le _, Nat.zero_le _⟩) hD hA hS (fun H locs hP hD hS => ?_)
    have hP : va_P D vwCl (wB y q b_13 R T K P B L) H := hP
    have hD : va_D A (wB y q b_13 R T K P B L) := hD
    have e9 := Option.some.inj h
    exact q_iret hx hb hr hlocks hK hP hD hS dX3_gets_17 (by first | rw [← e9] | rfl) (by first | rw [← e9] | rfl)
theorem eX3_gets : yX3_gets.cls = RX3 ∧ yX3_gets.cls ≠ "java/lang/invoke/MethodHandle" ∧ yX3_gets.cls ≠ "java/lang/invoke/VarHandle" ∧ (parseMethodDescriptor yX3_gets.desc).map (fun d => d.parameters.length) = some 1 := by decide +kernel
theorem uX3_dry_X3 : ∀ w ∈ u_ws RX3 TX3 7, w ∈ wsX3_dry := by decide +kernel
theorem kX3_dry_1 : Cond.fieldLink RX3 10 "BeamSeats" "real" "LBeamSeats$Island;" ∈ wsX3_dry := List.mem_of_getElem? (i := 1) (by decide +kernel)
theorem kX3_dry_2 : Cond.fieldLink RX3 16 "BeamSeats" "trial" "LBeamSeats$Island;" ∈ wsX3_dry := List.mem_of_getElem? (i := 3) (by decide +kernel)
theorem kX3_dry_3 : Cond.constant RX3 58 (-1000000001) ∈ wsX3_dry := List.mem_of_getElem? (i := 2) (by decide +kernel)
def f_X3_dry (N : Nat) (b : Nat → Nat → Int32) (R : Nat → Nat → Int32) (T : Nat → Nat → Int32) (K : Nat → Nat → Int32) (P : Nat → Nat → Int32) (B : Nat → Nat → Int32) (L : Nat → Nat → Int64) (p1 : Int32) : Option (Int32 × (Nat → Nat → Int32) × (Nat → Nat → Int32)) :=
  q_bd (f_X0_has N R p1) (fun r_1 =>
  if r_1 = 0 then
    q_bd2 (f_X3_found N b R T K P B L (-1000000001 : Int32)) (fun r_12 b_13 =>
    some (r_12, b_13, T))
  else
    q_bd (f_X0_becomes N T R) (fun T_4 =>
    q_bd2 (f_X3_secondsUntil N b R T_4 K P B L p1 (1 : Int32) (400 : Int32)) (fun r_6 T_7 =>
    q_bd2 (f_X3_orNone N b R T_7 K P B L r_6) (fun r_9 b_10 =>
    some (r_9, b_10, T_7)))))
set_option maxHeartbeats 4000000 in
set_option maxRecDepth 100000 in
theorem c_X3_dry (l : Launch) (D : va_G) (y : Nat → ClassId) (t : Nat → Nat) (q : Nat → Nat) (sz N : Nat) (b : Nat → Nat → Int32) (R : Nat → Nat → Int32) (T : Nat → Nat → Int32) (K : Nat → Nat → Int32) (P : Nat → Nat → Int32) (B : Nat → Nat → Int32) (L : Nat → Nat → Int64) (p1 : Int32) (res : Int32 × (Nat → Nat → Int32) × (Nat → Nat → Int32)) (h : f_X3_dry N b R T K P B L p1 = some res) : Met l yX3_dry wsX3_dry ({ frames := 6, cells := 0, slots := 0, locals := 137 } : Room) (pPre D y t [.ref (q 0), .int p1] (wB y q b R T K P B L) sz) (pQi D y (res.1) (wB y q (res.2.1) R (res.2.2) K P B L) (va_A (wB y q b R T K P B L) sz)) 0 0 (va_A (wB y q b R T K P B L) sz) := by
  refine q_start (Qc := (fun A => pQi D y (res.1) (wB y q (res.2.1) R (res.2.2) K P B L) A)) (cc := cX3_dry) (maxL := 2) (ret := (some .int)) (by decide) rfl (Nat.le_of_ble_eq_true rfl) ?_
  intro p e s m below meth c A ls hx hb hr hts hown hlocks hmn hml hP hK hZ hD hA hS hl
  have hl : lv_has ls 2 [(0, .ref (q 0)), (1, .int p1)] := hl
  have hown : s.vm.findClass RX3 = some m.cls := hown
  unfold f_X3_dry at h
  refine lv_aload_n hx hb dX3_dry_0 rfl (lv_at hl 0 rfl) ?_
  refine va_get (D := D) (ci := 3) (v := .ref (q 1)) (C := RX3) (T := TX3) (N := 7) hx hb hts uX3_dry_X3 hown hK hP 0 rfl rfl 0 (by decide) (hts _ kX3_dry_1) (fun _ h9 => h9) rfl dX3_dry_1 ?_
  refine lv_iload_n hx hb dX3_dry_4 rfl (lv_at hl 1 rfl) ?_
  obtain ⟨r_1, hc_2, h⟩ := q_bd_ok h
  refine q_ci (r := r_1) (va_runV (As := [.int p1]) (rest := []) ⟨hx, hb, hml, hown, hts⟩ (c_X0_has l D y t (fun k => q (k + 1)) _ N R p1 r_1 hc_2) (cwV 1 hts gX3_dry_X0_has rfl rfl rfl eX0_has ⟨Nat.le_of_ble_eq_true rfl, Nat.le_of_ble_eq_true rfl⟩) ⟨q_blind, (va_recv hK hP (ci := 0) (q0 := 1) rfl rfl), (q_pre hP hK hZ hD hA hS [1, 2, 3, 4, 5, 6, 7] rfl (by decide))⟩ rfl rfl hl.1 rfl (lv_room (Nat.le_of_ble_eq_true rfl)) dX3_dry_5 ⟨Nat.zero_le _, Nat.zero_le _⟩) hP hD hA hS [1, 2, 3, 4, 5, 6, 7] rfl (by decide) rfl (fun H locs hP hD hS => ?_)
  have hP : va_P D vwCl (wB y q b R T K P B L) H := hP
  have hD : va_D A (wB y q b R T K P B L) := hD
  refine lv_if_ne (tgt := 18) hx hb dX3_dry_8 (by decide) (fun c_3 => ?_) (fun c_3 => ?_)
  · have h := q_f c_3 h
    refine lv_aload_n hx hb dX3_dry_18 rfl (lv_at hl 0 rfl) ?_
    refine va_get (D := D) (ci := 3) (v := .ref (q 8)) (C := RX3) (T := TX3) (N := 7) hx hb hts uX3_dry_X3 hown hK hP 0 rfl rfl 1 (by decide) (hts _ kX3_dry_2) (fun _ h9 => h9) rfl dX3_dry_19 ?_
    refine lv_aload_n hx hb dX3_dry_22 rfl (lv_at hl 0 rfl) ?_
    refine va_get (D := D) (ci := 3) (v := .ref (q 1)) (C := RX3) (T := TX3) (N := 7) hx hb hts uX3_dry_X3 hown hK hP 0 rfl rfl 0 (by decide) (hts _ kX3_dry_1) (fun _ h9 => h9) rfl dX3_dry_23 ?_
    obtain ⟨T_4, hc_5, h⟩ := q_bd_ok h
    refine q_cv (va_runV (As := [.ref (q 1)]) (rest := []) ⟨hx, hb, hml, hown, hts⟩ (c_X0_becomes l D y t (fun k => if k < 7 then q (k + 8) else q (k - 7 + 1)) _ N T R T_4 hc_5) (cwV 1 hts gX3_dry_X0_becomes rfl rfl rfl eX0_becomes ⟨Nat.le_of_ble_eq_true rfl, Nat.le_of_ble_eq_true rfl⟩) ⟨q_blind, (va_recv hK hP (ci := 0) (q0 := 8) rfl rfl), (q_pre hP hK hZ hD hA hS [8, 9, 10, 11, 12, 13, 14, 1, 2, 3, 4, 5, 6, 7] rfl (by decide))⟩ rfl rfl hl.1 rfl (lv_room (Nat.le_of_ble_eq_true rfl)) dX3_dry_26 ⟨Nat.zero_le _, Nat.zero_le _⟩) hP hD hA hS [8, 9, 10, 11, 12, 13, 14, 1, 2, 3, 4, 5, 6, 7] rfl (by decide) rfl (fun H locs hP hD hS => ?_)
    have hP : va_P D vwCl (wB y q b R T_4 K P B L) H := hP
    have hD : va_D A (wB y q b R T_4 K P B L) := hD
    refine lv_aload_n hx hb dX3_dry_29 rfl (lv_at hl 0 rfl) ?_
    refine lv_aload_n hx hb dX3_dry_30 rfl (lv_at hl 0 rfl) ?_
    refine lv_iload_n hx hb dX3_dry_31 rfl (lv_at hl 1 rfl) ?_
    refine lv_iconst (v := 1) hx hb dX3_dry_32 (by decide) ?_
    refine lv_sipush (v := 400) hx hb dX3_dry_33 (by decide) ?_
    obtain ⟨r_6, T_7, hc_8, h⟩ := q_bd2_ok h
    refine q_ci0 (r := r_6) (va_runV (As := [.int p1, .int (1 : Int32), .int (400 : Int32)]) (rest := [.ref (q 0)]) ⟨hx, hb, hml, hown, hts⟩ (c_X3_secondsUntil l D y t q _ N b R T_4 K P B L p1 (1 : Int32) (400 : Int32) (r_6, T_7) hc_8) (cwV 3 hts gX3_dry_X3_secondsUntil rfl rfl rfl eX3_secondsUntil ⟨Nat.le_of_ble_eq_true rfl, Nat.le_of_ble_eq_true rfl⟩) ⟨q_blind, (va_recv hK hP (ci := 3) (q0 := 0) rfl rfl), (q_pre0 hP hK hZ hD hA hS)⟩ rfl rfl hl.1 rfl (lv_room (Nat.le_of_ble_eq_true rfl)) dX3_dry_36 ⟨Nat.zero_le _, Nat.zero_le _⟩) hD hA hS (fun H locs hP hD hS => ?_)
    have hP : va_P D vwCl (wB y q b R T_7 K P B L) H := hP
    have hD : va_D A (wB y q b R T_7 K P B L) := hD
    obtain ⟨r_9, b_10, hc_11, h⟩ := q_bd2_ok h
    refine q_ci0 (r := r_9) (va_runV (As := [.int r_6]) (rest := []) ⟨hx, hb, hml, hown, hts⟩ (c_X3_orNone l D y t q _ N b R T_7 K P B L r_6 (r_9, b_10) hc_11) (cwV 1 hts gX3_dry_X3_orNone rfl rfl rfl eX3_orNone ⟨Nat.le_of_ble_eq_true rfl, Nat.le_of_ble_eq_true rfl⟩) ⟨q_blind, (va_recv hK hP (ci := 3) (q0 := 0) rfl rfl), (q_pre0 hP hK hZ hD hA hS)⟩ rfl rfl hl.1 rfl (lv_room (Nat.le_of_ble_eq_true rfl)) dX3_dry_39 ⟨Nat.zero_le _, Nat.zero_le _⟩) hD hA hS (fun H locs hP hD hS => ?_)
    have hP : va_P D vwCl (wB y q b_10 R T_7 K P B L) H := hP
    have hD : va_D A (wB y q b_10 R T_7 K P B L) := hD
    have e9 := Option.some.inj h
    exact q_iret hx hb hr hlocks hK hP hD hS dX3_dry_42 (by first | rw [← e9] | rfl) (by first | rw [← e9] | rfl)
  · have h := q_t c_3 h
    refine lv_aload_n hx hb dX3_dry_11 rfl (lv_at hl 0 rfl) ?_
    refine lv_ldc (v := -1000000001) hx hb hown (hts _ kX3_dry_3) dX3_dry_12 ?_
    obtain ⟨r_12, b_13, hc_14, h⟩ := q_bd2_ok h
    refine q_ci0 (r := r_12) (va_runV (As := [.int (-1000000001 : Int32)]) (rest := []) ⟨hx, hb, hml, hown, hts⟩ (c_X3_found l D y t q _ N b R T K P B L (-1000000001 : Int32) (r_12, b_13) hc_14) (cwV 1 hts gX3_dry_X3_found rfl rfl rfl eX3_found ⟨Nat.le_of_ble_eq_true rfl, Nat.le_of_ble_eq_true rfl⟩) ⟨q_blind, (va_recv hK hP (ci := 3) (q0 := 0) rfl rfl), (q_pre0 hP hK hZ hD hA hS)⟩ rfl rfl hl.1 rfl (lv_room (Nat.le_of_ble_eq_true rfl)) dX3_dry_14 ⟨Nat.zero_le _, Nat.zero_le _⟩) hD hA hS (fun H locs hP hD hS => ?_)
    have hP : va_P D vwCl (wB y q b_13 R T K P B L) H := hP
    have hD : va_D A (wB y q b_13 R T K P B L) := hD
    have e9 := Option.some.inj h
    exact q_iret hx hb hr hlocks hK hP hD hS dX3_dry_17 (by first | rw [← e9] | rfl) (by first | rw [← e9] | rfl)
theorem eX3_dry : yX3_dry.cls = RX3 ∧ yX3_dry.cls ≠ "java/lang/invoke/MethodHandle" ∧ yX3_dry.cls ≠ "java/lang/invoke/VarHandle" ∧ (parseMethodDescriptor yX3_dry.desc).map (fun d => d.parameters.length) = some 1 := by decide +kernel
theorem uX3_lost_X3 : ∀ w ∈ u_ws RX3 TX3 7, w ∈ wsX3_lost := by decide +kernel
theorem kX3_lost_1 : Cond.fieldLink RX3 10 "BeamSeats" "real" "LBeamSeats$Island;" ∈ wsX3_lost := List.mem_of_getElem? (i := 1) (by decide +kernel)
theorem kX3_lost_2 : Cond.fieldLink RX3 16 "BeamSeats" "trial" "LBeamSeats$Island;" ∈ wsX3_lost := List.mem_of_getElem? (i := 3) (by decide +kernel)
theorem kX3_lost_3 : Cond.constant RX3 58 (-1000000001) ∈ wsX3_lost := List.mem_of_getElem? (i := 2) (by decide +kernel)
def f_X3_lost (N : Nat) (b : Nat → Nat → Int32) (R : Nat → Nat → Int32) (T : Nat → Nat → Int32) (K : Nat → Nat → Int32) (P : Nat → Nat → Int32) (B : Nat → Nat → Int32) (L : Nat → Nat → Int64) (p1 : Int32) : Option (Int32 × (Nat → Nat → Int32) × (Nat → Nat → Int32)) :=
  q_bd (f_X0_has N R p1) (fun r_1 =>
  if r_1 = 0 then
    q_bd2 (f_X3_found N b R T K P B L (-1000000001 : Int32)) (fun r_12 b_13 =>
    some (r_12, b_13, T))
  else
    q_bd (f_X0_becomes N T R) (fun T_4 =>
    q_bd2 (f_X3_secondsUntil N b R T_4 K P B L p1 (2 : Int32) (400 : Int32)) (fun r_6 T_7 =>
    q_bd2 (f_X3_orNone N b R T_7 K P B L r_6) (fun r_9 b_10 =>
    some (r_9, b_10, T_7)))))
set_option maxHeartbeats 4000000 in
set_option maxRecDepth 100000 in
theorem c_X3_lost (l : Launch) (D : va_G) (y : Nat → ClassId) (t : Nat → Nat) (q : Nat → Nat) (sz N : Nat) (b : Nat → Nat → Int32) (R : Nat → Nat → Int32) (T : Nat → Nat → Int32) (K : Nat → Nat → Int32) (P : Nat → Nat → Int32) (B : Nat → Nat → Int32) (L : Nat → Nat → Int64) (p1 : Int32) (res : Int32 × (Nat → Nat → Int32) × (Nat → Nat → Int32)) (h : f_X3_lost N b R T K P B L p1 = some res) : Met l yX3_lost wsX3_lost ({ frames := 6, cells := 0, slots := 0, locals := 137 } : Room) (pPre D y t [.ref (q 0), .int p1] (wB y q b R T K P B L) sz) (pQi D y (res.1) (wB y q (res.2.1) R (res.2.2) K P B L) (va_A (wB y q b R T K P B L) sz)) 0 0 (va_A (wB y q b R T K P B L) sz) := by
  refine q_start (Qc := (fun A => pQi D y (res.1) (wB y q (res.2.1) R (res.2.2) K P B L) A)) (cc := cX3_lost) (maxL := 2) (ret := (some .int)) (by decide) rfl (Nat.le_of_ble_eq_true rfl) ?_
  intro p e s m below meth c A ls hx hb hr hts hown hlocks hmn hml hP hK hZ hD hA hS hl
  have hl : lv_has ls 2 [(0, .ref (q 0)), (1, .int p1)] := hl
  have hown : s.vm.findClass RX3 = some m.cls := hown
  unfold f_X3_lost at h
  refine lv_aload_n hx hb dX3_lost_0 rfl (lv_at hl 0 rfl) ?_
  refine va_get (D := D) (ci := 3) (v := .ref (q 1)) (C := RX3) (T := TX3) (N := 7) hx hb hts uX3_lost_X3 hown hK hP 0 rfl rfl 0 (by decide) (hts _ kX3_lost_1) (fun _ h9 => h9) rfl dX3_lost_1 ?_
  refine lv_iload_n hx hb dX3_lost_4 rfl (lv_at hl 1 rfl) ?_
  obtain ⟨r_1, hc_2, h⟩ := q_bd_ok h
  refine q_ci (r := r_1) (va_runV (As := [.int p1]) (rest := []) ⟨hx, hb, hml, hown, hts⟩ (c_X0_has l D y t (fun k => q (k + 1)) _ N R p1 r_1 hc_2) (cwV 1 hts gX3_lost_X0_has rfl rfl rfl eX0_has ⟨Nat.le_of_ble_eq_true rfl, Nat.le_of_ble_eq_true rfl⟩) ⟨q_blind, (va_recv hK hP (ci := 0) (q0 := 1) rfl rfl), (q_pre hP hK hZ hD hA hS [1, 2, 3, 4, 5, 6, 7] rfl (by decide))⟩ rfl rfl hl.1 rfl (lv_room (Nat.le_of_ble_eq_true rfl)) dX3_lost_5 ⟨Nat.zero_le _, Nat.zero_le _⟩) hP hD hA hS [1, 2, 3, 4, 5, 6, 7] rfl (by decide) rfl (fun H locs hP hD hS => ?_)
  have hP : va_P D vwCl (wB y q b R T K P B L) H := hP
  have hD : va_D A (wB y q b R T K P B L) := hD
  refine lv_if_ne (tgt := 18) hx hb dX3_lost_8 (by decide) (fun c_3 => ?_) (fun c_3 => ?_)
  · have h := q_f c_3 h
    refine lv_aload_n hx hb dX3_lost_18 rfl (lv_at hl 0 rfl) ?_
    refine va_get (D := D) (ci := 3) (v := .ref (q 8)) (C := RX3) (T := TX3) (N := 7) hx hb hts uX3_lost_X3 hown hK hP 0 rfl rfl 1 (by decide) (hts _ kX3_lost_2) (fun _ h9 => h9) rfl dX3_lost_19 ?_
    refine lv_aload_n hx hb dX3_lost_22 rfl (lv_at hl 0 rfl) ?_
    refine va_get (D := D) (ci := 3) (v := .ref (q 1)) (C := RX3) (T := TX3) (N := 7) hx hb hts uX3_lost_X3 hown hK hP 0 rfl rfl 0 (by decide) (hts _ kX3_lost_1) (fun _ h9 => h9) rfl dX3_lost_23 ?_
    obtain ⟨T_4, hc_5, h⟩ := q_bd_ok h
    refine q_cv (va_runV (As := [.ref (q 1)]) (rest := []) ⟨hx, hb, hml, hown, hts⟩ (c_X0_becomes l D y t (fun k => if k < 7 then q (k + 8) else q (k - 7 + 1)) _ N T R T_4 hc_5) (cwV 1 hts gX3_lost_X0_becomes rfl rfl rfl eX0_becomes ⟨Nat.le_of_ble_eq_true rfl, Nat.le_of_ble_eq_true rfl⟩) ⟨q_blind, (va_recv hK hP (ci := 0) (q0 := 8) rfl rfl), (q_pre hP hK hZ hD hA hS [8, 9, 10, 11, 12, 13, 14, 1, 2, 3, 4, 5, 6, 7] rfl (by decide))⟩ rfl rfl hl.1 rfl (lv_room (Nat.le_of_ble_eq_true rfl)) dX3_lost_26 ⟨Nat.zero_le _, Nat.zero_le _⟩) hP hD hA hS [8, 9, 10, 11, 12, 13, 14, 1, 2, 3, 4, 5, 6, 7] rfl (by decide) rfl (fun H locs hP hD hS => ?_)
    have hP : va_P D vwCl (wB y q b R T_4 K P B L) H := hP
    have hD : va_D A (wB y q b R T_4 K P B L) := hD
    refine lv_aload_n hx hb dX3_lost_29 rfl (lv_at hl 0 rfl) ?_
    refine lv_aload_n hx hb dX3_lost_30 rfl (lv_at hl 0 rfl) ?_
    refine lv_iload_n hx hb dX3_lost_31 rfl (lv_at hl 1 rfl) ?_
    refine lv_iconst (v := 2) hx hb dX3_lost_32 (by decide) ?_
    refine lv_sipush (v := 400) hx hb dX3_lost_33 (by decide) ?_
    obtain ⟨r_6, T_7, hc_8, h⟩ := q_bd2_ok h
    refine q_ci0 (r := r_6) (va_runV (As := [.int p1, .int (2 : Int32), .int (400 : Int32)]) (rest := [.ref (q 0)]) ⟨hx, hb, hml, hown, hts⟩ (c_X3_secondsUntil l D y t q _ N b R T_4 K P B L p1 (2 : Int32) (400 : Int32) (r_6, T_7) hc_8) (cwV 3 hts gX3_lost_X3_secondsUntil rfl rfl rfl eX3_secondsUntil ⟨Nat.le_of_ble_eq_true rfl, Nat.le_of_ble_eq_true rfl⟩) ⟨q_blind, (va_recv hK hP (ci := 3) (q0 := 0) rfl rfl), (q_pre0 hP hK hZ hD hA hS)⟩ rfl rfl hl.1 rfl (lv_room (Nat.le_of_ble_eq_true rfl)) dX3_lost_36 ⟨Nat.zero_le _, Nat.zero_le _⟩) hD hA hS (fun H locs hP hD hS => ?_)
    have hP : va_P D vwCl (wB y q b R T_7 K P B L) H := hP
    have hD : va_D A (wB y q b R T_7 K P B L) := hD
    obtain ⟨r_9, b_10, hc_11, h⟩ := q_bd2_ok h
    refine q_ci0 (r := r_9) (va_runV (As := [.int r_6]) (rest := []) ⟨hx, hb, hml, hown, hts⟩ (c_X3_orNone l D y t q _ N b R T_7 K P B L r_6 (r_9, b_10) hc_11) (cwV 1 hts gX3_lost_X3_orNone rfl rfl rfl eX3_orNone ⟨Nat.le_of_ble_eq_true rfl, Nat.le_of_ble_eq_true rfl⟩) ⟨q_blind, (va_recv hK hP (ci := 3) (q0 := 0) rfl rfl), (q_pre0 hP hK hZ hD hA hS)⟩ rfl rfl hl.1 rfl (lv_room (Nat.le_of_ble_eq_true rfl)) dX3_lost_39 ⟨Nat.zero_le _, Nat.zero_le _⟩) hD hA hS (fun H locs hP hD hS => ?_)
    have hP : va_P D vwCl (wB y q b_10 R T_7 K P B L) H := hP
    have hD : va_D A (wB y q b_10 R T_7 K P B L) := hD
    have e9 := Option.some.inj h
    exact q_iret hx hb hr hlocks hK hP hD hS dX3_lost_42 (by first | rw [← e9] | rfl) (by first | rw [← e9] | rfl)
  · have h := q_t c_3 h
    refine lv_aload_n hx hb dX3_lost_11 rfl (lv_at hl 0 rfl) ?_
    refine lv_ldc (v := -1000000001) hx hb hown (hts _ kX3_lost_3) dX3_lost_12 ?_
    obtain ⟨r_12, b_13, hc_14, h⟩ := q_bd2_ok h
    refine q_ci0 (r := r_12) (va_runV (As := [.int (-1000000001 : Int32)]) (rest := []) ⟨hx, hb, hml, hown, hts⟩ (c_X3_found l D y t q _ N b R T K P B L (-1000000001 : Int32) (r_12, b_13) hc_14) (cwV 1 hts gX3_lost_X3_found rfl rfl rfl eX3_found ⟨Nat.le_of_ble_eq_true rfl, Nat.le_of_ble_eq_true rfl⟩) ⟨q_blind, (va_recv hK hP (ci := 3) (q0 := 0) rfl rfl), (q_pre0 hP hK hZ hD hA hS)⟩ rfl rfl hl.1 rfl (lv_room (Nat.le_of_ble_eq_true rfl)) dX3_lost_14 ⟨Nat.zero_le _, Nat.zero_le _⟩) hD hA hS (fun H locs hP hD hS => ?_)
    have hP : va_P D vwCl (wB y q b_13 R T K P B L) H := hP
    have hD : va_D A (wB y q b_13 R T K P B L) := hD
    have e9 := Option.some.inj h
    exact q_iret hx hb hr hlocks hK hP hD hS dX3_lost_17 (by first | rw [← e9] | rfl) (by first | rw [← e9] | rfl)
theorem eX3_lost : yX3_lost.cls = RX3 ∧ yX3_lost.cls ≠ "java/lang/invoke/MethodHandle" ∧ yX3_lost.cls ≠ "java/lang/invoke/VarHandle" ∧ (parseMethodDescriptor yX3_lost.desc).map (fun d => d.parameters.length) = some 1 := by decide +kernel
theorem uX3_arrives_X3 : ∀ w ∈ u_ws RX3 TX3 7, w ∈ wsX3_arrives := by decide +kernel
theorem kX3_arrives_1 : Cond.fieldLink RX3 10 "BeamSeats" "real" "LBeamSeats$Island;" ∈ wsX3_arrives := List.mem_of_getElem? (i := 1) (by decide +kernel)
theorem kX3_arrives_2 : Cond.fieldLink RX3 16 "BeamSeats" "trial" "LBeamSeats$Island;" ∈ wsX3_arrives := List.mem_of_getElem? (i := 3) (by decide +kernel)
theorem kX3_arrives_3 : Cond.constant RX3 58 (-1000000001) ∈ wsX3_arrives := List.mem_of_getElem? (i := 2) (by decide +kernel)
def f_X3_arrives (N : Nat) (b : Nat → Nat → Int32) (R : Nat → Nat → Int32) (T : Nat → Nat → Int32) (K : Nat → Nat → Int32) (P : Nat → Nat → Int32) (B : Nat → Nat → Int32) (L : Nat → Nat → Int64) (p1 : Int32) : Option (Int32 × (Nat → Nat → Int32) × (Nat → Nat → Int32)) :=
  q_bd (f_X0_has N R p1) (fun r_1 =>
  if r_1 = 0 then
    q_bd2 (f_X3_found N b R T K P B L (-1000000001 : Int32)) (fun r_12 b_13 =>
    some (r_12, b_13, T))
  else
    q_bd (f_X0_becomes N T R) (fun T_4 =>
    q_bd2 (f_X3_secondsUntil N b R T_4 K P B L p1 (3 : Int32) (400 : Int32)) (fun r_6 T_7 =>
    q_bd2 (f_X3_orNone N b R T_7 K P B L r_6) (fun r_9 b_10 =>
    some (r_9, b_10, T_7)))))
set_option maxHeartbeats 4000000 in
set_option maxRecDepth 100000 in
theorem c_X3_arrives (l : Launch) (D : va_G) (y : Nat → ClassId) (t : Nat → Nat) (q : Nat → Nat) (sz N : Nat) (b : Nat → Nat → Int32) (R : Nat → Nat → Int32) (T : Nat → Nat → Int32) (K : Nat → Nat → Int32) (P : Nat → Nat → Int32) (B : Nat → Nat → Int32) (L : Nat → Nat → Int64) (p1 : Int32) (res : Int32 × (Nat → Nat → Int32) × (Nat → Nat → Int32)) (h : f_X3_arrives N b R T K P B L p1 = some res) : Met l yX3_arrives wsX3_arrives ({ frames := 6, cells := 0, slots := 0, locals := 137 } : Room) (pPre D y t [.ref (q 0), .int p1] (wB y q b R T K P B L) sz) (pQi D y (res.1) (wB y q (res.2.1) R (res.2.2) K P B L) (va_A (wB y q b R T K P B L) sz)) 0 0 (va_A (wB y q b R T K P B L) sz) := by
  refine q_start (Qc := (fun A => pQi D y (res.1) (wB y q (res.2.1) R (res.2.2) K P B L) A)) (cc := cX3_arrives) (maxL := 2) (ret := (some .int)) (by decide) rfl (Nat.le_of_ble_eq_true rfl) ?_
  intro p e s m below meth c A ls hx hb hr hts hown hlocks hmn hml hP hK hZ hD hA hS hl
  have hl : lv_has ls 2 [(0, .ref (q 0)), (1, .int p1)] := hl
  have hown : s.vm.findClass RX3 = some m.cls := hown
  unfold f_X3_arrives at h
  refine lv_aload_n hx hb dX3_arrives_0 rfl (lv_at hl 0 rfl) ?_
  refine va_get (D := D) (ci := 3) (v := .ref (q 1)) (C := RX3) (T := TX3) (N := 7) hx hb hts uX3_arrives_X3 hown hK hP 0 rfl rfl 0 (by decide) (hts _ kX3_arrives_1) (fun _ h9 => h9) rfl dX3_arrives_1 ?_
  refine lv_iload_n hx hb dX3_arrives_4 rfl (lv_at hl 1 rfl) ?_
  obtain ⟨r_1, hc_2, h⟩ := q_bd_ok h
  refine q_ci (r := r_1) (va_runV (As := [.int p1]) (rest := []) ⟨hx, hb, hml, hown, hts⟩ (c_X0_has l D y t (fun k => q (k + 1)) _ N R p1 r_1 hc_2) (cwV 1 hts gX3_arrives_X0_has rfl rfl rfl eX0_has ⟨Nat.le_of_ble_eq_true rfl, Nat.le_of_ble_eq_true rfl⟩) ⟨q_blind, (va_recv hK hP (ci := 0) (q0 := 1) rfl rfl), (q_pre hP hK hZ hD hA hS [1, 2, 3, 4, 5, 6, 7] rfl (by decide))⟩ rfl rfl hl.1 rfl (lv_room (Nat.le_of_ble_eq_true rfl)) dX3_arrives_5 ⟨Nat.zero_le _, Nat.zero_le _⟩) hP hD hA hS [1, 2, 3, 4, 5, 6, 7] rfl (by decide) rfl (fun H locs hP hD hS => ?_)
  have hP : va_P D vwCl (wB y q b R T K P B L) H := hP
  have hD : va_D A (wB y q b R T K P B L) := hD
  refine lv_if_ne (tgt := 18) hx hb dX3_arrives_8 (by decide) (fun c_3 => ?_) (fun c_3 => ?_)
  · have h := q_f c_3 h
    refine lv_aload_n hx hb dX3_arrives_18 rfl (lv_at hl 0 rfl) ?_
    refine va_get (D := D) (ci := 3) (v := .ref (q 8)) (C := RX3) (T := TX3) (N := 7) hx hb hts uX3_arrives_X3 hown hK hP 0 rfl rfl 1 (by decide) (hts _ kX3_arrives_2) (fun _ h9 => h9) rfl dX3_arrives_19 ?_
    refine lv_aload_n hx hb dX3_arrives_22 rfl (lv_at hl 0 rfl) ?_
    refine va_get (D := D) (ci := 3) (v := .ref (q 1)) (C := RX3) (T := TX3) (N := 7) hx hb hts uX3_arrives_X3 hown hK hP 0 rfl rfl 0 (by decide) (hts _ kX3_arrives_1) (fun _ h9 => h9) rfl dX3_arrives_23 ?_
    obtain ⟨T_4, hc_5, h⟩ := q_bd_ok h
    refine q_cv (va_runV (As := [.ref (q 1)]) (rest := []) ⟨hx, hb, hml, hown, hts⟩ (c_X0_becomes l D y t (fun k => if k < 7 then q (k + 8) else q (k - 7 + 1)) _ N T R T_4 hc_5) (cwV 1 hts gX3_arrives_X0_becomes rfl rfl rfl eX0_becomes ⟨Nat.le_of_ble_eq_true rfl, Nat.le_of_ble_eq_true rfl⟩) ⟨q_blind, (va_recv hK hP (ci := 0) (q0 := 8) rfl rfl), (q_pre hP hK hZ hD hA hS [8, 9, 10, 11, 12, 13, 14, 1, 2, 3, 4, 5, 6, 7] rfl (by decide))⟩ rfl rfl hl.1 rfl (lv_room (Nat.le_of_ble_eq_true rfl)) dX3_arrives_26 ⟨Nat.zero_le _, Nat.zero_le _⟩) hP hD hA hS [8, 9, 10, 11, 12, 13, 14, 1, 2, 3, 4, 5, 6, 7] rfl (by decide) rfl (fun H locs hP hD hS => ?_)
    have hP : va_P D vwCl (wB y q b R T_4 K P B L) H := hP
    have hD : va_D A (wB y q b R T_4 K P B L) := hD
    refine lv_aload_n hx hb dX3_arrives_29 rfl (lv_at hl 0 rfl) ?_
    refine lv_aload_n hx hb dX3_arrives_30 rfl (lv_at hl 0 rfl) ?_
    refine lv_iload_n hx hb dX3_arrives_31 rfl (lv_at hl 1 rfl) ?_
    refine lv_iconst (v := 3) hx hb dX3_arrives_32 (by decide) ?_
    refine lv_sipush (v := 400) hx hb dX3_arrives_33 (by decide) ?_
    obtain ⟨r_6, T_7, hc_8, h⟩ := q_bd2_ok h
    refine q_ci0 (r := r_6) (va_runV (As := [.int p1, .int (3 : Int32), .int (400 : Int32)]) (rest := [.ref (q 0)]) ⟨hx, hb, hml, hown, hts⟩ (c_X3_secondsUntil l D y t q _ N b R T_4 K P B L p1 (3 : Int32) (400 : Int32) (r_6, T_7) hc_8) (cwV 3 hts gX3_arrives_X3_secondsUntil rfl rfl rfl eX3_secondsUntil ⟨Nat.le_of_ble_eq_true rfl, Nat.le_of_ble_eq_true rfl⟩) ⟨q_blind, (va_recv hK hP (ci := 3) (q0 := 0) rfl rfl), (q_pre0 hP hK hZ hD hA hS)⟩ rfl rfl hl.1 rfl (lv_room (Nat.le_of_ble_eq_true rfl)) dX3_arrives_36 ⟨Nat.zero_le _, Nat.zero_le _⟩) hD hA hS (fun H locs hP hD hS => ?_)
    have hP : va_P D vwCl (wB y q b R T_7 K P B L) H := hP
    have hD : va_D A (wB y q b R T_7 K P B L) := hD
    obtain ⟨r_9, b_10, hc_11, h⟩ := q_bd2_ok h
    refine q_ci0 (r := r_9) (va_runV (As := [.int r_6]) (rest := []) ⟨hx, hb, hml, hown, hts⟩ (c_X3_orNone l D y t q _ N b R T_7 K P B L r_6 (r_9, b_10) hc_11) (cwV 1 hts gX3_arrives_X3_orNone rfl rfl rfl eX3_orNone ⟨Nat.le_of_ble_eq_true rfl, Nat.le_of_ble_eq_true rfl⟩) ⟨q_blind, (va_recv hK hP (ci := 3) (q0 := 0) rfl rfl), (q_pre0 hP hK hZ hD hA hS)⟩ rfl rfl hl.1 rfl (lv_room (Nat.le_of_ble_eq_true rfl)) dX3_arrives_39 ⟨Nat.zero_le _, Nat.zero_le _⟩) hD hA hS (fun H locs hP hD hS => ?_)
    have hP : va_P D vwCl (wB y q b_10 R T_7 K P B L) H := hP
    have hD : va_D A (wB y q b_10 R T_7 K P B L) := hD
    have e9 := Option.some.inj h
    exact q_iret hx hb hr hlocks hK hP hD hS dX3_arrives_42 (by first | rw [← e9] | rfl) (by first | rw [← e9] | rfl)
  · have h := q_t c_3 h
    refine lv_aload_n hx hb dX3_arrives_11 rfl (lv_at hl 0 rfl) ?_
    refine lv_ldc (v := -1000000001) hx hb hown (hts _ kX3_arrives_3) dX3_arrives_12 ?_
    obtain ⟨r_12, b_13, hc_14, h⟩ := q_bd2_ok h
    refine q_ci0 (r := r_12) (va_runV (As := [.int (-1000000001 : Int32)]) (rest := []) ⟨hx, hb, hml, hown, hts⟩ (c_X3_found l D y t q _ N b R T K P B L (-1000000001 : Int32) (r_12, b_13) hc_14) (cwV 1 hts gX3_arrives_X3_found rfl rfl rfl eX3_found ⟨Nat.le_of_ble_eq_true rfl, Nat.le_of_ble_eq_true rfl⟩) ⟨q_blind, (va_recv hK hP (ci := 3) (q0 := 0) rfl rfl), (q_pre0 hP hK hZ hD hA hS)⟩ rfl rfl hl.1 rfl (lv_room (Nat.le_of_ble_eq_true rfl)) dX3_arrives_14 ⟨Nat.zero_le _, Nat.zero_le _⟩) hD hA hS (fun H locs hP hD hS => ?_)
    have hP : va_P D vwCl (wB y q b_13 R T K P B L) H := hP
    have hD : va_D A (wB y q b_13 R T K P B L) := hD
    have e9 := Option.some.inj h
    exact q_iret hx hb hr hlocks hK hP hD hS dX3_arrives_17 (by first | rw [← e9] | rfl) (by first | rw [← e9] | rfl)
theorem eX3_arrives : yX3_arrives.cls = RX3 ∧ yX3_arrives.cls ≠ "java/lang/invoke/MethodHandle" ∧ yX3_arrives.cls ≠ "java/lang/invoke/VarHandle" ∧ (parseMethodDescriptor yX3_arrives.desc).map (fun d => d.parameters.length) = some 1 := by decide +kernel
theorem kX3_speed_0 : Cond.constant RX3 58 (-1000000001) ∈ wsX3_speed := List.mem_of_getElem? (i := 2) (by decide +kernel)
theorem uX3_speed_X0 : ∀ w ∈ u_ws RX0 TX0 13, w ∈ wsX3_speed := by decide +kernel
theorem kX3_speed_2 : Cond.fieldLink RX3 106 "BeamSeats$Island" "wets" "[I" ∈ wsX3_speed := List.mem_of_getElem? (i := 5) (by decide +kernel)
theorem uX3_speed_X3 : ∀ w ∈ u_ws RX3 TX3 7, w ∈ wsX3_speed := by decide +kernel
theorem kX3_speed_4 : Cond.fieldLink RX3 16 "BeamSeats" "trial" "LBeamSeats$Island;" ∈ wsX3_speed := List.mem_of_getElem? (i := 3) (by decide +kernel)
theorem kX3_speed_5 : Cond.fieldLink RX3 52 "BeamSeats$Island" "speed" "I" ∈ wsX3_speed := List.mem_of_getElem? (i := 4) (by decide +kernel)
theorem kX3_speed_6 : Cond.fieldLink RX3 10 "BeamSeats" "real" "LBeamSeats$Island;" ∈ wsX3_speed := List.mem_of_getElem? (i := 1) (by decide +kernel)
def f_X3_speed_B21 (N : Nat) (b : Nat → Nat → Int32) (R : Nat → Nat → Int32) (T : Nat → Nat → Int32) (K : Nat → Nat → Int32) (P : Nat → Nat → Int32) (B : Nat → Nat → Int32) (L : Nat → Nat → Int64) : Option (Int32 × (Nat → Nat → Int32) × (Nat → Nat → Int32)) :=
  q_bd2 (f_X3_found N b R T K P B L (-1000000001 : Int32)) (fun r_4 b_5 =>
  some (r_4, b_5, T))
def f_X3_speed_L37 (N : Nat) (b : Nat → Nat → Int32) (R : Nat → Nat → Int32) (K : Nat → Nat → Int32) (P : Nat → Nat → Int32) (B : Nat → Nat → Int32) (L : Nat → Nat → Int64) (v1 : Int32) (v2 : Int32) : Nat → Int32 → Int32 → Int32 → (Nat → Nat → Int32) → Option (Int32 × Int32 × Int32 × (Nat → Nat → Int32))
  | 0, _, _, _, _ => none
  | k + 1, v3, v4, v5, T =>
    if (10 : Int32) < v5 then
      some (v3, v4, v5, T)
    else
      q_bd (f_X0_becomes N T R) (fun T_16 =>
      q_let (q_up T_16 0 2 v5) (fun T_18 =>
      q_bd (f_X0_goSeconds N T_18 v2) (fun T_19 =>
      q_grd v1 8 (
      if v4 ≤ (T_19 4 v1.toNatClampNeg) then
        q_let (v5 + 1) (fun x_23 =>
        f_X3_speed_L37 N b R K P B L v1 v2 k v3 v4 x_23 T_19)
      else
        q_grd v1 8 (
        q_let (T_19 4 v1.toNatClampNeg) (fun x_25 =>
        q_let (v5 + 1) (fun x_26 =>
        f_X3_speed_L37 N b R K P B L v1 v2 k v5 x_25 x_26 T_19)))))))
def f_X3_speed (N : Nat) (b : Nat → Nat → Int32) (R : Nat → Nat → Int32) (T : Nat → Nat → Int32) (K : Nat → Nat → Int32) (P : Nat → Nat → Int32) (B : Nat → Nat → Int32) (L : Nat → Nat → Int64) (p1 : Int32) (p2 : Int32) : Option (Int32 × (Nat → Nat → Int32) × (Nat → Nat → Int32)) :=
  q_bd (f_X0_has N R p1) (fun r_1 =>
  if r_1 = 0 then
    f_X3_speed_B21 N b R T K P B L
  else
    q_bd (f_X3_within N p2 (1 : Int32) (120 : Int32)) (fun r_7 =>
    if r_7 = 0 then
      f_X3_speed_B21 N b R T K P B L
    else
      q_bd4 (f_X3_speed_L37 N b R K P B L p1 p2 N (1 : Int32) (100 : Int32) (1 : Int32) T) (fun x_11 x_12 x_13 T_14 =>
      some (x_11, b, T_14))))
set_option maxHeartbeats 4000000 in
set_option maxRecDepth 100000 in
theorem c_X3_speed (l : Launch) (D : va_G) (y : Nat → ClassId) (t : Nat → Nat) (q : Nat → Nat) (sz N : Nat) (b : Nat → Nat → Int32) (R : Nat → Nat → Int32) (T : Nat → Nat → Int32) (K : Nat → Nat → Int32) (P : Nat → Nat → Int32) (B : Nat → Nat → Int32) (L : Nat → Nat → Int64) (p1 : Int32) (p2 : Int32) (res : Int32 × (Nat → Nat → Int32) × (Nat → Nat → Int32)) (h : f_X3_speed N b R T K P B L p1 p2 = some res) : Met l yX3_speed wsX3_speed ({ frames := 5, cells := 0, slots := 0, locals := 113 } : Room) (pPre D y t [.ref (q 0), .int p1, .int p2] (wB y q b R T K P B L) sz) (pQi D y (res.1) (wB y q (res.2.1) R (res.2.2) K P B L) (va_A (wB y q b R T K P B L) sz)) 0 0 (va_A (wB y q b R T K P B L) sz) := by
  refine q_start (Qc := (fun A => pQi D y (res.1) (wB y q (res.2.1) R (res.2.2) K P B L) A)) (cc := cX3_speed) (maxL := 6) (ret := (some .int)) (by decide) rfl (Nat.le_of_ble_eq_true rfl) ?_
  intro p e s m below meth c A ls hx hb hr hts hown hlocks hmn hml hP hK hZ hD hA hS hl
  have hl : lv_has ls 6 [(0, .ref (q 0)), (1, .int p1), (2, .int p2)] := hl
  have hown : s.vm.findClass RX3 = some m.cls := hown
  have B21 : ∀ (b : Nat → Nat → Int32) (R : Nat → Nat → Int32) (T : Nat → Nat → Int32) (K : Nat → Nat → Int32) (P : Nat → Nat → Int32) (B : Nat → Nat → Int32) (L : Nat → Nat → Int64) (H : Heap) (locs : List Loc) (ls : Array Slot), va_P D vwCl (wB y q b R T K P B L) H → va_D A (wB y q b R T K P B L) → va_S A s.heap H locs → lv_has ls 6 [(0, .ref (q 0))] → f_X3_speed_B21 N b R T K P B L = some res → W p l e ({ frames := 5, cells := 0, slots := 0, locals := 113 } : Room) s m ([.ref (q 0), .int p1, .int p2] : List Value).toArray below meth c H locs 0 0 (MQ below (pQi D y (res.1) (wB y q (res.2.1) R (res.2.2) K P B L) A) ([.ref (q 0), .int p1, .int p2] : List Value).toArray s 0 0 A) (F0 m 21 ls []) := by
    intro b R T K P B L H locs ls hP hD hS hl h
    unfold f_X3_speed_B21 at h
    refine lv_aload_n hx hb dX3_speed_21 rfl (lv_at hl 0 rfl) ?_
    refine lv_ldc (v := -1000000001) hx hb hown (hts _ kX3_speed_0) dX3_speed_22 ?_
    obtain ⟨r_4, b_5, hc_6, h⟩ := q_bd2_ok h
    refine q_ci0 (r := r_4) (va_runV (As := [.int (-1000000001 : Int32)]) (rest := []) ⟨hx, hb, hml, hown, hts⟩ (c_X3_found l D y t q _ N b R T K P B L (-1000000001 : Int32) (r_4, b_5) hc_6) (cwV 1 hts gX3_speed_X3_found rfl rfl rfl eX3_found ⟨Nat.le_of_ble_eq_true rfl, Nat.le_of_ble_eq_true rfl⟩) ⟨q_blind, (va_recv hK hP (ci := 3) (q0 := 0) rfl rfl), (q_pre0 hP hK hZ hD hA hS)⟩ rfl rfl hl.1 rfl (lv_room (Nat.le_of_ble_eq_true rfl)) dX3_speed_24 ⟨Nat.zero_le _, Nat.zero_le _⟩) hD hA hS (fun H locs hP hD hS => ?_)
    have hP : va_P D vwCl (wB y q b_5 R T K P B L) H := hP
    have hD : va_D A (wB y q b_5 R T K P B L) := hD
    have e9 := Option.some.inj h
    exact q_iret hx hb hr hlocks hK hP hD hS dX3_speed_27 (by first | rw [← e9] | rfl) (by first | rw [← e9] | rfl)
  unfold f_X3_speed at h
  refine lv_aload_n hx hb dX3_speed_0 rfl (lv_at hl 0 rfl) ?_
  refine va_get (D := D) (ci := 3) (v := .ref (q 1)) (C := RX3) (T := TX3) (N := 7) hx hb hts uX3_speed_X3 hown hK hP 0 rfl rfl 0 (by decide) (hts _ kX3_speed_6) (fun _ h9 => h9) rfl dX3_speed_1 ?_
  refine lv_iload_n hx hb dX3_speed_4 rfl (lv_at hl 1 rfl) ?_
  obtain ⟨r_1, hc_2, h⟩ := q_bd_ok h
  refine q_ci (r := r_1) (va_runV (As := [.int p1]) (rest := []) ⟨hx, hb, hml, hown, hts⟩ (c_X0_has l D y t (fun k => q (k + 1)) _ N R p1 r_1 hc_2) (cwV 1 hts gX3_speed_X0_has rfl rfl rfl eX0_has ⟨Nat.le_of_ble_eq_true rfl, Nat.le_of_ble_eq_true rfl⟩) ⟨q_blind, (va_recv hK hP (ci := 0) (q0 := 1) rfl rfl), (q_pre hP hK hZ hD hA hS [1, 2, 3, 4, 5, 6, 7] rfl (by decide))⟩ rfl rfl hl.1 rfl (lv_room (Nat.le_of_ble_eq_true rfl)) dX3_speed_5 ⟨Nat.zero_le _, Nat.zero_le _⟩) hP hD hA hS [1, 2, 3, 4, 5, 6, 7] rfl (by decide) rfl (fun H locs hP hD hS => ?_)
  have hP : va_P D vwCl (wB y q b R T K P B L) H := hP
  have hD : va_D A (wB y q b R T K P B L) := hD
  refine lv_if_eq (tgt := 21) hx hb dX3_speed_8 (by decide) (fun c_3 => ?_) (fun c_3 => ?_)
  · have h := q_t c_3 h
    exact B21 b R T K P B L _ _ _ hP hD hS (lv_sub hl [0] rfl) h
  · have h := q_f c_3 h
    refine lv_iload_n hx hb dX3_speed_11 rfl (lv_at hl 2 rfl) ?_
    refine lv_iconst (v := 1) hx hb dX3_speed_12 (by decide) ?_
    refine lv_bipush (v := 120) hx hb dX3_speed_13 (by decide) ?_
    obtain ⟨r_7, hc_8, h⟩ := q_bd_ok h
    refine q_ci (r := r_7) (va_runS (As := [.int p2, .int (1 : Int32), .int (120 : Int32)]) (rest := []) ⟨hx, hb, hml, hown, hts⟩ (c_X3_within l D y t q _ N p2 (1 : Int32) (120 : Int32) r_7 hc_8) (va_cwS 3 hts gX3_speed_X3_within rfl rfl rfl eX3_within ⟨Nat.le_of_ble_eq_true rfl, Nat.le_of_ble_eq_true rfl⟩) ⟨q_blind, (q_pre hP hK hZ hD hA hS [] rfl (by decide))⟩ rfl rfl hl.1 rfl (lv_room (Nat.le_of_ble_eq_true rfl)) dX3_speed_15 ⟨Nat.zero_le _, Nat.zero_le _⟩) hP hD hA hS [] rfl (by decide) rfl (fun H locs hP hD hS => ?_)
    have hP : va_P D vwCl (wB y q b R T K P B L) H := hP
    have hD : va_D A (wB y q b R T K P B L) := hD
    refine lv_if_ne (tgt := 28) hx hb dX3_speed_18 (by decide) (fun c_9 => ?_) (fun c_9 => ?_)
    · have h := q_f c_9 h
      refine lv_iconst (v := 1) hx hb dX3_speed_28 (by decide) ?_
      refine lv_istore_n (lv' := [(3, .int (1 : Int32)), (0, .ref (q 0)), (1, .int p1), (2, .int p2)]) hx hb dX3_speed_29 rfl hl (by decide) rfl (fun ls hl => ?_)
      refine lv_bipush (v := 100) hx hb dX3_speed_30 (by decide) ?_
      refine lv_istore (lv' := [(4, .int (100 : Int32)), (3, .int (1 : Int32)), (0, .ref (q 0)), (1, .int p1), (2, .int p2)]) hx hb dX3_speed_32 hl (by decide) rfl (fun ls hl => ?_)
      refine lv_iconst (v := 1) hx hb dX3_speed_34 (by decide) ?_
      refine lv_istore (lv' := [(5, .int (1 : Int32)), (4, .int (100 : Int32)), (3, .int (1 : Int32)), (0, .ref (q 0)), (1, .int p1), (2, .int p2)]) hx hb dX3_speed_35 hl (by decide) rfl (fun ls hl => ?_)
      obtain ⟨x_11, x_12, x_13, T_14, hL10, h⟩ := q_bd4_ok h
      have K37_10 : ∀ (H : Heap) (locs : List Loc) (ls : Array Slot), va_P D vwCl (wB y q b R T_14 K P B L) H → va_D A (wB y q b R T_14 K P B L) → va_S A s.heap H locs → lv_has ls 6 [(0, .ref (q 0)), (1, .int p1), (2, .int p2), (3, .int x_11), (4, .int x_12), (5, .int x_13)] → W p l e ({ frames := 5, cells := 0, slots := 0, locals := 113 } : Room) s m ([.ref (q 0), .int p1, .int p2] : List Value).toArray below meth c H locs 0 0 (MQ below (pQi D y (res.1) (wB y q (res.2.1) R (res.2.2) K P B L) A) ([.ref (q 0), .int p1, .int p2] : List Value).toArray s 0 0 A) (F0 m 106 ls []) := by
        intro H locs ls hP hD hS hl
        refine lv_iload_n hx hb dX3_speed_106 rfl (lv_at hl 3 rfl) ?_
        have e9 := Option.some.inj h
        exact q_iret hx hb hr hlocks hK hP hD hS dX3_speed_107 (by first | rw [← e9] | rfl) (by first | rw [← e9] | rfl)
      have L37_10 : ∀ (b : Nat → Nat → Int32) (R : Nat → Nat → Int32) (K : Nat → Nat → Int32) (P : Nat → Nat → Int32) (B : Nat → Nat → Int32) (L : Nat → Nat → Int64) (v1 : Int32) (v2 : Int32) (k : Nat) (v3 : Int32) (v4 : Int32) (v5 : Int32) (T : Nat → Nat → Int32), (∀ (H : Heap) (locs : List Loc) (ls : Array Slot), va_P D vwCl (wB y q b R T_14 K P B L) H → va_D A (wB y q b R T_14 K P B L) → va_S A s.heap H locs → lv_has ls 6 [(0, .ref (q 0)), (1, .int v1), (2, .int v2), (3, .int x_11), (4, .int x_12), (5, .int x_13)] → W p l e ({ frames := 5, cells := 0, slots := 0, locals := 113 } : Room) s m ([.ref (q 0), .int p1, .int p2] : List Value).toArray below meth c H locs 0 0 (MQ below (pQi D y (res.1) (wB y q (res.2.1) R (res.2.2) K P B L) A) ([.ref (q 0), .int p1, .int p2] : List Value).toArray s 0 0 A) (F0 m 106 ls [])) → ∀ (H : Heap) (locs : List Loc) (ls : Array Slot), va_P D vwCl (wB y q b R T K P B L) H → va_D A (wB y q b R T K P B L) → va_S A s.heap H locs → lv_has ls 6 [(0, .ref (q 0)), (1, .int v1), (2, .int v2), (3, .int v3), (4, .int v4), (5, .int v5)] → f_X3_speed_L37 N b R K P B L v1 v2 k v3 v4 v5 T = some (x_11, x_12, x_13, T_14) → W p l e ({ frames := 5, cells := 0, slots := 0, locals := 113 } : Room) s m ([.ref (q 0), .int p1, .int p2] : List Value).toArray below meth c H locs 0 0 (MQ below (pQi D y (res.1) (wB y q (res.2.1) R (res.2.2) K P B L) A) ([.ref (q 0), .int p1, .int p2] : List Value).toArray s 0 0 A) (F0 m 37 ls []) := by
        intro b R K P B L v1 v2 k
        induction k with
        | zero =>
          intro v3 v4 v5 T K37_10 H locs ls hP hD hS hl h
          have h : (none : Option (Int32 × Int32 × Int32 × (Nat → Nat → Int32))) = some _ := h
          cases h
        | succ k ih37_10 =>
          intro v3 v4 v5 T K37_10 H locs ls hP hD hS hl h
          rw [f_X3_speed_L37] at h
          refine lv_iload hx hb dX3_speed_37 (lv_at hl 5 rfl) ?_
          refine lv_bipush (v := 10) hx hb dX3_speed_39 (by decide) ?_
          refine lv_icmp_gt (tgt := 106) hx hb dX3_speed_41 (by decide) (fun c_15 => ?_) (fun c_15 => ?_)
          · have h := q_t c_15 h
            cases h
            exact K37_10 _ _ _ hP hD hS (lv_sub hl [0, 1, 2, 3, 4, 5] rfl)
          · have h := q_f c_15 h
            refine lv_aload_n hx hb dX3_speed_44 rfl (lv_at hl 0 rfl) ?_
            refine va_get (D := D) (ci := 3) (v := .ref (q 8)) (C := RX3) (T := TX3) (N := 7) hx hb hts uX3_speed_X3 hown hK hP 0 rfl rfl 1 (by decide) (hts _ kX3_speed_4) (fun _ h9 => h9) rfl dX3_speed_45 ?_
            refine lv_aload_n hx hb dX3_speed_48 rfl (lv_at hl 0 rfl) ?_
            refine va_get (D := D) (ci := 3) (v := .ref (q 1)) (C := RX3) (T := TX3) (N := 7) hx hb hts uX3_speed_X3 hown hK hP 0 rfl rfl 0 (by decide) (hts _ kX3_speed_6) (fun _ h9 => h9) rfl dX3_speed_49 ?_
            obtain ⟨T_16, hc_17, h⟩ := q_bd_ok h
            refine q_cv (va_runV (As := [.ref (q 1)]) (rest := []) ⟨hx, hb, hml, hown, hts⟩ (c_X0_becomes l D y t (fun k => if k < 7 then q (k + 8) else q (k - 7 + 1)) _ N T R T_16 hc_17) (cwV 1 hts gX3_speed_X0_becomes rfl rfl rfl eX0_becomes ⟨Nat.le_of_ble_eq_true rfl, Nat.le_of_ble_eq_true rfl⟩) ⟨q_blind, (va_recv hK hP (ci := 0) (q0 := 8) rfl rfl), (q_pre hP hK hZ hD hA hS [8, 9, 10, 11, 12, 13, 14, 1, 2, 3, 4, 5, 6, 7] rfl (by decide))⟩ rfl rfl hl.1 rfl (lv_room (Nat.le_of_ble_eq_true rfl)) dX3_speed_52 ⟨Nat.zero_le _, Nat.zero_le _⟩) hP hD hA hS [8, 9, 10, 11, 12, 13, 14, 1, 2, 3, 4, 5, 6, 7] rfl (by decide) rfl (fun H locs hP hD hS => ?_)
            have hP : va_P D vwCl (wB y q b R T_16 K P B L) H := hP
            have hD : va_D A (wB y q b R T_16 K P B L) := hD
            refine lv_aload_n hx hb dX3_speed_55 rfl (lv_at hl 0 rfl) ?_
            refine va_get (D := D) (ci := 3) (v := .ref (q 8)) (C := RX3) (T := TX3) (N := 7) hx hb hts uX3_speed_X3 hown hK hP 0 rfl rfl 1 (by decide) (hts _ kX3_speed_4) (fun _ h9 => h9) rfl dX3_speed_56 ?_
            refine lv_iload hx hb dX3_speed_59 (lv_at hl 5 rfl) ?_
            obtain ⟨T_18, eT_18, h⟩ := q_let_ok h
            refine va_put (D := D) (ci := 0) (v := .int v5) (ty := .int) (C := RX0) (T := TX0) (N := 13) hx hb hts uX3_speed_X0 tyX0 tyX0_ok nmX0 hown hK hP hD hS 8 rfl rfl 2 (by decide) (hts _ kX3_speed_5) (fun _ h9 => h9) rfl (by decide +kernel) rfl rfl (Nat.le_of_ble_eq_true rfl) dX3_speed_61 (fun H locs hP hD hS => ?_)
            have hP : va_P D vwCl (wB y q b R T_18 K P B L) H := by rw [eT_18]; exact hP
            have hD : va_D A (wB y q b R T_18 K P B L) := by rw [eT_18]; exact hD
            refine lv_aload_n hx hb dX3_speed_64 rfl (lv_at hl 0 rfl) ?_
            refine va_get (D := D) (ci := 3) (v := .ref (q 8)) (C := RX3) (T := TX3) (N := 7) hx hb hts uX3_speed_X3 hown hK hP 0 rfl rfl 1 (by decide) (hts _ kX3_speed_4) (fun _ h9 => h9) rfl dX3_speed_65 ?_
            refine lv_iload_n hx hb dX3_speed_68 rfl (lv_at hl 2 rfl) ?_
            obtain ⟨T_19, hc_20, h⟩ := q_bd_ok h
            refine q_cv (va_runV (As := [.int v2]) (rest := []) ⟨hx, hb, hml, hown, hts⟩ (c_X0_goSeconds l D y t (fun k => q (k + 8)) _ N T_18 v2 T_19 hc_20) (cwV 1 hts gX3_speed_X0_goSeconds rfl rfl rfl eX0_goSeconds ⟨Nat.le_of_ble_eq_true rfl, Nat.le_of_ble_eq_true rfl⟩) ⟨q_blind, (va_recv hK hP (ci := 0) (q0 := 8) rfl rfl), (q_pre hP hK hZ hD hA hS [8, 9, 10, 11, 12, 13, 14] rfl (by decide))⟩ rfl rfl hl.1 rfl (lv_room (Nat.le_of_ble_eq_true rfl)) dX3_speed_69 ⟨Nat.zero_le _, Nat.zero_le _⟩) hP hD hA hS [8, 9, 10, 11, 12, 13, 14] rfl (by decide) rfl (fun H locs hP hD hS => ?_)
            have hP : va_P D vwCl (wB y q b R T_19 K P B L) H := hP
            have hD : va_D A (wB y q b R T_19 K P B L) := hD
            refine lv_aload_n hx hb dX3_speed_72 rfl (lv_at hl 0 rfl) ?_
            refine va_get (D := D) (ci := 3) (v := .ref (q 8)) (C := RX3) (T := TX3) (N := 7) hx hb hts uX3_speed_X3 hown hK hP 0 rfl rfl 1 (by decide) (hts _ kX3_speed_4) (fun _ h9 => h9) rfl dX3_speed_73 ?_
            refine va_get (D := D) (ci := 0) (v := .ref (q 12)) (C := RX0) (T := TX0) (N := 13) hx hb hts uX3_speed_X0 hown hK hP 8 rfl rfl 10 (by decide) (hts _ kX3_speed_2) (fun _ h9 => h9) rfl dX3_speed_76 ?_
            refine lv_iload_n hx hb dX3_speed_79 rfl (lv_at hl 1 rfl) ?_
            obtain ⟨z_21, h⟩ := q_grd_ok h
            refine va_iald hx hb hK hP 12 0 rfl rfl z_21 dX3_speed_80 ?_
            refine lv_iload hx hb dX3_speed_81 (lv_at hl 4 rfl) ?_
            refine lv_icmp_ge (tgt := 100) hx hb dX3_speed_83 (by decide) (fun c_22 => ?_) (fun c_22 => ?_)
            · have h := q_t c_22 h
              obtain ⟨x_23, ex_23, h⟩ := q_let_ok h
              refine lv_iinc (v := x_23) (lv' := [(5, .int x_23), (0, .ref (q 0)), (1, .int v1), (2, .int v2), (3, .int v3), (4, .int v4)]) hx hb dX3_speed_100 hl (k := 5) rfl (by rw [ex_23]; rfl) (by decide) rfl (fun ls hl => ?_)
              refine lv_goto (tgt := 37) hx hb dX3_speed_103 (by decide) ?_
              exact ih37_10 v3 v4 x_23 T_19 K37_10 _ _ _ hP hD hS (lv_sub hl [1, 2, 3, 4, 5, 0] rfl) h
            · have h := q_f c_22 h
              refine lv_aload_n hx hb dX3_speed_86 rfl (lv_at hl 0 rfl) ?_
              refine va_get (D := D) (ci := 3) (v := .ref (q 8)) (C := RX3) (T := TX3) (N := 7) hx hb hts uX3_speed_X3 hown hK hP 0 rfl rfl 1 (by decide) (hts _ kX3_speed_4) (fun _ h9 => h9) rfl dX3_speed_87 ?_
              refine va_get (D := D) (ci := 0) (v := .ref (q 12)) (C := RX0) (T := TX0) (N := 13) hx hb hts uX3_speed_X0 hown hK hP 8 rfl rfl 10 (by decide) (hts _ kX3_speed_2) (fun _ h9 => h9) rfl dX3_speed_90 ?_
              refine lv_iload_n hx hb dX3_speed_93 rfl (lv_at hl 1 rfl) ?_
              obtain ⟨z_24, h⟩ := q_grd_ok h
              refine va_iald hx hb hK hP 12 0 rfl rfl z_24 dX3_speed_94 ?_
              refine lv_topi (fun x_25 ex_25 => ?_)
              have h := q_let_at ex_25 h
              refine lv_istore (lv' := [(4, .int x_25), (0, .ref (q 0)), (1, .int v1), (2, .int v2), (3, .int v3), (5, .int v5)]) hx hb dX3_speed_95 hl (by decide) rfl (fun ls hl => ?_)
              refine lv_iload hx hb dX3_speed_97 (lv_at hl 5 rfl) ?_
              refine lv_istore_n (lv' := [(3, .int v5), (4, .int x_25), (0, .ref (q 0)), (1, .int v1), (2, .int v2), (5, .int v5)]) hx hb dX3_speed_99 rfl hl (by decide) rfl (fun ls hl => ?_)
              obtain ⟨x_26, ex_26, h⟩ := q_let_ok h
              refine lv_iinc (v := x_26) (lv' := [(5, .int x_26), (3, .int v5), (4, .int x_25), (0, .ref (q 0)), (1, .int v1), (2, .int v2)]) hx hb dX3_speed_100 hl (k := 5) rfl (by rw [ex_26]; rfl) (by decide) rfl (fun ls hl => ?_)
              refine lv_goto (tgt := 37) hx hb dX3_speed_103 (by decide) ?_
              exact ih37_10 v5 x_25 x_26 T_19 K37_10 _ _ _ hP hD hS (lv_sub hl [3, 4, 5, 1, 2, 0] rfl) h
      exact L37_10 b R K P B L p1 p2 N (1 : Int32) (100 : Int32) (1 : Int32) T K37_10 _ _ _ hP hD hS (lv_sub hl [3, 4, 5, 2, 1, 0] rfl) hL10
    · have h := q_t c_9 h
      exact B21 b R T K P B L _ _ _ hP hD hS (lv_sub hl [0] rfl) h
theorem eX3_speed : yX3_speed.cls = RX3 ∧ yX3_speed.cls ≠ "java/lang/invoke/MethodHandle" ∧ yX3_speed.cls ≠ "java/lang/invoke/VarHandle" ∧ (parseMethodDescriptor yX3_speed.desc).map (fun d => d.parameters.length) = some 2 := by decide +kernel
theorem kX3_far_0 : Cond.constant RX3 58 (-1000000001) ∈ wsX3_far := List.mem_of_getElem? (i := 2) (by decide +kernel)
theorem uX3_far_X0 : ∀ w ∈ u_ws RX0 TX0 13, w ∈ wsX3_far := by decide +kernel
theorem kX3_far_2 : Cond.fieldLink RX3 115 "BeamSeats$Island" "times" "[I" ∈ wsX3_far := List.mem_of_getElem? (i := 5) (by decide +kernel)
theorem uX3_far_X3 : ∀ w ∈ u_ws RX3 TX3 7, w ∈ wsX3_far := by decide +kernel
theorem kX3_far_4 : Cond.fieldLink RX3 16 "BeamSeats" "trial" "LBeamSeats$Island;" ∈ wsX3_far := List.mem_of_getElem? (i := 3) (by decide +kernel)
theorem kX3_far_5 : Cond.fieldLink RX3 100 "BeamSeats$Island" "outs" "[I" ∈ wsX3_far := List.mem_of_getElem? (i := 4) (by decide +kernel)
theorem kX3_far_6 : Cond.fieldLink RX3 10 "BeamSeats" "real" "LBeamSeats$Island;" ∈ wsX3_far := List.mem_of_getElem? (i := 1) (by decide +kernel)
def f_X3_far_B21 (N : Nat) (b : Nat → Nat → Int32) (R : Nat → Nat → Int32) (T : Nat → Nat → Int32) (K : Nat → Nat → Int32) (P : Nat → Nat → Int32) (B : Nat → Nat → Int32) (L : Nat → Nat → Int64) : Option (Int32 × (Nat → Nat → Int32) × (Nat → Nat → Int32)) :=
  q_bd2 (f_X3_found N b R T K P B L (-1000000001 : Int32)) (fun r_4 b_5 =>
  some (r_4, b_5, T))
def f_X3_far_L36 (N : Nat) (b : Nat → Nat → Int32) (R : Nat → Nat → Int32) (K : Nat → Nat → Int32) (P : Nat → Nat → Int32) (B : Nat → Nat → Int32) (L : Nat → Nat → Int64) (v1 : Int32) (v2 : Int32) : Nat → Int32 → Int32 → Int32 → (Nat → Nat → Int32) → Option (Int32 × Int32 × Int32 × (Nat → Nat → Int32))
  | 0, _, _, _, _ => none
  | k + 1, v3, v4, v5, T =>
    if (9 : Int32) < v5 then
      some (v3, v4, v5, T)
    else
      q_bd (f_X0_becomes N T R) (fun T_16 =>
      q_grd v1 8 (
      q_let (q_up T_16 3 v1.toNatClampNeg v5) (fun T_19 =>
      q_bd (f_X0_goSeconds N T_19 v2) (fun T_20 =>
      q_grd v1 8 (
      if (T_20 6 v1.toNatClampNeg) ≤ v4 then
        q_let (v5 + 1) (fun x_24 =>
        f_X3_far_L36 N b R K P B L v1 v2 k v3 v4 x_24 T_20)
      else
        q_grd v1 8 (
        q_let (T_20 6 v1.toNatClampNeg) (fun x_26 =>
        q_let (v5 + 1) (fun x_27 =>
        f_X3_far_L36 N b R K P B L v1 v2 k v5 x_26 x_27 T_20))))))))
def f_X3_far (N : Nat) (b : Nat → Nat → Int32) (R : Nat → Nat → Int32) (T : Nat → Nat → Int32) (K : Nat → Nat → Int32) (P : Nat → Nat → Int32) (B : Nat → Nat → Int32) (L : Nat → Nat → Int64) (p1 : Int32) (p2 : Int32) : Option (Int32 × (Nat → Nat → Int32) × (Nat → Nat → Int32)) :=
  q_bd (f_X0_has N R p1) (fun r_1 =>
  if r_1 = 0 then
    f_X3_far_B21 N b R T K P B L
  else
    q_bd (f_X3_within N p2 (1 : Int32) (120 : Int32)) (fun r_7 =>
    if r_7 = 0 then
      f_X3_far_B21 N b R T K P B L
    else
      q_bd4 (f_X3_far_L36 N b R K P B L p1 p2 N (0 : Int32) (-1 : Int32) (0 : Int32) T) (fun x_11 x_12 x_13 T_14 =>
      some (x_11, b, T_14))))
set_option maxHeartbeats 4000000 in
set_option maxRecDepth 100000 in
theorem c_X3_far (l : Launch) (D : va_G) (y : Nat → ClassId) (t : Nat → Nat) (q : Nat → Nat) (sz N : Nat) (b : Nat → Nat → Int32) (R : Nat → Nat → Int32) (T : Nat → Nat → Int32) (K : Nat → Nat → Int32) (P : Nat → Nat → Int32) (B : Nat → Nat → Int32) (L : Nat → Nat → Int64) (p1 : Int32) (p2 : Int32) (res : Int32 × (Nat → Nat → Int32) × (Nat → Nat → Int32)) (h : f_X3_far N b R T K P B L p1 p2 = some res) : Met l yX3_far wsX3_far ({ frames := 5, cells := 0, slots := 0, locals := 113 } : Room) (pPre D y t [.ref (q 0), .int p1, .int p2] (wB y q b R T K P B L) sz) (pQi D y (res.1) (wB y q (res.2.1) R (res.2.2) K P B L) (va_A (wB y q b R T K P B L) sz)) 0 0 (va_A (wB y q b R T K P B L) sz) := by
  refine q_start (Qc := (fun A => pQi D y (res.1) (wB y q (res.2.1) R (res.2.2) K P B L) A)) (cc := cX3_far) (maxL := 6) (ret := (some .int)) (by decide) rfl (Nat.le_of_ble_eq_true rfl) ?_
  intro p e s m below meth c A ls hx hb hr hts hown hlocks hmn hml hP hK hZ hD hA hS hl
  have hl : lv_has ls 6 [(0, .ref (q 0)), (1, .int p1), (2, .int p2)] := hl
  have hown : s.vm.findClass RX3 = some m.cls := hown
  have B21 : ∀ (b : Nat → Nat → Int32) (R : Nat → Nat → Int32) (T : Nat → Nat → Int32) (K : Nat → Nat → Int32) (P : Nat → Nat → Int32) (B : Nat → Nat → Int32) (L : Nat → Nat → Int64) (H : Heap) (locs : List Loc) (ls : Array Slot), va_P D vwCl (wB y q b R T K P B L) H → va_D A (wB y q b R T K P B L) → va_S A s.heap H locs → lv_has ls 6 [(0, .ref (q 0))] → f_X3_far_B21 N b R T K P B L = some res → W p l e ({ frames := 5, cells := 0, slots := 0, locals := 113 } : Room) s m ([.ref (q 0), .int p1, .int p2] : List Value).toArray below meth c H locs 0 0 (MQ below (pQi D y (res.1) (wB y q (res.2.1) R (res.2.2) K P B L) A) ([.ref (q 0), .int p1, .int p2] : List Value).toArray s 0 0 A) (F0 m 21 ls []) := by
    intro b R T K P B L H locs ls hP hD hS hl h
    unfold f_X3_far_B21 at h
    refine lv_aload_n hx hb dX3_far_21 rfl (lv_at hl 0 rfl) ?_
    refine lv_ldc (v := -1000000001) hx hb hown (hts _ kX3_far_0) dX3_far_22 ?_
    obtain ⟨r_4, b_5, hc_6, h⟩ := q_bd2_ok h
    refine q_ci0 (r := r_4) (va_runV (As := [.int (-1000000001 : Int32)]) (rest := []) ⟨hx, hb, hml, hown, hts⟩ (c_X3_found l D y t q _ N b R T K P B L (-1000000001 : Int32) (r_4, b_5) hc_6) (cwV 1 hts gX3_far_X3_found rfl rfl rfl eX3_found ⟨Nat.le_of_ble_eq_true rfl, Nat.le_of_ble_eq_true rfl⟩) ⟨q_blind, (va_recv hK hP (ci := 3) (q0 := 0) rfl rfl), (q_pre0 hP hK hZ hD hA hS)⟩ rfl rfl hl.1 rfl (lv_room (Nat.le_of_ble_eq_true rfl)) dX3_far_24 ⟨Nat.zero_le _, Nat.zero_le _⟩) hD hA hS (fun H locs hP hD hS => ?_)
    have hP : va_P D vwCl (wB y q b_5 R T K P B L) H := hP
    have hD : va_D A (wB y q b_5 R T K P B L) := hD
    have e9 := Option.some.inj h
    exact q_iret hx hb hr hlocks hK hP hD hS dX3_far_27 (by first | rw [← e9] | rfl) (by first | rw [← e9] | rfl)
  unfold f_X3_far at h
  refine lv_aload_n hx hb dX3_far_0 rfl (lv_at hl 0 rfl) ?_
  refine va_get (D := D) (ci := 3) (v := .ref (q 1)) (C := RX3) (T := TX3) (N := 7) hx hb hts uX3_far_X3 hown hK hP 0 rfl rfl 0 (by decide) (hts _ kX3_far_6) (fun _ h9 => h9) rfl dX3_far_1 ?_
  refine lv_iload_n hx hb dX3_far_4 rfl (lv_at hl 1 rfl) ?_
  obtain ⟨r_1, hc_2, h⟩ := q_bd_ok h
  refine q_ci (r := r_1) (va_runV (As := [.int p1]) (rest := []) ⟨hx, hb, hml, hown, hts⟩ (c_X0_has l D y t (fun k => q (k + 1)) _ N R p1 r_1 hc_2) (cwV 1 hts gX3_far_X0_has rfl rfl rfl eX0_has ⟨Nat.le_of_ble_eq_true rfl, Nat.le_of_ble_eq_true rfl⟩) ⟨q_blind, (va_recv hK hP (ci := 0) (q0 := 1) rfl rfl), (q_pre hP hK hZ hD hA hS [1, 2, 3, 4, 5, 6, 7] rfl (by decide))⟩ rfl rfl hl.1 rfl (lv_room (Nat.le_of_ble_eq_true rfl)) dX3_far_5 ⟨Nat.zero_le _, Nat.zero_le _⟩) hP hD hA hS [1, 2, 3, 4, 5, 6, 7] rfl (by decide) rfl (fun H locs hP hD hS => ?_)
  have hP : va_P D vwCl (wB y q b R T K P B L) H := hP
  have hD : va_D A (wB y q b R T K P B L) := hD
  refine lv_if_eq (tgt := 21) hx hb dX3_far_8 (by decide) (fun c_3 => ?_) (fun c_3 => ?_)
  · have h := q_t c_3 h
    exact B21 b R T K P B L _ _ _ hP hD hS (lv_sub hl [0] rfl) h
  · have h := q_f c_3 h
    refine lv_iload_n hx hb dX3_far_11 rfl (lv_at hl 2 rfl) ?_
    refine lv_iconst (v := 1) hx hb dX3_far_12 (by decide) ?_
    refine lv_bipush (v := 120) hx hb dX3_far_13 (by decide) ?_
    obtain ⟨r_7, hc_8, h⟩ := q_bd_ok h
    refine q_ci (r := r_7) (va_runS (As := [.int p2, .int (1 : Int32), .int (120 : Int32)]) (rest := []) ⟨hx, hb, hml, hown, hts⟩ (c_X3_within l D y t q _ N p2 (1 : Int32) (120 : Int32) r_7 hc_8) (va_cwS 3 hts gX3_far_X3_within rfl rfl rfl eX3_within ⟨Nat.le_of_ble_eq_true rfl, Nat.le_of_ble_eq_true rfl⟩) ⟨q_blind, (q_pre hP hK hZ hD hA hS [] rfl (by decide))⟩ rfl rfl hl.1 rfl (lv_room (Nat.le_of_ble_eq_true rfl)) dX3_far_15 ⟨Nat.zero_le _, Nat.zero_le _⟩) hP hD hA hS [] rfl (by decide) rfl (fun H locs hP hD hS => ?_)
    have hP : va_P D vwCl (wB y q b R T K P B L) H := hP
    have hD : va_D A (wB y q b R T K P B L) := hD
    refine lv_if_ne (tgt := 28) hx hb dX3_far_18 (by decide) (fun c_9 => ?_) (fun c_9 => ?_)
    · have h := q_f c_9 h
      refine lv_iconst (v := 0) hx hb dX3_far_28 (by decide) ?_
      refine lv_istore_n (lv' := [(3, .int (0 : Int32)), (0, .ref (q 0)), (1, .int p1), (2, .int p2)]) hx hb dX3_far_29 rfl hl (by decide) rfl (fun ls hl => ?_)
      refine lv_iconst (v := -1) hx hb dX3_far_30 (by decide) ?_
      refine lv_istore (lv' := [(4, .int (-1 : Int32)), (3, .int (0 : Int32)), (0, .ref (q 0)), (1, .int p1), (2, .int p2)]) hx hb dX3_far_31 hl (by decide) rfl (fun ls hl => ?_)
      refine lv_iconst (v := 0) hx hb dX3_far_33 (by decide) ?_
      refine lv_istore (lv' := [(5, .int (0 : Int32)), (4, .int (-1 : Int32)), (3, .int (0 : Int32)), (0, .ref (q 0)), (1, .int p1), (2, .int p2)]) hx hb dX3_far_34 hl (by decide) rfl (fun ls hl => ?_)
      obtain ⟨x_11, x_12, x_13, T_14, hL10, h⟩ := q_bd4_ok h
      have K36_10 : ∀ (H : Heap) (locs : List Loc) (ls : Array Slot), va_P D vwCl (wB y q b R T_14 K P B L) H → va_D A (wB y q b R T_14 K P B L) → va_S A s.heap H locs → lv_has ls 6 [(0, .ref (q 0)), (1, .int p1), (2, .int p2), (3, .int x_11), (4, .int x_12), (5, .int x_13)] → W p l e ({ frames := 5, cells := 0, slots := 0, locals := 113 } : Room) s m ([.ref (q 0), .int p1, .int p2] : List Value).toArray below meth c H locs 0 0 (MQ below (pQi D y (res.1) (wB y q (res.2.1) R (res.2.2) K P B L) A) ([.ref (q 0), .int p1, .int p2] : List Value).toArray s 0 0 A) (F0 m 107 ls []) := by
        intro H locs ls hP hD hS hl
        refine lv_iload_n hx hb dX3_far_107 rfl (lv_at hl 3 rfl) ?_
        have e9 := Option.some.inj h
        exact q_iret hx hb hr hlocks hK hP hD hS dX3_far_108 (by first | rw [← e9] | rfl) (by first | rw [← e9] | rfl)
      have L36_10 : ∀ (b : Nat → Nat → Int32) (R : Nat → Nat → Int32) (K : Nat → Nat → Int32) (P : Nat → Nat → Int32) (B : Nat → Nat → Int32) (L : Nat → Nat → Int64) (v1 : Int32) (v2 : Int32) (k : Nat) (v3 : Int32) (v4 : Int32) (v5 : Int32) (T : Nat → Nat → Int32), (∀ (H : Heap) (locs : List Loc) (ls : Array Slot), va_P D vwCl (wB y q b R T_14 K P B L) H → va_D A (wB y q b R T_14 K P B L) → va_S A s.heap H locs → lv_has ls 6 [(0, .ref (q 0)), (1, .int v1), (2, .int v2), (3, .int x_11), (4, .int x_12), (5, .int x_13)] → W p l e ({ frames := 5, cells := 0, slots := 0, locals := 113 } : Room) s m ([.ref (q 0), .int p1, .int p2] : List Value).toArray below meth c H locs 0 0 (MQ below (pQi D y (res.1) (wB y q (res.2.1) R (res.2.2) K P B L) A) ([.ref (q 0), .int p1, .int p2] : List Value).toArray s 0 0 A) (F0 m 107 ls [])) → ∀ (H : Heap) (locs : List Loc) (ls : Array Slot), va_P D vwCl (wB y q b R T K P B L) H → va_D A (wB y q b R T K P B L) → va_S A s.heap H locs → lv_has ls 6 [(0, .ref (q 0)), (1, .int v1), (2, .int v2), (3, .int v3), (4, .int v4), (5, .int v5)] → f_X3_far_L36 N b R K P B L v1 v2 k v3 v4 v5 T = some (x_11, x_12, x_13, T_14) → W p l e ({ frames := 5, cells := 0, slots := 0, locals := 113 } : Room) s m ([.ref (q 0), .int p1, .int p2] : List Value).toArray below meth c H locs 0 0 (MQ below (pQi D y (res.1) (wB y q (res.2.1) R (res.2.2) K P B L) A) ([.ref (q 0), .int p1, .int p2] : List Value).toArray s 0 0 A) (F0 m 36 ls []) := by
        intro b R K P B L v1 v2 k
        induction k with
        | zero =>
          intro v3 v4 v5 T K36_10 H locs ls hP hD hS hl h
          have h : (none : Option (Int32 × Int32 × Int32 × (Nat → Nat → Int32))) = some _ := h
          cases h
        | succ k ih36_10 =>
          intro v3 v4 v5 T K36_10 H locs ls hP hD hS hl h
          rw [f_X3_far_L36] at h
          refine lv_iload hx hb dX3_far_36 (lv_at hl 5 rfl) ?_
          refine lv_bipush (v := 9) hx hb dX3_far_38 (by decide) ?_
          refine lv_icmp_gt (tgt := 107) hx hb dX3_far_40 (by decide) (fun c_15 => ?_) (fun c_15 => ?_)
          · have h := q_t c_15 h
            cases h
            exact K36_10 _ _ _ hP hD hS (lv_sub hl [0, 1, 2, 3, 4, 5] rfl)
          · have h := q_f c_15 h
            refine lv_aload_n hx hb dX3_far_43 rfl (lv_at hl 0 rfl) ?_
            refine va_get (D := D) (ci := 3) (v := .ref (q 8)) (C := RX3) (T := TX3) (N := 7) hx hb hts uX3_far_X3 hown hK hP 0 rfl rfl 1 (by decide) (hts _ kX3_far_4) (fun _ h9 => h9) rfl dX3_far_44 ?_
            refine lv_aload_n hx hb dX3_far_47 rfl (lv_at hl 0 rfl) ?_
            refine va_get (D := D) (ci := 3) (v := .ref (q 1)) (C := RX3) (T := TX3) (N := 7) hx hb hts uX3_far_X3 hown hK hP 0 rfl rfl 0 (by decide) (hts _ kX3_far_6) (fun _ h9 => h9) rfl dX3_far_48 ?_
            obtain ⟨T_16, hc_17, h⟩ := q_bd_ok h
            refine q_cv (va_runV (As := [.ref (q 1)]) (rest := []) ⟨hx, hb, hml, hown, hts⟩ (c_X0_becomes l D y t (fun k => if k < 7 then q (k + 8) else q (k - 7 + 1)) _ N T R T_16 hc_17) (cwV 1 hts gX3_far_X0_becomes rfl rfl rfl eX0_becomes ⟨Nat.le_of_ble_eq_true rfl, Nat.le_of_ble_eq_true rfl⟩) ⟨q_blind, (va_recv hK hP (ci := 0) (q0 := 8) rfl rfl), (q_pre hP hK hZ hD hA hS [8, 9, 10, 11, 12, 13, 14, 1, 2, 3, 4, 5, 6, 7] rfl (by decide))⟩ rfl rfl hl.1 rfl (lv_room (Nat.le_of_ble_eq_true rfl)) dX3_far_51 ⟨Nat.zero_le _, Nat.zero_le _⟩) hP hD hA hS [8, 9, 10, 11, 12, 13, 14, 1, 2, 3, 4, 5, 6, 7] rfl (by decide) rfl (fun H locs hP hD hS => ?_)
            have hP : va_P D vwCl (wB y q b R T_16 K P B L) H := hP
            have hD : va_D A (wB y q b R T_16 K P B L) := hD
            refine lv_aload_n hx hb dX3_far_54 rfl (lv_at hl 0 rfl) ?_
            refine va_get (D := D) (ci := 3) (v := .ref (q 8)) (C := RX3) (T := TX3) (N := 7) hx hb hts uX3_far_X3 hown hK hP 0 rfl rfl 1 (by decide) (hts _ kX3_far_4) (fun _ h9 => h9) rfl dX3_far_55 ?_
            refine va_get (D := D) (ci := 0) (v := .ref (q 11)) (C := RX0) (T := TX0) (N := 13) hx hb hts uX3_far_X0 hown hK hP 8 rfl rfl 9 (by decide) (hts _ kX3_far_5) (fun _ h9 => h9) rfl dX3_far_58 ?_
            refine lv_iload_n hx hb dX3_far_61 rfl (lv_at hl 1 rfl) ?_
            refine lv_iload hx hb dX3_far_62 (lv_at hl 5 rfl) ?_
            obtain ⟨z_18, h⟩ := q_grd_ok h
            obtain ⟨T_19, eT_19, h⟩ := q_let_ok h
            refine va_iast hx hb hK hP hD hS 11 0 rfl rfl z_18 dX3_far_64 (fun H locs hP hD hS => ?_)
            have hP : va_P D vwCl (wB y q b R T_19 K P B L) H := by rw [eT_19]; exact hP
            have hD : va_D A (wB y q b R T_19 K P B L) := by rw [eT_19]; exact hD
            refine lv_aload_n hx hb dX3_far_65 rfl (lv_at hl 0 rfl) ?_
            refine va_get (D := D) (ci := 3) (v := .ref (q 8)) (C := RX3) (T := TX3) (N := 7) hx hb hts uX3_far_X3 hown hK hP 0 rfl rfl 1 (by decide) (hts _ kX3_far_4) (fun _ h9 => h9) rfl dX3_far_66 ?_
            refine lv_iload_n hx hb dX3_far_69 rfl (lv_at hl 2 rfl) ?_
            obtain ⟨T_20, hc_21, h⟩ := q_bd_ok h
            refine q_cv (va_runV (As := [.int v2]) (rest := []) ⟨hx, hb, hml, hown, hts⟩ (c_X0_goSeconds l D y t (fun k => q (k + 8)) _ N T_19 v2 T_20 hc_21) (cwV 1 hts gX3_far_X0_goSeconds rfl rfl rfl eX0_goSeconds ⟨Nat.le_of_ble_eq_true rfl, Nat.le_of_ble_eq_true rfl⟩) ⟨q_blind, (va_recv hK hP (ci := 0) (q0 := 8) rfl rfl), (q_pre hP hK hZ hD hA hS [8, 9, 10, 11, 12, 13, 14] rfl (by decide))⟩ rfl rfl hl.1 rfl (lv_room (Nat.le_of_ble_eq_true rfl)) dX3_far_70 ⟨Nat.zero_le _, Nat.zero_le _⟩) hP hD hA hS [8, 9, 10, 11, 12, 13, 14] rfl (by decide) rfl (fun H locs hP hD hS => ?_)
            have hP : va_P D vwCl (wB y q b R T_20 K P B L) H := hP
            have hD : va_D A (wB y q b R T_20 K P B L) := hD
            refine lv_aload_n hx hb dX3_far_73 rfl (lv_at hl 0 rfl) ?_
            refine va_get (D := D) (ci := 3) (v := .ref (q 8)) (C := RX3) (T := TX3) (N := 7) hx hb hts uX3_far_X3 hown hK hP 0 rfl rfl 1 (by decide) (hts _ kX3_far_4) (fun _ h9 => h9) rfl dX3_far_74 ?_
            refine va_get (D := D) (ci := 0) (v := .ref (q 14)) (C := RX0) (T := TX0) (N := 13) hx hb hts uX3_far_X0 hown hK hP 8 rfl rfl 12 (by decide) (hts _ kX3_far_2) (fun _ h9 => h9) rfl dX3_far_77 ?_
            refine lv_iload_n hx hb dX3_far_80 rfl (lv_at hl 1 rfl) ?_
            obtain ⟨z_22, h⟩ := q_grd_ok h
            refine va_iald hx hb hK hP 14 0 rfl rfl z_22 dX3_far_81 ?_
            refine lv_iload hx hb dX3_far_82 (lv_at hl 4 rfl) ?_
            refine lv_icmp_le (tgt := 101) hx hb dX3_far_84 (by decide) (fun c_23 => ?_) (fun c_23 => ?_)
            · have h := q_t c_23 h
              obtain ⟨x_24, ex_24, h⟩ := q_let_ok h
              refine lv_iinc (v := x_24) (lv' := [(5, .int x_24), (0, .ref (q 0)), (1, .int v1), (2, .int v2), (3, .int v3), (4, .int v4)]) hx hb dX3_far_101 hl (k := 5) rfl (by rw [ex_24]; rfl) (by decide) rfl (fun ls hl => ?_)
              refine lv_goto (tgt := 36) hx hb dX3_far_104 (by decide) ?_
              exact ih36_10 v3 v4 x_24 T_20 K36_10 _ _ _ hP hD hS (lv_sub hl [1, 2, 3, 4, 5, 0] rfl) h
            · have h := q_f c_23 h
              refine lv_aload_n hx hb dX3_far_87 rfl (lv_at hl 0 rfl) ?_
              refine va_get (D := D) (ci := 3) (v := .ref (q 8)) (C := RX3) (T := TX3) (N := 7) hx hb hts uX3_far_X3 hown hK hP 0 rfl rfl 1 (by decide) (hts _ kX3_far_4) (fun _ h9 => h9) rfl dX3_far_88 ?_
              refine va_get (D := D) (ci := 0) (v := .ref (q 14)) (C := RX0) (T := TX0) (N := 13) hx hb hts uX3_far_X0 hown hK hP 8 rfl rfl 12 (by decide) (hts _ kX3_far_2) (fun _ h9 => h9) rfl dX3_far_91 ?_
              refine lv_iload_n hx hb dX3_far_94 rfl (lv_at hl 1 rfl) ?_
              obtain ⟨z_25, h⟩ := q_grd_ok h
              refine va_iald hx hb hK hP 14 0 rfl rfl z_25 dX3_far_95 ?_
              refine lv_topi (fun x_26 ex_26 => ?_)
              have h := q_let_at ex_26 h
              refine lv_istore (lv' := [(4, .int x_26), (0, .ref (q 0)), (1, .int v1), (2, .int v2), (3, .int v3), (5, .int v5)]) hx hb dX3_far_96 hl (by decide) rfl (fun ls hl => ?_)
              refine lv_iload hx hb dX3_far_98 (lv_at hl 5 rfl) ?_
              refine lv_istore_n (lv' := [(3, .int v5), (4, .int x_26), (0, .ref (q 0)), (1, .int v1), (2, .int v2), (5, .int v5)]) hx hb dX3_far_100 rfl hl (by decide) rfl (fun ls hl => ?_)
              obtain ⟨x_27, ex_27, h⟩ := q_let_ok h
              refine lv_iinc (v := x_27) (lv' := [(5, .int x_27), (3, .int v5), (4, .int x_26), (0, .ref (q 0)), (1, .int v1), (2, .int v2)]) hx hb dX3_far_101 hl (k := 5) rfl (by rw [ex_27]; rfl) (by decide) rfl (fun ls hl => ?_)
              refine lv_goto (tgt := 36) hx hb dX3_far_104 (by decide) ?_
              exact ih36_10 v5 x_26 x_27 T_20 K36_10 _ _ _ hP hD hS (lv_sub hl [3, 4, 5, 1, 2, 0] rfl) h
      exact L36_10 b R K P B L p1 p2 N (0 : Int32) (-1 : Int32) (0 : Int32) T K36_10 _ _ _ hP hD hS (lv_sub hl [3, 4, 5, 2, 1, 0] rfl) hL10
    · have h := q_t c_9 h
      exact B21 b R T K P B L _ _ _ hP hD hS (lv_sub hl [0] rfl) h
theorem eX3_far : yX3_far.cls = RX3 ∧ yX3_far.cls ≠ "java/lang/invoke/MethodHandle" ∧ yX3_far.cls ≠ "java/lang/invoke/VarHandle" ∧ (parseMethodDescriptor yX3_far.desc).map (fun d => d.parameters.length) = some 2 := by decide +kernel
theorem kX3_kind_0 : Cond.constant RX3 58 (-1000000001) ∈ wsX3_kind := List.mem_of_getElem? (i := 2) (by decide +kernel)
theorem uX3_kind_X0 : ∀ w ∈ u_ws RX0 TX0 13, w ∈ wsX3_kind := by decide +kernel
theorem kX3_kind_2 : Cond.fieldLink RX3 106 "BeamSeats$Island" "wets" "[I" ∈ wsX3_kind := List.mem_of_getElem? (i := 5) (by decide +kernel)
theorem uX3_kind_X3 : ∀ w ∈ u_ws RX3 TX3 7, w ∈ wsX3_kind := by decide +kernel
theorem kX3_kind_4 : Cond.fieldLink RX3 16 "BeamSeats" "trial" "LBeamSeats$Island;" ∈ wsX3_kind := List.mem_of_getElem? (i := 3) (by decide +kernel)
theorem kX3_kind_5 : Cond.fieldLink RX3 94 "BeamSeats$Island" "kinds" "[I" ∈ wsX3_kind := List.mem_of_getElem? (i := 4) (by decide +kernel)
theorem kX3_kind_6 : Cond.fieldLink RX3 10 "BeamSeats" "real" "LBeamSeats$Island;" ∈ wsX3_kind := List.mem_of_getElem? (i := 1) (by decide +kernel)
def f_X3_kind_B21 (N : Nat) (b : Nat → Nat → Int32) (R : Nat → Nat → Int32) (T : Nat → Nat → Int32) (K : Nat → Nat → Int32) (P : Nat → Nat → Int32) (B : Nat → Nat → Int32) (L : Nat → Nat → Int64) : Option (Int32 × (Nat → Nat → Int32) × (Nat → Nat → Int32)) :=
  q_bd2 (f_X3_found N b R T K P B L (-1000000001 : Int32)) (fun r_4 b_5 =>
  some (r_4, b_5, T))
def f_X3_kind_L37 (N : Nat) (b : Nat → Nat → Int32) (R : Nat → Nat → Int32) (K : Nat → Nat → Int32) (P : Nat → Nat → Int32) (B : Nat → Nat → Int32) (L : Nat → Nat → Int64) (v1 : Int32) (v2 : Int32) : Nat → Int32 → Int32 → Int32 → (Nat → Nat → Int32) → Option (Int32 × Int32 × Int32 × (Nat → Nat → Int32))
  | 0, _, _, _, _ => none
  | k + 1, v3, v4, v5, T =>
    if (5 : Int32) < v5 then
      some (v3, v4, v5, T)
    else
      q_bd (f_X0_becomes N T R) (fun T_16 =>
      q_grd v1 8 (
      q_let (q_up T_16 1 v1.toNatClampNeg v5) (fun T_19 =>
      q_bd (f_X0_goSeconds N T_19 v2) (fun T_20 =>
      q_grd v1 8 (
      if v4 ≤ (T_20 4 v1.toNatClampNeg) then
        q_let (v5 + 1) (fun x_24 =>
        f_X3_kind_L37 N b R K P B L v1 v2 k v3 v4 x_24 T_20)
      else
        q_grd v1 8 (
        q_let (T_20 4 v1.toNatClampNeg) (fun x_26 =>
        q_let (v5 + 1) (fun x_27 =>
        f_X3_kind_L37 N b R K P B L v1 v2 k v5 x_26 x_27 T_20))))))))
def f_X3_kind (N : Nat) (b : Nat → Nat → Int32) (R : Nat → Nat → Int32) (T : Nat → Nat → Int32) (K : Nat → Nat → Int32) (P : Nat → Nat → Int32) (B : Nat → Nat → Int32) (L : Nat → Nat → Int64) (p1 : Int32) (p2 : Int32) : Option (Int32 × (Nat → Nat → Int32) × (Nat → Nat → Int32)) :=
  q_bd (f_X0_has N R p1) (fun r_1 =>
  if r_1 = 0 then
    f_X3_kind_B21 N b R T K P B L
  else
    q_bd (f_X3_within N p2 (1 : Int32) (120 : Int32)) (fun r_7 =>
    if r_7 = 0 then
      f_X3_kind_B21 N b R T K P B L
    else
      q_bd4 (f_X3_kind_L37 N b R K P B L p1 p2 N (0 : Int32) (100 : Int32) (0 : Int32) T) (fun x_11 x_12 x_13 T_14 =>
      some (x_11, b, T_14))))
set_option maxHeartbeats 4000000 in
set_option maxRecDepth 100000 in
theorem c_X3_kind (l : Launch) (D : va_G) (y : Nat → ClassId) (t : Nat → Nat) (q : Nat → Nat) (sz N : Nat) (b : Nat → Nat → Int32) (R : Nat → Nat → Int32) (T : Nat → Nat → Int32) (K : Nat → Nat → Int32) (P : Nat → Nat → Int32) (B : Nat → Nat → Int32) (L : Nat → Nat → Int64) (p1 : Int32) (p2 : Int32) (res : Int32 × (Nat → Nat → Int32) × (Nat → Nat → Int32)) (h : f_X3_kind N b R T K P B L p1 p2 = some res) : Met l yX3_kind wsX3_kind ({ frames := 5, cells := 0, slots := 0, locals := 113 } : Room) (pPre D y t [.ref (q 0), .int p1, .int p2] (wB y q b R T K P B L) sz) (pQi D y (res.1) (wB y q (res.2.1) R (res.2.2) K P B L) (va_A (wB y q b R T K P B L) sz)) 0 0 (va_A (wB y q b R T K P B L) sz) := by
  refine q_start (Qc := (fun A => pQi D y (res.1) (wB y q (res.2.1) R (res.2.2) K P B L) A)) (cc := cX3_kind) (maxL := 6) (ret := (some .int)) (by decide) rfl (Nat.le_of_ble_eq_true rfl) ?_
  intro p e s m below meth c A ls hx hb hr hts hown hlocks hmn hml hP hK hZ hD hA hS hl
  have hl : lv_has ls 6 [(0, .ref (q 0)), (1, .int p1), (2, .int p2)] := hl
  have hown : s.vm.findClass RX3 = some m.cls := hown
  have B21 : ∀ (b : Nat → Nat → Int32) (R : Nat → Nat → Int32) (T : Nat → Nat → Int32) (K : Nat → Nat → Int32) (P : Nat → Nat → Int32) (B : Nat → Nat → Int32) (L : Nat → Nat → Int64) (H : Heap) (locs : List Loc) (ls : Array Slot), va_P D vwCl (wB y q b R T K P B L) H → va_D A (wB y q b R T K P B L) → va_S A s.heap H locs → lv_has ls 6 [(0, .ref (q 0))] → f_X3_kind_B21 N b R T K P B L = some res → W p l e ({ frames := 5, cells := 0, slots := 0, locals := 113 } : Room) s m ([.ref (q 0), .int p1, .int p2] : List Value).toArray below meth c H locs 0 0 (MQ below (pQi D y (res.1) (wB y q (res.2.1) R (res.2.2) K P B L) A) ([.ref (q 0), .int p1, .int p2] : List Value).toArray s 0 0 A) (F0 m 21 ls []) := by
    intro b R T K P B L H locs ls hP hD hS hl h
    unfold f_X3_kind_B21 at h
    refine lv_aload_n hx hb dX3_kind_21 rfl (lv_at hl 0 rfl) ?_
    refine lv_ldc (v := -1000000001) hx hb hown (hts _ kX3_kind_0) dX3_kind_22 ?_
    obtain ⟨r_4, b_5, hc_6, h⟩ := q_bd2_ok h
    refine q_ci0 (r := r_4) (va_runV (As := [.int (-1000000001 : Int32)]) (rest := []) ⟨hx, hb, hml, hown, hts⟩ (c_X3_found l D y t q _ N b R T K P B L (-1000000001 : Int32) (r_4, b_5) hc_6) (cwV 1 hts gX3_kind_X3_found rfl rfl rfl eX3_found ⟨Nat.le_of_ble_eq_true rfl, Nat.le_of_ble_eq_true rfl⟩) ⟨q_blind, (va_recv hK hP (ci := 3) (q0 := 0) rfl rfl), (q_pre0 hP hK hZ hD hA hS)⟩ rfl rfl hl.1 rfl (lv_room (Nat.le_of_ble_eq_true rfl)) dX3_kind_24 ⟨Nat.zero_le _, Nat.zero_le _⟩) hD hA hS (fun H locs hP hD hS => ?_)
    have hP : va_P D vwCl (wB y q b_5 R T K P B L) H := hP
    have hD : va_D A (wB y q b_5 R T K P B L) := hD
    have e9 := Option.some.inj h
    exact q_iret hx hb hr hlocks hK hP hD hS dX3_kind_27 (by first | rw [← e9] | rfl) (by first | rw [← e9] | rfl)
  unfold f_X3_kind at h
  refine lv_aload_n hx hb dX3_kind_0 rfl (lv_at hl 0 rfl) ?_
  refine va_get (D := D) (ci := 3) (v := .ref (q 1)) (C := RX3) (T := TX3) (N := 7) hx hb hts uX3_kind_X3 hown hK hP 0 rfl rfl 0 (by decide) (hts _ kX3_kind_6) (fun _ h9 => h9) rfl dX3_kind_1 ?_
  refine lv_iload_n hx hb dX3_kind_4 rfl (lv_at hl 1 rfl) ?_
  obtain ⟨r_1, hc_2, h⟩ := q_bd_ok h
  refine q_ci (r := r_1) (va_runV (As := [.int p1]) (rest := []) ⟨hx, hb, hml, hown, hts⟩ (c_X0_has l D y t (fun k => q (k + 1)) _ N R p1 r_1 hc_2) (cwV 1 hts gX3_kind_X0_has rfl rfl rfl eX0_has ⟨Nat.le_of_ble_eq_true rfl, Nat.le_of_ble_eq_true rfl⟩) ⟨q_blind, (va_recv hK hP (ci := 0) (q0 := 1) rfl rfl), (q_pre hP hK hZ hD hA hS [1, 2, 3, 4, 5, 6, 7] rfl (by decide))⟩ rfl rfl hl.1 rfl (lv_room (Nat.le_of_ble_eq_true rfl)) dX3_kind_5 ⟨Nat.zero_le _, Nat.zero_le _⟩) hP hD hA hS [1, 2, 3, 4, 5, 6, 7] rfl (by decide) rfl (fun H locs hP hD hS => ?_)
  have hP : va_P D vwCl (wB y q b R T K P B L) H := hP
  have hD : va_D A (wB y q b R T K P B L) := hD
  refine lv_if_eq (tgt := 21) hx hb dX3_kind_8 (by decide) (fun c_3 => ?_) (fun c_3 => ?_)
  · have h := q_t c_3 h
    exact B21 b R T K P B L _ _ _ hP hD hS (lv_sub hl [0] rfl) h
  · have h := q_f c_3 h
    refine lv_iload_n hx hb dX3_kind_11 rfl (lv_at hl 2 rfl) ?_
    refine lv_iconst (v := 1) hx hb dX3_kind_12 (by decide) ?_
    refine lv_bipush (v := 120) hx hb dX3_kind_13 (by decide) ?_
    obtain ⟨r_7, hc_8, h⟩ := q_bd_ok h
    refine q_ci (r := r_7) (va_runS (As := [.int p2, .int (1 : Int32), .int (120 : Int32)]) (rest := []) ⟨hx, hb, hml, hown, hts⟩ (c_X3_within l D y t q _ N p2 (1 : Int32) (120 : Int32) r_7 hc_8) (va_cwS 3 hts gX3_kind_X3_within rfl rfl rfl eX3_within ⟨Nat.le_of_ble_eq_true rfl, Nat.le_of_ble_eq_true rfl⟩) ⟨q_blind, (q_pre hP hK hZ hD hA hS [] rfl (by decide))⟩ rfl rfl hl.1 rfl (lv_room (Nat.le_of_ble_eq_true rfl)) dX3_kind_15 ⟨Nat.zero_le _, Nat.zero_le _⟩) hP hD hA hS [] rfl (by decide) rfl (fun H locs hP hD hS => ?_)
    have hP : va_P D vwCl (wB y q b R T K P B L) H := hP
    have hD : va_D A (wB y q b R T K P B L) := hD
    refine lv_if_ne (tgt := 28) hx hb dX3_kind_18 (by decide) (fun c_9 => ?_) (fun c_9 => ?_)
    · have h := q_f c_9 h
      refine lv_iconst (v := 0) hx hb dX3_kind_28 (by decide) ?_
      refine lv_istore_n (lv' := [(3, .int (0 : Int32)), (0, .ref (q 0)), (1, .int p1), (2, .int p2)]) hx hb dX3_kind_29 rfl hl (by decide) rfl (fun ls hl => ?_)
      refine lv_bipush (v := 100) hx hb dX3_kind_30 (by decide) ?_
      refine lv_istore (lv' := [(4, .int (100 : Int32)), (3, .int (0 : Int32)), (0, .ref (q 0)), (1, .int p1), (2, .int p2)]) hx hb dX3_kind_32 hl (by decide) rfl (fun ls hl => ?_)
      refine lv_iconst (v := 0) hx hb dX3_kind_34 (by decide) ?_
      refine lv_istore (lv' := [(5, .int (0 : Int32)), (4, .int (100 : Int32)), (3, .int (0 : Int32)), (0, .ref (q 0)), (1, .int p1), (2, .int p2)]) hx hb dX3_kind_35 hl (by decide) rfl (fun ls hl => ?_)
      obtain ⟨x_11, x_12, x_13, T_14, hL10, h⟩ := q_bd4_ok h
      have K37_10 : ∀ (H : Heap) (locs : List Loc) (ls : Array Slot), va_P D vwCl (wB y q b R T_14 K P B L) H → va_D A (wB y q b R T_14 K P B L) → va_S A s.heap H locs → lv_has ls 6 [(0, .ref (q 0)), (1, .int p1), (2, .int p2), (3, .int x_11), (4, .int x_12), (5, .int x_13)] → W p l e ({ frames := 5, cells := 0, slots := 0, locals := 113 } : Room) s m ([.ref (q 0), .int p1, .int p2] : List Value).toArray below meth c H locs 0 0 (MQ below (pQi D y (res.1) (wB y q (res.2.1) R (res.2.2) K P B L) A) ([.ref (q 0), .int p1, .int p2] : List Value).toArray s 0 0 A) (F0 m 107 ls []) := by
        intro H locs ls hP hD hS hl
        refine lv_iload_n hx hb dX3_kind_107 rfl (lv_at hl 3 rfl) ?_
        have e9 := Option.some.inj h
        exact q_iret hx hb hr hlocks hK hP hD hS dX3_kind_108 (by first | rw [← e9] | rfl) (by first | rw [← e9] | rfl)
      have L37_10 : ∀ (b : Nat → Nat → Int32) (R : Nat → Nat → Int32) (K : Nat → Nat → Int32) (P : Nat → Nat → Int32) (B : Nat → Nat → Int32) (L : Nat → Nat → Int64) (v1 : Int32) (v2 : Int32) (k : Nat) (v3 : Int32) (v4 : Int32) (v5 : Int32) (T : Nat → Nat → Int32), (∀ (H : Heap) (locs : List Loc) (ls : Array Slot), va_P D vwCl (wB y q b R T_14 K P B L) H → va_D A (wB y q b R T_14 K P B L) → va_S A s.heap H locs → lv_has ls 6 [(0, .ref (q 0)), (1, .int v1), (2, .int v2), (3, .int x_11), (4, .int x_12), (5, .int x_13)] → W p l e ({ frames := 5, cells := 0, slots := 0, locals := 113 } : Room) s m ([.ref (q 0), .int p1, .int p2] : List Value).toArray below meth c H locs 0 0 (MQ below (pQi D y (res.1) (wB y q (res.2.1) R (res.2.2) K P B L) A) ([.ref (q 0), .int p1, .int p2] : List Value).toArray s 0 0 A) (F0 m 107 ls [])) → ∀ (H : Heap) (locs : List Loc) (ls : Array Slot), va_P D vwCl (wB y q b R T K P B L) H → va_D A (wB y q b R T K P B L) → va_S A s.heap H locs → lv_has ls 6 [(0, .ref (q 0)), (1, .int v1), (2, .int v2), (3, .int v3), (4, .int v4), (5, .int v5)] → f_X3_kind_L37 N b R K P B L v1 v2 k v3 v4 v5 T = some (x_11, x_12, x_13, T_14) → W p l e ({ frames := 5, cells := 0, slots := 0, locals := 113 } : Room) s m ([.ref (q 0), .int p1, .int p2] : List Value).toArray below meth c H locs 0 0 (MQ below (pQi D y (res.1) (wB y q (res.2.1) R (res.2.2) K P B L) A) ([.ref (q 0), .int p1, .int p2] : List Value).toArray s 0 0 A) (F0 m 37 ls []) := by
        intro b R K P B L v1 v2 k
        induction k with
        | zero =>
          intro v3 v4 v5 T K37_10 H locs ls hP hD hS hl h
          have h : (none : Option (Int32 × Int32 × Int32 × (Nat → Nat → Int32))) = some _ := h
          cases h
        | succ k ih37_10 =>
          intro v3 v4 v5 T K37_10 H locs ls hP hD hS hl h
          rw [f_X3_kind_L37] at h
          refine lv_iload hx hb dX3_kind_37 (lv_at hl 5 rfl) ?_
          refine lv_iconst (v := 5) hx hb dX3_kind_39 (by decide) ?_
          refine lv_icmp_gt (tgt := 107) hx hb dX3_kind_40 (by decide) (fun c_15 => ?_) (fun c_15 => ?_)
          · have h := q_t c_15 h
            cases h
            exact K37_10 _ _ _ hP hD hS (lv_sub hl [0, 1, 2, 3, 4, 5] rfl)
          · have h := q_f c_15 h
            refine lv_aload_n hx hb dX3_kind_43 rfl (lv_at hl 0 rfl) ?_
            refine va_get (D := D) (ci := 3) (v := .ref (q 8)) (C := RX3) (T := TX3) (N := 7) hx hb hts uX3_kind_X3 hown hK hP 0 rfl rfl 1 (by decide) (hts _ kX3_kind_4) (fun _ h9 => h9) rfl dX3_kind_44 ?_
            refine lv_aload_n hx hb dX3_kind_47 rfl (lv_at hl 0 rfl) ?_
            refine va_get (D := D) (ci := 3) (v := .ref (q 1)) (C := RX3) (T := TX3) (N := 7) hx hb hts uX3_kind_X3 hown hK hP 0 rfl rfl 0 (by decide) (hts _ kX3_kind_6) (fun _ h9 => h9) rfl dX3_kind_48 ?_
            obtain ⟨T_16, hc_17, h⟩ := q_bd_ok h
            refine q_cv (va_runV (As := [.ref (q 1)]) (rest := []) ⟨hx, hb, hml, hown, hts⟩ (c_X0_becomes l D y t (fun k => if k < 7 then q (k + 8) else q (k - 7 + 1)) _ N T R T_16 hc_17) (cwV 1 hts gX3_kind_X0_becomes rfl rfl rfl eX0_becomes ⟨Nat.le_of_ble_eq_true rfl, Nat.le_of_ble_eq_true rfl⟩) ⟨q_blind, (va_recv hK hP (ci := 0) (q0 := 8) rfl rfl), (q_pre hP hK hZ hD hA hS [8, 9, 10, 11, 12, 13, 14, 1, 2, 3, 4, 5, 6, 7] rfl (by decide))⟩ rfl rfl hl.1 rfl (lv_room (Nat.le_of_ble_eq_true rfl)) dX3_kind_51 ⟨Nat.zero_le _, Nat.zero_le _⟩) hP hD hA hS [8, 9, 10, 11, 12, 13, 14, 1, 2, 3, 4, 5, 6, 7] rfl (by decide) rfl (fun H locs hP hD hS => ?_)
            have hP : va_P D vwCl (wB y q b R T_16 K P B L) H := hP
            have hD : va_D A (wB y q b R T_16 K P B L) := hD
            refine lv_aload_n hx hb dX3_kind_54 rfl (lv_at hl 0 rfl) ?_
            refine va_get (D := D) (ci := 3) (v := .ref (q 8)) (C := RX3) (T := TX3) (N := 7) hx hb hts uX3_kind_X3 hown hK hP 0 rfl rfl 1 (by decide) (hts _ kX3_kind_4) (fun _ h9 => h9) rfl dX3_kind_55 ?_
            refine va_get (D := D) (ci := 0) (v := .ref (q 9)) (C := RX0) (T := TX0) (N := 13) hx hb hts uX3_kind_X0 hown hK hP 8 rfl rfl 7 (by decide) (hts _ kX3_kind_5) (fun _ h9 => h9) rfl dX3_kind_58 ?_
            refine lv_iload_n hx hb dX3_kind_61 rfl (lv_at hl 1 rfl) ?_
            refine lv_iload hx hb dX3_kind_62 (lv_at hl 5 rfl) ?_
            obtain ⟨z_18, h⟩ := q_grd_ok h
            obtain ⟨T_19, eT_19, h⟩ := q_let_ok h
            refine va_iast hx hb hK hP hD hS 9 0 rfl rfl z_18 dX3_kind_64 (fun H locs hP hD hS => ?_)
            have hP : va_P D vwCl (wB y q b R T_19 K P B L) H := by rw [eT_19]; exact hP
            have hD : va_D A (wB y q b R T_19 K P B L) := by rw [eT_19]; exact hD
            refine lv_aload_n hx hb dX3_kind_65 rfl (lv_at hl 0 rfl) ?_
            refine va_get (D := D) (ci := 3) (v := .ref (q 8)) (C := RX3) (T := TX3) (N := 7) hx hb hts uX3_kind_X3 hown hK hP 0 rfl rfl 1 (by decide) (hts _ kX3_kind_4) (fun _ h9 => h9) rfl dX3_kind_66 ?_
            refine lv_iload_n hx hb dX3_kind_69 rfl (lv_at hl 2 rfl) ?_
            obtain ⟨T_20, hc_21, h⟩ := q_bd_ok h
            refine q_cv (va_runV (As := [.int v2]) (rest := []) ⟨hx, hb, hml, hown, hts⟩ (c_X0_goSeconds l D y t (fun k => q (k + 8)) _ N T_19 v2 T_20 hc_21) (cwV 1 hts gX3_kind_X0_goSeconds rfl rfl rfl eX0_goSeconds ⟨Nat.le_of_ble_eq_true rfl, Nat.le_of_ble_eq_true rfl⟩) ⟨q_blind, (va_recv hK hP (ci := 0) (q0 := 8) rfl rfl), (q_pre hP hK hZ hD hA hS [8, 9, 10, 11, 12, 13, 14] rfl (by decide))⟩ rfl rfl hl.1 rfl (lv_room (Nat.le_of_ble_eq_true rfl)) dX3_kind_70 ⟨Nat.zero_le _, Nat.zero_le _⟩) hP hD hA hS [8, 9, 10, 11, 12, 13, 14] rfl (by decide) rfl (fun H locs hP hD hS => ?_)
            have hP : va_P D vwCl (wB y q b R T_20 K P B L) H := hP
            have hD : va_D A (wB y q b R T_20 K P B L) := hD
            refine lv_aload_n hx hb dX3_kind_73 rfl (lv_at hl 0 rfl) ?_
            refine va_get (D := D) (ci := 3) (v := .ref (q 8)) (C := RX3) (T := TX3) (N := 7) hx hb hts uX3_kind_X3 hown hK hP 0 rfl rfl 1 (by decide) (hts _ kX3_kind_4) (fun _ h9 => h9) rfl dX3_kind_74 ?_
            refine va_get (D := D) (ci := 0) (v := .ref (q 12)) (C := RX0) (T := TX0) (N := 13) hx hb hts uX3_kind_X0 hown hK hP 8 rfl rfl 10 (by decide) (hts _ kX3_kind_2) (fun _ h9 => h9) rfl dX3_kind_77 ?_
            refine lv_iload_n hx hb dX3_kind_80 rfl (lv_at hl 1 rfl) ?_
            obtain ⟨z_22, h⟩ := q_grd_ok h
            refine va_iald hx hb hK hP 12 0 rfl rfl z_22 dX3_kind_81 ?_
            refine lv_iload hx hb dX3_kind_82 (lv_at hl 4 rfl) ?_
            refine lv_icmp_ge (tgt := 101) hx hb dX3_kind_84 (by decide) (fun c_23 => ?_) (fun c_23 => ?_)
            · have h := q_t c_23 h
              obtain ⟨x_24, ex_24, h⟩ := q_let_ok h
              refine lv_iinc (v := x_24) (lv' := [(5, .int x_24), (0, .ref (q 0)), (1, .int v1), (2, .int v2), (3, .int v3), (4, .int v4)]) hx hb dX3_kind_101 hl (k := 5) rfl (by rw [ex_24]; rfl) (by decide) rfl (fun ls hl => ?_)
              refine lv_goto (tgt := 37) hx hb dX3_kind_104 (by decide) ?_
              exact ih37_10 v3 v4 x_24 T_20 K37_10 _ _ _ hP hD hS (lv_sub hl [1, 2, 3, 4, 5, 0] rfl) h
            · have h := q_f c_23 h
              refine lv_aload_n hx hb dX3_kind_87 rfl (lv_at hl 0 rfl) ?_
              refine va_get (D := D) (ci := 3) (v := .ref (q 8)) (C := RX3) (T := TX3) (N := 7) hx hb hts uX3_kind_X3 hown hK hP 0 rfl rfl 1 (by decide) (hts _ kX3_kind_4) (fun _ h9 => h9) rfl dX3_kind_88 ?_
              refine va_get (D := D) (ci := 0) (v := .ref (q 12)) (C := RX0) (T := TX0) (N := 13) hx hb hts uX3_kind_X0 hown hK hP 8 rfl rfl 10 (by decide) (hts _ kX3_kind_2) (fun _ h9 => h9) rfl dX3_kind_91 ?_
              refine lv_iload_n hx hb dX3_kind_94 rfl (lv_at hl 1 rfl) ?_
              obtain ⟨z_25, h⟩ := q_grd_ok h
              refine va_iald hx hb hK hP 12 0 rfl rfl z_25 dX3_kind_95 ?_
              refine lv_topi (fun x_26 ex_26 => ?_)
              have h := q_let_at ex_26 h
              refine lv_istore (lv' := [(4, .int x_26), (0, .ref (q 0)), (1, .int v1), (2, .int v2), (3, .int v3), (5, .int v5)]) hx hb dX3_kind_96 hl (by decide) rfl (fun ls hl => ?_)
              refine lv_iload hx hb dX3_kind_98 (lv_at hl 5 rfl) ?_
              refine lv_istore_n (lv' := [(3, .int v5), (4, .int x_26), (0, .ref (q 0)), (1, .int v1), (2, .int v2), (5, .int v5)]) hx hb dX3_kind_100 rfl hl (by decide) rfl (fun ls hl => ?_)
              obtain ⟨x_27, ex_27, h⟩ := q_let_ok h
              refine lv_iinc (v := x_27) (lv' := [(5, .int x_27), (3, .int v5), (4, .int x_26), (0, .ref (q 0)), (1, .int v1), (2, .int v2)]) hx hb dX3_kind_101 hl (k := 5) rfl (by rw [ex_27]; rfl) (by decide) rfl (fun ls hl => ?_)
              refine lv_goto (tgt := 37) hx hb dX3_kind_104 (by decide) ?_
              exact ih37_10 v5 x_26 x_27 T_20 K37_10 _ _ _ hP hD hS (lv_sub hl [3, 4, 5, 1, 2, 0] rfl) h
      exact L37_10 b R K P B L p1 p2 N (0 : Int32) (100 : Int32) (0 : Int32) T K37_10 _ _ _ hP hD hS (lv_sub hl [3, 4, 5, 2, 1, 0] rfl) hL10
    · have h := q_t c_9 h
      exact B21 b R T K P B L _ _ _ hP hD hS (lv_sub hl [0] rfl) h
theorem eX3_kind : yX3_kind.cls = RX3 ∧ yX3_kind.cls ≠ "java/lang/invoke/MethodHandle" ∧ yX3_kind.cls ≠ "java/lang/invoke/VarHandle" ∧ (parseMethodDescriptor yX3_kind.desc).map (fun d => d.parameters.length) = some 2 := by decide +kernel
theorem kX3_thick_0 : Cond.constant RX3 58 (-1000000001) ∈ wsX3_thick := List.mem_of_getElem? (i := 1) (by decide +kernel)
theorem kX3_thick_1 : Cond.constant RX3 167 (-1000000004) ∈ wsX3_thick := List.mem_of_getElem? (i := 6) (by decide +kernel)
theorem uX3_thick_X0 : ∀ w ∈ u_ws RX0 TX0 13, w ∈ wsX3_thick := by decide +kernel
theorem kX3_thick_3 : Cond.fieldLink RX3 66 "BeamSeats$Island" "onSet" "I" ∈ wsX3_thick := List.mem_of_getElem? (i := 5) (by decide +kernel)
theorem uX3_thick_X3 : ∀ w ∈ u_ws RX3 TX3 7, w ∈ wsX3_thick := by decide +kernel
theorem kX3_thick_5 : Cond.fieldLink RX3 16 "BeamSeats" "trial" "LBeamSeats$Island;" ∈ wsX3_thick := List.mem_of_getElem? (i := 2) (by decide +kernel)
theorem kX3_thick_6 : Cond.fieldLink RX3 55 "BeamSeats$Island" "thick" "I" ∈ wsX3_thick := List.mem_of_getElem? (i := 4) (by decide +kernel)
theorem kX3_thick_7 : Cond.fieldLink RX3 10 "BeamSeats" "real" "LBeamSeats$Island;" ∈ wsX3_thick := List.mem_of_getElem? (i := 3) (by decide +kernel)
def f_X3_thick_B20 (N : Nat) (b : Nat → Nat → Int32) (R : Nat → Nat → Int32) (T : Nat → Nat → Int32) (K : Nat → Nat → Int32) (P : Nat → Nat → Int32) (B : Nat → Nat → Int32) (L : Nat → Nat → Int64) : Option (Int32 × (Nat → Nat → Int32) × (Nat → Nat → Int32)) :=
  q_bd2 (f_X3_found N b R T K P B L (-1000000001 : Int32)) (fun r_4 b_5 =>
  some (r_4, b_5, T))
def f_X3_thick_L29 (N : Nat) (b : Nat → Nat → Int32) (R : Nat → Nat → Int32) (K : Nat → Nat → Int32) (P : Nat → Nat → Int32) (B : Nat → Nat → Int32) (L : Nat → Nat → Int64) (v1 : Int32) (v2 : Int32) : Nat → Int32 → (Nat → Nat → Int32) → Option (Int32 × (Nat → Nat → Int32) × (Nat → Nat → Int32))
  | 0, _, _ => none
  | k + 1, v3, T =>
    if (40 : Int32) < v3 then
      q_bd2 (f_X3_found N b R T K P B L (-1000000004 : Int32)) (fun r_14 b_15 =>
      some (r_14, b_15, T))
    else
      q_bd (f_X0_becomes N T R) (fun T_17 =>
      q_let (q_up T_17 0 3 v3) (fun T_19 =>
      q_bd (f_X0_goSeconds N T_19 v1) (fun T_20 =>
      q_bd (f_J6_bitCount_0f7a4 N (T_20 0 5)) (fun r_22 =>
      if r_22 < v2 then
        q_let (v3 + 1) (fun x_25 =>
        f_X3_thick_L29 N b R K P B L v1 v2 k x_25 T_20)
      else
        some (v3, b, T_20)))))
def f_X3_thick (N : Nat) (b : Nat → Nat → Int32) (R : Nat → Nat → Int32) (T : Nat → Nat → Int32) (K : Nat → Nat → Int32) (P : Nat → Nat → Int32) (B : Nat → Nat → Int32) (L : Nat → Nat → Int64) (p1 : Int32) (p2 : Int32) : Option (Int32 × (Nat → Nat → Int32) × (Nat → Nat → Int32)) :=
  q_bd (f_X3_within N p1 (0 : Int32) (120 : Int32)) (fun r_1 =>
  if r_1 = 0 then
    f_X3_thick_B20 N b R T K P B L
  else
    q_bd (f_X3_within N p2 (0 : Int32) (8 : Int32)) (fun r_7 =>
    if r_7 = 0 then
      f_X3_thick_B20 N b R T K P B L
    else
      f_X3_thick_L29 N b R K P B L p1 p2 N (1 : Int32) T))
set_option maxHeartbeats 4000000 in
set_option maxRecDepth 100000 in
theorem c_X3_thick (l : Launch) (D : va_G) (y : Nat → ClassId) (t : Nat → Nat) (q : Nat → Nat) (sz N : Nat) (b : Nat → Nat → Int32) (R : Nat → Nat → Int32) (T : Nat → Nat → Int32) (K : Nat → Nat → Int32) (P : Nat → Nat → Int32) (B : Nat → Nat → Int32) (L : Nat → Nat → Int64) (p1 : Int32) (p2 : Int32) (res : Int32 × (Nat → Nat → Int32) × (Nat → Nat → Int32)) (h : f_X3_thick N b R T K P B L p1 p2 = some res) : Met l yX3_thick wsX3_thick ({ frames := 5, cells := 0, slots := 0, locals := 113 } : Room) (pPre D y t [.ref (q 0), .int p1, .int p2] (wB y q b R T K P B L) sz) (pQi D y (res.1) (wB y q (res.2.1) R (res.2.2) K P B L) (va_A (wB y q b R T K P B L) sz)) 0 0 (va_A (wB y q b R T K P B L) sz) := by
  refine q_start (Qc := (fun A => pQi D y (res.1) (wB y q (res.2.1) R (res.2.2) K P B L) A)) (cc := cX3_thick) (maxL := 4) (ret := (some .int)) (by decide) rfl (Nat.le_of_ble_eq_true rfl) ?_
  intro p e s m below meth c A ls hx hb hr hts hown hlocks hmn hml hP hK hZ hD hA hS hl
  have hl : lv_has ls 4 [(0, .ref (q 0)), (1, .int p1), (2, .int p2)] := hl
  have hown : s.vm.findClass RX3 = some m.cls := hown
  have B20 : ∀ (b : Nat → Nat → Int32) (R : Nat → Nat → Int32) (T : Nat → Nat → Int32) (K : Nat → Nat → Int32) (P : Nat → Nat → Int32) (B : Nat → Nat → Int32) (L : Nat → Nat → Int64) (H : Heap) (locs : List Loc) (ls : Array Slot), va_P D vwCl (wB y q b R T K P B L) H → va_D A (wB y q b R T K P B L) → va_S A s.heap H locs → lv_has ls 4 [(0, .ref (q 0))] → f_X3_thick_B20 N b R T K P B L = some res → W p l e ({ frames := 5, cells := 0, slots := 0, locals := 113 } : Room) s m ([.ref (q 0), .int p1, .int p2] : List Value).toArray below meth c H locs 0 0 (MQ below (pQi D y (res.1) (wB y q (res.2.1) R (res.2.2) K P B L) A) ([.ref (q 0), .int p1, .int p2] : List Value).toArray s 0 0 A) (F0 m 20 ls []) := by
    intro b R T K P B L H locs ls hP hD hS hl h
    unfold f_X3_thick_B20 at h
    refine lv_aload_n hx hb dX3_thick_20 rfl (lv_at hl 0 rfl) ?_
    refine lv_ldc (v := -1000000001) hx hb hown (hts _ kX3_thick_0) dX3_thick_21 ?_
    obtain ⟨r_4, b_5, hc_6, h⟩ := q_bd2_ok h
    refine q_ci0 (r := r_4) (va_runV (As := [.int (-1000000001 : Int32)]) (rest := []) ⟨hx, hb, hml, hown, hts⟩ (c_X3_found l D y t q _ N b R T K P B L (-1000000001 : Int32) (r_4, b_5) hc_6) (cwV 1 hts gX3_thick_X3_found rfl rfl rfl eX3_found ⟨Nat.le_of_ble_eq_true rfl, Nat.le_of_ble_eq_true rfl⟩) ⟨q_blind, (va_recv hK hP (ci := 3) (q0 := 0) rfl rfl), (q_pre0 hP hK hZ hD hA hS)⟩ rfl rfl hl.1 rfl (lv_room (Nat.le_of_ble_eq_true rfl)) dX3_thick_23 ⟨Nat.zero_le _, Nat.zero_le _⟩) hD hA hS (fun H locs hP hD hS => ?_)
    have hP : va_P D vwCl (wB y q b_5 R T K P B L) H := hP
    have hD : va_D A (wB y q b_5 R T K P B L) := hD
    have e9 := Option.some.inj h
    exact q_iret hx hb hr hlocks hK hP hD hS dX3_thick_26 (by first | rw [← e9] | rfl) (by first | rw [← e9] | rfl)
  unfold f_X3_thick at h
  refine lv_iload_n hx hb dX3_thick_0 rfl (lv_at hl 1 rfl) ?_
  refine lv_iconst (v := 0) hx hb dX3_thick_1 (by decide) ?_
  refine lv_bipush (v := 120) hx hb dX3_thick_2 (by decide) ?_
  obtain ⟨r_1, hc_2, h⟩ := q_bd_ok h
  refine q_ci (r := r_1) (va_runS (As := [.int p1, .int (0 : Int32), .int (120 : Int32)]) (rest := []) ⟨hx, hb, hml, hown, hts⟩ (c_X3_within l D y t q _ N p1 (0 : Int32) (120 : Int32) r_1 hc_2) (va_cwS 3 hts gX3_thick_X3_within rfl rfl rfl eX3_within ⟨Nat.le_of_ble_eq_true rfl, Nat.le_of_ble_eq_true rfl⟩) ⟨q_blind, (q_pre hP hK hZ hD hA hS [] rfl (by decide))⟩ rfl rfl hl.1 rfl (lv_room (Nat.le_of_ble_eq_true rfl)) dX3_thick_4 ⟨Nat.zero_le _, Nat.zero_le _⟩) hP hD hA hS [] rfl (by decide) rfl (fun H locs hP hD hS => ?_)
  have hP : va_P D vwCl (wB y q b R T K P B L) H := hP
  have hD : va_D A (wB y q b R T K P B L) := hD
  refine lv_if_eq (tgt := 20) hx hb dX3_thick_7 (by decide) (fun c_3 => ?_) (fun c_3 => ?_)
  · have h := q_t c_3 h
    exact B20 b R T K P B L _ _ _ hP hD hS (lv_sub hl [0] rfl) h
  · have h := q_f c_3 h
    refine lv_iload_n hx hb dX3_thick_10 rfl (lv_at hl 2 rfl) ?_
    refine lv_iconst (v := 0) hx hb dX3_thick_11 (by decide) ?_
    refine lv_bipush (v := 8) hx hb dX3_thick_12 (by decide) ?_
    obtain ⟨r_7, hc_8, h⟩ := q_bd_ok h
    refine q_ci (r := r_7) (va_runS (As := [.int p2, .int (0 : Int32), .int (8 : Int32)]) (rest := []) ⟨hx, hb, hml, hown, hts⟩ (c_X3_within l D y t q _ N p2 (0 : Int32) (8 : Int32) r_7 hc_8) (va_cwS 3 hts gX3_thick_X3_within rfl rfl rfl eX3_within ⟨Nat.le_of_ble_eq_true rfl, Nat.le_of_ble_eq_true rfl⟩) ⟨q_blind, (q_pre hP hK hZ hD hA hS [] rfl (by decide))⟩ rfl rfl hl.1 rfl (lv_room (Nat.le_of_ble_eq_true rfl)) dX3_thick_14 ⟨Nat.zero_le _, Nat.zero_le _⟩) hP hD hA hS [] rfl (by decide) rfl (fun H locs hP hD hS => ?_)
    have hP : va_P D vwCl (wB y q b R T K P B L) H := hP
    have hD : va_D A (wB y q b R T K P B L) := hD
    refine lv_if_ne (tgt := 27) hx hb dX3_thick_17 (by decide) (fun c_9 => ?_) (fun c_9 => ?_)
    · have h := q_f c_9 h
      refine lv_iconst (v := 1) hx hb dX3_thick_27 (by decide) ?_
      refine lv_istore_n (lv' := [(3, .int (1 : Int32)), (0, .ref (q 0)), (1, .int p1), (2, .int p2)]) hx hb dX3_thick_28 rfl hl (by decide) rfl (fun ls hl => ?_)
      have L29_10 : ∀ (b : Nat → Nat → Int32) (R : Nat → Nat → Int32) (K : Nat → Nat → Int32) (P : Nat → Nat → Int32) (B : Nat → Nat → Int32) (L : Nat → Nat → Int64) (v1 : Int32) (v2 : Int32) (k : Nat) (v3 : Int32) (T : Nat → Nat → Int32), ∀ (H : Heap) (locs : List Loc) (ls : Array Slot), va_P D vwCl (wB y q b R T K P B L) H → va_D A (wB y q b R T K P B L) → va_S A s.heap H locs → lv_has ls 4 [(0, .ref (q 0)), (1, .int v1), (2, .int v2), (3, .int v3)] → f_X3_thick_L29 N b R K P B L v1 v2 k v3 T = some res → W p l e ({ frames := 5, cells := 0, slots := 0, locals := 113 } : Room) s m ([.ref (q 0), .int p1, .int p2] : List Value).toArray below meth c H locs 0 0 (MQ below (pQi D y (res.1) (wB y q (res.2.1) R (res.2.2) K P B L) A) ([.ref (q 0), .int p1, .int p2] : List Value).toArray s 0 0 A) (F0 m 29 ls []) := by
        intro b R K P B L v1 v2 k
        induction k with
        | zero =>
          intro v3 T H locs ls hP hD hS hl h
          have h : (none : Option (Int32 × (Nat → Nat → Int32) × (Nat → Nat → Int32))) = some _ := h
          cases h
        | succ k ih29_10 =>
          intro v3 T H locs ls hP hD hS hl h
          rw [f_X3_thick_L29] at h
          refine lv_iload_n hx hb dX3_thick_29 rfl (lv_at hl 3 rfl) ?_
          refine lv_bipush (v := 40) hx hb dX3_thick_30 (by decide) ?_
          refine lv_icmp_gt (tgt := 84) hx hb dX3_thick_32 (by decide) (fun c_13 => ?_) (fun c_13 => ?_)
          · have h := q_t c_13 h
            refine lv_aload_n hx hb dX3_thick_84 rfl (lv_at hl 0 rfl) ?_
            refine lv_ldc (v := -1000000004) hx hb hown (hts _ kX3_thick_1) dX3_thick_85 ?_
            obtain ⟨r_14, b_15, hc_16, h⟩ := q_bd2_ok h
            refine q_ci0 (r := r_14) (va_runV (As := [.int (-1000000004 : Int32)]) (rest := []) ⟨hx, hb, hml, hown, hts⟩ (c_X3_found l D y t q _ N b R T K P B L (-1000000004 : Int32) (r_14, b_15) hc_16) (cwV 1 hts gX3_thick_X3_found rfl rfl rfl eX3_found ⟨Nat.le_of_ble_eq_true rfl, Nat.le_of_ble_eq_true rfl⟩) ⟨q_blind, (va_recv hK hP (ci := 3) (q0 := 0) rfl rfl), (q_pre0 hP hK hZ hD hA hS)⟩ rfl rfl hl.1 rfl (lv_room (Nat.le_of_ble_eq_true rfl)) dX3_thick_87 ⟨Nat.zero_le _, Nat.zero_le _⟩) hD hA hS (fun H locs hP hD hS => ?_)
            have hP : va_P D vwCl (wB y q b_15 R T K P B L) H := hP
            have hD : va_D A (wB y q b_15 R T K P B L) := hD
            have e9 := Option.some.inj h
            exact q_iret hx hb hr hlocks hK hP hD hS dX3_thick_90 (by first | rw [← e9] | rfl) (by first | rw [← e9] | rfl)
          · have h := q_f c_13 h
            refine lv_aload_n hx hb dX3_thick_35 rfl (lv_at hl 0 rfl) ?_
            refine va_get (D := D) (ci := 3) (v := .ref (q 8)) (C := RX3) (T := TX3) (N := 7) hx hb hts uX3_thick_X3 hown hK hP 0 rfl rfl 1 (by decide) (hts _ kX3_thick_5) (fun _ h9 => h9) rfl dX3_thick_36 ?_
            refine lv_aload_n hx hb dX3_thick_39 rfl (lv_at hl 0 rfl) ?_
            refine va_get (D := D) (ci := 3) (v := .ref (q 1)) (C := RX3) (T := TX3) (N := 7) hx hb hts uX3_thick_X3 hown hK hP 0 rfl rfl 0 (by decide) (hts _ kX3_thick_7) (fun _ h9 => h9) rfl dX3_thick_40 ?_
            obtain ⟨T_17, hc_18, h⟩ := q_bd_ok h
            refine q_cv (va_runV (As := [.ref (q 1)]) (rest := []) ⟨hx, hb, hml, hown, hts⟩ (c_X0_becomes l D y t (fun k => if k < 7 then q (k + 8) else q (k - 7 + 1)) _ N T R T_17 hc_18) (cwV 1 hts gX3_thick_X0_becomes rfl rfl rfl eX0_becomes ⟨Nat.le_of_ble_eq_true rfl, Nat.le_of_ble_eq_true rfl⟩) ⟨q_blind, (va_recv hK hP (ci := 0) (q0 := 8) rfl rfl), (q_pre hP hK hZ hD hA hS [8, 9, 10, 11, 12, 13, 14, 1, 2, 3, 4, 5, 6, 7] rfl (by decide))⟩ rfl rfl hl.1 rfl (lv_room (Nat.le_of_ble_eq_true rfl)) dX3_thick_43 ⟨Nat.zero_le _, Nat.zero_le _⟩) hP hD hA hS [8, 9, 10, 11, 12, 13, 14, 1, 2, 3, 4, 5, 6, 7] rfl (by decide) rfl (fun H locs hP hD hS => ?_)
            have hP : va_P D vwCl (wB y q b R T_17 K P B L) H := hP
            have hD : va_D A (wB y q b R T_17 K P B L) := hD
            refine lv_aload_n hx hb dX3_thick_46 rfl (lv_at hl 0 rfl) ?_
            refine va_get (D := D) (ci := 3) (v := .ref (q 8)) (C := RX3) (T := TX3) (N := 7) hx hb hts uX3_thick_X3 hown hK hP 0 rfl rfl 1 (by decide) (hts _ kX3_thick_5) (fun _ h9 => h9) rfl dX3_thick_47 ?_
            refine lv_iload_n hx hb dX3_thick_50 rfl (lv_at hl 3 rfl) ?_
            obtain ⟨T_19, eT_19, h⟩ := q_let_ok h
            refine va_put (D := D) (ci := 0) (v := .int v3) (ty := .int) (C := RX0) (T := TX0) (N := 13) hx hb hts uX3_thick_X0 tyX0 tyX0_ok nmX0 hown hK hP hD hS 8 rfl rfl 3 (by decide) (hts _ kX3_thick_6) (fun _ h9 => h9) rfl (by decide +kernel) rfl rfl (Nat.le_of_ble_eq_true rfl) dX3_thick_51 (fun H locs hP hD hS => ?_)
            have hP : va_P D vwCl (wB y q b R T_19 K P B L) H := by rw [eT_19]; exact hP
            have hD : va_D A (wB y q b R T_19 K P B L) := by rw [eT_19]; exact hD
            refine lv_aload_n hx hb dX3_thick_54 rfl (lv_at hl 0 rfl) ?_
            refine va_get (D := D) (ci := 3) (v := .ref (q 8)) (C := RX3) (T := TX3) (N := 7) hx hb hts uX3_thick_X3 hown hK hP 0 rfl rfl 1 (by decide) (hts _ kX3_thick_5) (fun _ h9 => h9) rfl dX3_thick_55 ?_
            refine lv_iload_n hx hb dX3_thick_58 rfl (lv_at hl 1 rfl) ?_
            obtain ⟨T_20, hc_21, h⟩ := q_bd_ok h
            refine q_cv (va_runV (As := [.int v1]) (rest := []) ⟨hx, hb, hml, hown, hts⟩ (c_X0_goSeconds l D y t (fun k => q (k + 8)) _ N T_19 v1 T_20 hc_21) (cwV 1 hts gX3_thick_X0_goSeconds rfl rfl rfl eX0_goSeconds ⟨Nat.le_of_ble_eq_true rfl, Nat.le_of_ble_eq_true rfl⟩) ⟨q_blind, (va_recv hK hP (ci := 0) (q0 := 8) rfl rfl), (q_pre hP hK hZ hD hA hS [8, 9, 10, 11, 12, 13, 14] rfl (by decide))⟩ rfl rfl hl.1 rfl (lv_room (Nat.le_of_ble_eq_true rfl)) dX3_thick_59 ⟨Nat.zero_le _, Nat.zero_le _⟩) hP hD hA hS [8, 9, 10, 11, 12, 13, 14] rfl (by decide) rfl (fun H locs hP hD hS => ?_)
            have hP : va_P D vwCl (wB y q b R T_20 K P B L) H := hP
            have hD : va_D A (wB y q b R T_20 K P B L) := hD
            refine lv_aload_n hx hb dX3_thick_62 rfl (lv_at hl 0 rfl) ?_
            refine va_get (D := D) (ci := 3) (v := .ref (q 8)) (C := RX3) (T := TX3) (N := 7) hx hb hts uX3_thick_X3 hown hK hP 0 rfl rfl 1 (by decide) (hts _ kX3_thick_5) (fun _ h9 => h9) rfl dX3_thick_63 ?_
            refine va_get (D := D) (ci := 0) (v := .int (T_20 0 5)) (C := RX0) (T := TX0) (N := 13) hx hb hts uX3_thick_X0 hown hK hP 8 rfl rfl 5 (by decide) (hts _ kX3_thick_3) (fun _ h9 => h9) rfl dX3_thick_66 ?_
            obtain ⟨r_22, hc_23, h⟩ := q_bd_ok h
            refine q_ci (r := r_22) (va_runS (As := [.int (T_20 0 5)]) (rest := []) ⟨hx, hb, hml, hown, hts⟩ (c_J6_bitCount_0f7a4 l D y t q _ N (T_20 0 5) r_22 hc_23) (va_cwS 1 hts gX3_thick_J6_bitCount_0f7a4 rfl rfl rfl eJ6_bitCount_0f7a4 ⟨Nat.le_of_ble_eq_true rfl, Nat.le_of_ble_eq_true rfl⟩) ⟨q_blind, (q_pre hP hK hZ hD hA hS [] rfl (by decide))⟩ rfl rfl hl.1 rfl (lv_room (Nat.le_of_ble_eq_true rfl)) dX3_thick_69 ⟨Nat.zero_le _, Nat.zero_le _⟩) hP hD hA hS [] rfl (by decide) rfl (fun H locs hP hD hS => ?_)
            have hP : va_P D vwCl (wB y q b R T_20 K P B L) H := hP
            have hD : va_D A (wB y q b R T_20 K P B L) := hD
            refine lv_iload_n hx hb dX3_thick_72 rfl (lv_at hl 2 rfl) ?_
            refine lv_icmp_lt (tgt := 78) hx hb dX3_thick_73 (by decide) (fun c_24 => ?_) (fun c_24 => ?_)
            · have h := q_t c_24 h
              obtain ⟨x_25, ex_25, h⟩ := q_let_ok h
              refine lv_iinc (v := x_25) (lv' := [(3, .int x_25), (0, .ref (q 0)), (1, .int v1), (2, .int v2)]) hx hb dX3_thick_78 hl (k := 3) rfl (by rw [ex_25]; rfl) (by decide) rfl (fun ls hl => ?_)
              refine lv_goto (tgt := 29) hx hb dX3_thick_81 (by decide) ?_
              exact ih29_10 x_25 T_20 _ _ _ hP hD hS (lv_sub hl [1, 2, 3, 0] rfl) h
            · have h := q_f c_24 h
              refine lv_iload_n hx hb dX3_thick_76 rfl (lv_at hl 3 rfl) ?_
              have e9 := Option.some.inj h
              exact q_iret hx hb hr hlocks hK hP hD hS dX3_thick_77 (by first | rw [← e9] | rfl) (by first | rw [← e9] | rfl)
      exact L29_10 b R K P B L p1 p2 N (1 : Int32) T _ _ _ hP hD hS (lv_sub hl [1, 2, 3, 0] rfl) h
    · have h := q_t c_9 h
      exact B20 b R T K P B L _ _ _ hP hD hS (lv_sub hl [0] rfl) h
theorem eX3_thick : yX3_thick.cls = RX3 ∧ yX3_thick.cls ≠ "java/lang/invoke/MethodHandle" ∧ yX3_thick.cls ≠ "java/lang/invoke/VarHandle" ∧ (parseMethodDescriptor yX3_thick.desc).map (fun d => d.parameters.length) = some 2 := by decide +kernel
theorem uX3_lostWithout_X0 : ∀ w ∈ u_ws RX0 TX0 13, w ∈ wsX3_lostWithout := by decide +kernel
theorem kX3_lostWithout_1 : Cond.fieldLink RX3 69 "BeamSeats$Island" "lostSet" "I" ∈ wsX3_lostWithout := List.mem_of_getElem? (i := 3) (by decide +kernel)
theorem uX3_lostWithout_X3 : ∀ w ∈ u_ws RX3 TX3 7, w ∈ wsX3_lostWithout := by decide +kernel
theorem kX3_lostWithout_3 : Cond.fieldLink RX3 16 "BeamSeats" "trial" "LBeamSeats$Island;" ∈ wsX3_lostWithout := List.mem_of_getElem? (i := 1) (by decide +kernel)
theorem kX3_lostWithout_4 : Cond.fieldLink RX3 10 "BeamSeats" "real" "LBeamSeats$Island;" ∈ wsX3_lostWithout := List.mem_of_getElem? (i := 2) (by decide +kernel)
def f_X3_lostWithout (N : Nat) (b : Nat → Nat → Int32) (R : Nat → Nat → Int32) (T : Nat → Nat → Int32) (K : Nat → Nat → Int32) (P : Nat → Nat → Int32) (B : Nat → Nat → Int32) (L : Nat → Nat → Int64) (p1 : Int32) (p2 : Int32) : Option (Int32 × (Nat → Nat → Int32)) :=
  q_bd (f_X0_becomes N T R) (fun T_1 =>
  q_bd (f_X0_goOff N T_1 p1) (fun T_3 =>
  q_bd (f_X0_goSeconds N T_3 p2) (fun T_5 =>
  q_bd (f_J6_bitCount_0f7a4 N (T_5 0 6)) (fun r_7 =>
  some (r_7, T_5)))))
set_option maxHeartbeats 4000000 in
set_option maxRecDepth 100000 in
theorem c_X3_lostWithout (l : Launch) (D : va_G) (y : Nat → ClassId) (t : Nat → Nat) (q : Nat → Nat) (sz N : Nat) (b : Nat → Nat → Int32) (R : Nat → Nat → Int32) (T : Nat → Nat → Int32) (K : Nat → Nat → Int32) (P : Nat → Nat → Int32) (B : Nat → Nat → Int32) (L : Nat → Nat → Int64) (p1 : Int32) (p2 : Int32) (res : Int32 × (Nat → Nat → Int32)) (h : f_X3_lostWithout N b R T K P B L p1 p2 = some res) : Met l yX3_lostWithout wsX3_lostWithout ({ frames := 5, cells := 0, slots := 0, locals := 113 } : Room) (pPre D y t [.ref (q 0), .int p1, .int p2] (wB y q b R T K P B L) sz) (pQi D y (res.1) (wB y q b R (res.2) K P B L) (va_A (wB y q b R T K P B L) sz)) 0 0 (va_A (wB y q b R T K P B L) sz) := by
  refine q_start (Qc := (fun A => pQi D y (res.1) (wB y q b R (res.2) K P B L) A)) (cc := cX3_lostWithout) (maxL := 3) (ret := (some .int)) (by decide) rfl (Nat.le_of_ble_eq_true rfl) ?_
  intro p e s m below meth c A ls hx hb hr hts hown hlocks hmn hml hP hK hZ hD hA hS hl
  have hl : lv_has ls 3 [(0, .ref (q 0)), (1, .int p1), (2, .int p2)] := hl
  have hown : s.vm.findClass RX3 = some m.cls := hown
  unfold f_X3_lostWithout at h
  refine lv_aload_n hx hb dX3_lostWithout_0 rfl (lv_at hl 0 rfl) ?_
  refine va_get (D := D) (ci := 3) (v := .ref (q 8)) (C := RX3) (T := TX3) (N := 7) hx hb hts uX3_lostWithout_X3 hown hK hP 0 rfl rfl 1 (by decide) (hts _ kX3_lostWithout_3) (fun _ h9 => h9) rfl dX3_lostWithout_1 ?_
  refine lv_aload_n hx hb dX3_lostWithout_4 rfl (lv_at hl 0 rfl) ?_
  refine va_get (D := D) (ci := 3) (v := .ref (q 1)) (C := RX3) (T := TX3) (N := 7) hx hb hts uX3_lostWithout_X3 hown hK hP 0 rfl rfl 0 (by decide) (hts _ kX3_lostWithout_4) (fun _ h9 => h9) rfl dX3_lostWithout_5 ?_
  obtain ⟨T_1, hc_2, h⟩ := q_bd_ok h
  refine q_cv (va_runV (As := [.ref (q 1)]) (rest := []) ⟨hx, hb, hml, hown, hts⟩ (c_X0_becomes l D y t (fun k => if k < 7 then q (k + 8) else q (k - 7 + 1)) _ N T R T_1 hc_2) (cwV 1 hts gX3_lostWithout_X0_becomes rfl rfl rfl eX0_becomes ⟨Nat.le_of_ble_eq_true rfl, Nat.le_of_ble_eq_true rfl⟩) ⟨q_blind, (va_recv hK hP (ci := 0) (q0 := 8) rfl rfl), (q_pre hP hK hZ hD hA hS [8, 9, 10, 11, 12, 13, 14, 1, 2, 3, 4, 5, 6, 7] rfl (by decide))⟩ rfl rfl hl.1 rfl (lv_room (Nat.le_of_ble_eq_true rfl)) dX3_lostWithout_8 ⟨Nat.zero_le _, Nat.zero_le _⟩) hP hD hA hS [8, 9, 10, 11, 12, 13, 14, 1, 2, 3, 4, 5, 6, 7] rfl (by decide) rfl (fun H locs hP hD hS => ?_)
  have hP : va_P D vwCl (wB y q b R T_1 K P B L) H := hP
  have hD : va_D A (wB y q b R T_1 K P B L) := hD
  refine lv_aload_n hx hb dX3_lostWithout_11 rfl (lv_at hl 0 rfl) ?_
  refine va_get (D := D) (ci := 3) (v := .ref (q 8)) (C := RX3) (T := TX3) (N := 7) hx hb hts uX3_lostWithout_X3 hown hK hP 0 rfl rfl 1 (by decide) (hts _ kX3_lostWithout_3) (fun _ h9 => h9) rfl dX3_lostWithout_12 ?_
  refine lv_iload_n hx hb dX3_lostWithout_15 rfl (lv_at hl 1 rfl) ?_
  obtain ⟨T_3, hc_4, h⟩ := q_bd_ok h
  refine q_cv (va_runV (As := [.int p1]) (rest := []) ⟨hx, hb, hml, hown, hts⟩ (c_X0_goOff l D y t (fun k => q (k + 8)) _ N T_1 p1 T_3 hc_4) (cwV 1 hts gX3_lostWithout_X0_goOff rfl rfl rfl eX0_goOff ⟨Nat.le_of_ble_eq_true rfl, Nat.le_of_ble_eq_true rfl⟩) ⟨q_blind, (va_recv hK hP (ci := 0) (q0 := 8) rfl rfl), (q_pre hP hK hZ hD hA hS [8, 9, 10, 11, 12, 13, 14] rfl (by decide))⟩ rfl rfl hl.1 rfl (lv_room (Nat.le_of_ble_eq_true rfl)) dX3_lostWithout_16 ⟨Nat.zero_le _, Nat.zero_le _⟩) hP hD hA hS [8, 9, 10, 11, 12, 13, 14] rfl (by decide) rfl (fun H locs hP hD hS => ?_)
  have hP : va_P D vwCl (wB y q b R T_3 K P B L) H := hP
  have hD : va_D A (wB y q b R T_3 K P B L) := hD
  refine lv_aload_n hx hb dX3_lostWithout_19 rfl (lv_at hl 0 rfl) ?_
  refine va_get (D := D) (ci := 3) (v := .ref (q 8)) (C := RX3) (T := TX3) (N := 7) hx hb hts uX3_lostWithout_X3 hown hK hP 0 rfl rfl 1 (by decide) (hts _ kX3_lostWithout_3) (fun _ h9 => h9) rfl dX3_lostWithout_20 ?_
  refine lv_iload_n hx hb dX3_lostWithout_23 rfl (lv_at hl 2 rfl) ?_
  obtain ⟨T_5, hc_6, h⟩ := q_bd_ok h
  refine q_cv (va_runV (As := [.int p2]) (rest := []) ⟨hx, hb, hml, hown, hts⟩ (c_X0_goSeconds l D y t (fun k => q (k + 8)) _ N T_3 p2 T_5 hc_6) (cwV 1 hts gX3_lostWithout_X0_goSeconds rfl rfl rfl eX0_goSeconds ⟨Nat.le_of_ble_eq_true rfl, Nat.le_of_ble_eq_true rfl⟩) ⟨q_blind, (va_recv hK hP (ci := 0) (q0 := 8) rfl rfl), (q_pre hP hK hZ hD hA hS [8, 9, 10, 11, 12, 13, 14] rfl (by decide))⟩ rfl rfl hl.1 rfl (lv_room (Nat.le_of_ble_eq_true rfl)) dX3_lostWithout_24 ⟨Nat.zero_le _, Nat.zero_le _⟩) hP hD hA hS [8, 9, 10, 11, 12, 13, 14] rfl (by decide) rfl (fun H locs hP hD hS => ?_)
  have hP : va_P D vwCl (wB y q b R T_5 K P B L) H := hP
  have hD : va_D A (wB y q b R T_5 K P B L) := hD
  refine lv_aload_n hx hb dX3_lostWithout_27 rfl (lv_at hl 0 rfl) ?_
  refine va_get (D := D) (ci := 3) (v := .ref (q 8)) (C := RX3) (T := TX3) (N := 7) hx hb hts uX3_lostWithout_X3 hown hK hP 0 rfl rfl 1 (by decide) (hts _ kX3_lostWithout_3) (fun _ h9 => h9) rfl dX3_lostWithout_28 ?_
  refine va_get (D := D) (ci := 0) (v := .int (T_5 0 6)) (C := RX0) (T := TX0) (N := 13) hx hb hts uX3_lostWithout_X0 hown hK hP 8 rfl rfl 6 (by decide) (hts _ kX3_lostWithout_1) (fun _ h9 => h9) rfl dX3_lostWithout_31 ?_
  obtain ⟨r_7, hc_8, h⟩ := q_bd_ok h
  refine q_ci (r := r_7) (va_runS (As := [.int (T_5 0 6)]) (rest := []) ⟨hx, hb, hml, hown, hts⟩ (c_J6_bitCount_0f7a4 l D y t q _ N (T_5 0 6) r_7 hc_8) (va_cwS 1 hts gX3_lostWithout_J6_bitCount_0f7a4 rfl rfl rfl eJ6_bitCount_0f7a4 ⟨Nat.le_of_ble_eq_true rfl, Nat.le_of_ble_eq_true rfl⟩) ⟨q_blind, (q_pre hP hK hZ hD hA hS [] rfl (by decide))⟩ rfl rfl hl.1 rfl (lv_room (Nat.le_of_ble_eq_true rfl)) dX3_lostWithout_34 ⟨Nat.zero_le _, Nat.zero_le _⟩) hP hD hA hS [] rfl (by decide) rfl (fun H locs hP hD hS => ?_)
  have hP : va_P D vwCl (wB y q b R T_5 K P B L) H := hP
  have hD : va_D A (wB y q b R T_5 K P B L) := hD
  have e9 := Option.some.inj h
  exact q_iret hx hb hr hlocks hK hP hD hS dX3_lostWithout_37 (by first | rw [← e9] | rfl) (by first | rw [← e9] | rfl)
theorem eX3_lostWithout : yX3_lostWithout.cls = RX3 ∧ yX3_lostWithout.cls ≠ "java/lang/invoke/MethodHandle" ∧ yX3_lostWithout.cls ≠ "java/lang/invoke/VarHandle" ∧ (parseMethodDescriptor yX3_lostWithout.desc).map (fun d => d.parameters.length) = some 2 := by decide +kernel
theorem kX3_save_0 : Cond.constant RX3 167 (-1000000004) ∈ wsX3_save := List.mem_of_getElem? (i := 2) (by decide +kernel)
theorem uX3_save_X3 : ∀ w ∈ u_ws RX3 TX3 7, w ∈ wsX3_save := by decide +kernel
theorem kX3_save_2 : Cond.fieldLink RX3 10 "BeamSeats" "real" "LBeamSeats$Island;" ∈ wsX3_save := List.mem_of_getElem? (i := 3) (by decide +kernel)
theorem uX3_save_X0 : ∀ w ∈ u_ws RX0 TX0 13, w ∈ wsX3_save := by decide +kernel
theorem kX3_save_4 : Cond.fieldLink RX3 82 "BeamSeats$Island" "size" "I" ∈ wsX3_save := List.mem_of_getElem? (i := 4) (by decide +kernel)
theorem kX3_save_5 : Cond.constant RX3 58 (-1000000001) ∈ wsX3_save := List.mem_of_getElem? (i := 1) (by decide +kernel)
def f_X3_save_L26 (N : Nat) (b : Nat → Nat → Int32) (R : Nat → Nat → Int32) (K : Nat → Nat → Int32) (P : Nat → Nat → Int32) (B : Nat → Nat → Int32) (L : Nat → Nat → Int64) (v1 : Int32) : Nat → Int32 → Int32 → Int32 → (Nat → Nat → Int32) → Option (Int32 × Int32 × Int32 × (Nat → Nat → Int32))
  | 0, _, _, _, _ => none
  | k + 1, v2, v3, v4, T =>
    if (R 0 4) ≤ v4 then
      some (v2, v3, v4, T)
    else
      q_bd (f_X0_isOn N R v4) (fun r_10 =>
      if r_10 = 0 then
        if v3 ≤ (9 : Int32) then
          q_let (v4 + 1) (fun x_14 =>
          f_X3_save_L26 N b R K P B L v1 k v2 v3 x_14 T)
        else
          q_let (v4 + 1) (fun x_15 =>
          f_X3_save_L26 N b R K P B L v1 k v4 (9 : Int32) x_15 T)
      else
        q_bd2 (f_X3_lostWithout N b R T K P B L v4 v1) (fun r_16 T_17 =>
        if v3 ≤ r_16 then
          q_let (v4 + 1) (fun x_20 =>
          f_X3_save_L26 N b R K P B L v1 k v2 v3 x_20 T_17)
        else
          q_let (v4 + 1) (fun x_21 =>
          f_X3_save_L26 N b R K P B L v1 k v4 r_16 x_21 T_17)))
def f_X3_save (N : Nat) (b : Nat → Nat → Int32) (R : Nat → Nat → Int32) (T : Nat → Nat → Int32) (K : Nat → Nat → Int32) (P : Nat → Nat → Int32) (B : Nat → Nat → Int32) (L : Nat → Nat → Int64) (p1 : Int32) : Option (Int32 × (Nat → Nat → Int32) × (Nat → Nat → Int32)) :=
  q_bd (f_X3_within N p1 (1 : Int32) (120 : Int32)) (fun r_1 =>
  if r_1 = 0 then
    q_bd2 (f_X3_found N b R T K P B L (-1000000001 : Int32)) (fun r_25 b_26 =>
    some (r_25, b_26, T))
  else
    q_bd4 (f_X3_save_L26 N b R K P B L p1 N (-1000000004 : Int32) (9 : Int32) (0 : Int32) T) (fun x_5 x_6 x_7 T_8 =>
    q_bd2 (f_X3_orNone N b R T_8 K P B L x_5) (fun r_22 b_23 =>
    some (r_22, b_23, T_8))))
set_option maxHeartbeats 4000000 in
set_option maxRecDepth 100000 in
theorem c_X3_save (l : Launch) (D : va_G) (y : Nat → ClassId) (t : Nat → Nat) (q : Nat → Nat) (sz N : Nat) (b : Nat → Nat → Int32) (R : Nat → Nat → Int32) (T : Nat → Nat → Int32) (K : Nat → Nat → Int32) (P : Nat → Nat → Int32) (B : Nat → Nat → Int32) (L : Nat → Nat → Int64) (p1 : Int32) (res : Int32 × (Nat → Nat → Int32) × (Nat → Nat → Int32)) (h : f_X3_save N b R T K P B L p1 = some res) : Met l yX3_save wsX3_save ({ frames := 6, cells := 0, slots := 0, locals := 135 } : Room) (pPre D y t [.ref (q 0), .int p1] (wB y q b R T K P B L) sz) (pQi D y (res.1) (wB y q (res.2.1) R (res.2.2) K P B L) (va_A (wB y q b R T K P B L) sz)) 0 0 (va_A (wB y q b R T K P B L) sz) := by
  refine q_start (Qc := (fun A => pQi D y (res.1) (wB y q (res.2.1) R (res.2.2) K P B L) A)) (cc := cX3_save) (maxL := 6) (ret := (some .int)) (by decide) rfl (Nat.le_of_ble_eq_true rfl) ?_
  intro p e s m below meth c A ls hx hb hr hts hown hlocks hmn hml hP hK hZ hD hA hS hl
  have hl : lv_has ls 6 [(0, .ref (q 0)), (1, .int p1)] := hl
  have hown : s.vm.findClass RX3 = some m.cls := hown
  unfold f_X3_save at h
  refine lv_iload_n hx hb dX3_save_0 rfl (lv_at hl 1 rfl) ?_
  refine lv_iconst (v := 1) hx hb dX3_save_1 (by decide) ?_
  refine lv_bipush (v := 120) hx hb dX3_save_2 (by decide) ?_
  obtain ⟨r_1, hc_2, h⟩ := q_bd_ok h
  refine q_ci (r := r_1) (va_runS (As := [.int p1, .int (1 : Int32), .int (120 : Int32)]) (rest := []) ⟨hx, hb, hml, hown, hts⟩ (c_X3_within l D y t q _ N p1 (1 : Int32) (120 : Int32) r_1 hc_2) (va_cwS 3 hts gX3_save_X3_within rfl rfl rfl eX3_within ⟨Nat.le_of_ble_eq_true rfl, Nat.le_of_ble_eq_true rfl⟩) ⟨q_blind, (q_pre hP hK hZ hD hA hS [] rfl (by decide))⟩ rfl rfl hl.1 rfl (lv_room (Nat.le_of_ble_eq_true rfl)) dX3_save_4 ⟨Nat.zero_le _, Nat.zero_le _⟩) hP hD hA hS [] rfl (by decide) rfl (fun H locs hP hD hS => ?_)
  have hP : va_P D vwCl (wB y q b R T K P B L) H := hP
  have hD : va_D A (wB y q b R T K P B L) := hD
  refine lv_if_ne (tgt := 17) hx hb dX3_save_7 (by decide) (fun c_3 => ?_) (fun c_3 => ?_)
  · have h := q_f c_3 h
    refine lv_ldc (v := -1000000004) hx hb hown (hts _ kX3_save_0) dX3_save_17 ?_
    refine lv_istore_n (lv' := [(2, .int (-1000000004 : Int32)), (0, .ref (q 0)), (1, .int p1)]) hx hb dX3_save_19 rfl hl (by decide) rfl (fun ls hl => ?_)
    refine lv_bipush (v := 9) hx hb dX3_save_20 (by decide) ?_
    refine lv_istore_n (lv' := [(3, .int (9 : Int32)), (2, .int (-1000000004 : Int32)), (0, .ref (q 0)), (1, .int p1)]) hx hb dX3_save_22 rfl hl (by decide) rfl (fun ls hl => ?_)
    refine lv_iconst (v := 0) hx hb dX3_save_23 (by decide) ?_
    refine lv_istore (lv' := [(4, .int (0 : Int32)), (3, .int (9 : Int32)), (2, .int (-1000000004 : Int32)), (0, .ref (q 0)), (1, .int p1)]) hx hb dX3_save_24 hl (by decide) rfl (fun ls hl => ?_)
    obtain ⟨x_5, x_6, x_7, T_8, hL4, h⟩ := q_bd4_ok h
    have K26_4 : ∀ (H : Heap) (locs : List Loc) (ls : Array Slot), va_P D vwCl (wB y q b R T_8 K P B L) H → va_D A (wB y q b R T_8 K P B L) → va_S A s.heap H locs → lv_has ls 6 [(0, .ref (q 0)), (1, .int p1), (2, .int x_5), (3, .int x_6), (4, .int x_7)] → W p l e ({ frames := 6, cells := 0, slots := 0, locals := 135 } : Room) s m ([.ref (q 0), .int p1] : List Value).toArray below meth c H locs 0 0 (MQ below (pQi D y (res.1) (wB y q (res.2.1) R (res.2.2) K P B L) A) ([.ref (q 0), .int p1] : List Value).toArray s 0 0 A) (F0 m 82 ls []) := by
      intro H locs ls hP hD hS hl
      refine lv_aload_n hx hb dX3_save_82 rfl (lv_at hl 0 rfl) ?_
      refine lv_iload_n hx hb dX3_save_83 rfl (lv_at hl 2 rfl) ?_
      obtain ⟨r_22, b_23, hc_24, h⟩ := q_bd2_ok h
      refine q_ci0 (r := r_22) (va_runV (As := [.int x_5]) (rest := []) ⟨hx, hb, hml, hown, hts⟩ (c_X3_orNone l D y t q _ N b R T_8 K P B L x_5 (r_22, b_23) hc_24) (cwV 1 hts gX3_save_X3_orNone rfl rfl rfl eX3_orNone ⟨Nat.le_of_ble_eq_true rfl, Nat.le_of_ble_eq_true rfl⟩) ⟨q_blind, (va_recv hK hP (ci := 3) (q0 := 0) rfl rfl), (q_pre0 hP hK hZ hD hA hS)⟩ rfl rfl hl.1 rfl (lv_room (Nat.le_of_ble_eq_true rfl)) dX3_save_84 ⟨Nat.zero_le _, Nat.zero_le _⟩) hD hA hS (fun H locs hP hD hS => ?_)
      have hP : va_P D vwCl (wB y q b_23 R T_8 K P B L) H := hP
      have hD : va_D A (wB y q b_23 R T_8 K P B L) := hD
      have e9 := Option.some.inj h
      exact q_iret hx hb hr hlocks hK hP hD hS dX3_save_87 (by first | rw [← e9] | rfl) (by first | rw [← e9] | rfl)
    have L26_4 : ∀ (b : Nat → Nat → Int32) (R : Nat → Nat → Int32) (K : Nat → Nat → Int32) (P : Nat → Nat → Int32) (B : Nat → Nat → Int32) (L : Nat → Nat → Int64) (v1 : Int32) (k : Nat) (v2 : Int32) (v3 : Int32) (v4 : Int32) (T : Nat → Nat → Int32), (∀ (H : Heap) (locs : List Loc) (ls : Array Slot), va_P D vwCl (wB y q b R T_8 K P B L) H → va_D A (wB y q b R T_8 K P B L) → va_S A s.heap H locs → lv_has ls 6 [(0, .ref (q 0)), (1, .int v1), (2, .int x_5), (3, .int x_6), (4, .int x_7)] → W p l e ({ frames := 6, cells := 0, slots := 0, locals := 135 } : Room) s m ([.ref (q 0), .int p1] : List Value).toArray below meth c H locs 0 0 (MQ below (pQi D y (res.1) (wB y q (res.2.1) R (res.2.2) K P B L) A) ([.ref (q 0), .int p1] : List Value).toArray s 0 0 A) (F0 m 82 ls [])) → ∀ (H : Heap) (locs : List Loc) (ls : Array Slot), va_P D vwCl (wB y q b R T K P B L) H → va_D A (wB y q b R T K P B L) → va_S A s.heap H locs → lv_has ls 6 [(0, .ref (q 0)), (1, .int v1), (2, .int v2), (3, .int v3), (4, .int v4)] → f_X3_save_L26 N b R K P B L v1 k v2 v3 v4 T = some (x_5, x_6, x_7, T_8) → W p l e ({ frames := 6, cells := 0, slots := 0, locals := 135 } : Room) s m ([.ref (q 0), .int p1] : List Value).toArray below meth c H locs 0 0 (MQ below (pQi D y (res.1) (wB y q (res.2.1) R (res.2.2) K P B L) A) ([.ref (q 0), .int p1] : List Value).toArray s 0 0 A) (F0 m 26 ls []) := by
      intro b R K P B L v1 k
      induction k with
      | zero =>
        intro v2 v3 v4 T K26_4 H locs ls hP hD hS hl h
        have h : (none : Option (Int32 × Int32 × Int32 × (Nat → Nat → Int32))) = some _ := h
        cases h
      | succ k ih26_4 =>
        intro v2 v3 v4 T K26_4 H locs ls hP hD hS hl h
        rw [f_X3_save_L26] at h
        refine lv_iload hx hb dX3_save_26 (lv_at hl 4 rfl) ?_
        refine lv_aload_n hx hb dX3_save_28 rfl (lv_at hl 0 rfl) ?_
        refine va_get (D := D) (ci := 3) (v := .ref (q 1)) (C := RX3) (T := TX3) (N := 7) hx hb hts uX3_save_X3 hown hK hP 0 rfl rfl 0 (by decide) (hts _ kX3_save_2) (fun _ h9 => h9) rfl dX3_save_29 ?_
        refine va_get (D := D) (ci := 0) (v := .int (R 0 4)) (C := RX0) (T := TX0) (N := 13) hx hb hts uX3_save_X0 hown hK hP 1 rfl rfl 4 (by decide) (hts _ kX3_save_4) (fun _ h9 => h9) rfl dX3_save_32 ?_
        refine lv_icmp_ge (tgt := 82) hx hb dX3_save_35 (by decide) (fun c_9 => ?_) (fun c_9 => ?_)
        · have h := q_t c_9 h
          cases h
          exact K26_4 _ _ _ hP hD hS (lv_sub hl [0, 1, 2, 3, 4] rfl)
        · have h := q_f c_9 h
          refine lv_aload_n hx hb dX3_save_38 rfl (lv_at hl 0 rfl) ?_
          refine va_get (D := D) (ci := 3) (v := .ref (q 1)) (C := RX3) (T := TX3) (N := 7) hx hb hts uX3_save_X3 hown hK hP 0 rfl rfl 0 (by decide) (hts _ kX3_save_2) (fun _ h9 => h9) rfl dX3_save_39 ?_
          refine lv_iload hx hb dX3_save_42 (lv_at hl 4 rfl) ?_
          obtain ⟨r_10, hc_11, h⟩ := q_bd_ok h
          refine q_ci (r := r_10) (va_runV (As := [.int v4]) (rest := []) ⟨hx, hb, hml, hown, hts⟩ (c_X0_isOn l D y t (fun k => q (k + 1)) _ N R v4 r_10 hc_11) (cwV 1 hts gX3_save_X0_isOn rfl rfl rfl eX0_isOn ⟨Nat.le_of_ble_eq_true rfl, Nat.le_of_ble_eq_true rfl⟩) ⟨q_blind, (va_recv hK hP (ci := 0) (q0 := 1) rfl rfl), (q_pre hP hK hZ hD hA hS [1, 2, 3, 4, 5, 6, 7] rfl (by decide))⟩ rfl rfl hl.1 rfl (lv_room (Nat.le_of_ble_eq_true rfl)) dX3_save_44 ⟨Nat.zero_le _, Nat.zero_le _⟩) hP hD hA hS [1, 2, 3, 4, 5, 6, 7] rfl (by decide) rfl (fun H locs hP hD hS => ?_)
          have hP : va_P D vwCl (wB y q b R T K P B L) H := hP
          have hD : va_D A (wB y q b R T K P B L) := hD
          refine lv_if_eq (tgt := 60) hx hb dX3_save_47 (by decide) (fun c_12 => ?_) (fun c_12 => ?_)
          · have h := q_t c_12 h
            refine lv_bipush (v := 9) hx hb dX3_save_60 (by decide) ?_
            refine lv_istore (lv' := [(5, .int (9 : Int32)), (0, .ref (q 0)), (1, .int v1), (2, .int v2), (3, .int v3), (4, .int v4)]) hx hb dX3_save_62 hl (by decide) rfl (fun ls hl => ?_)
            refine lv_iload hx hb dX3_save_64 (lv_at hl 0 rfl) ?_
            refine lv_iload_n hx hb dX3_save_66 rfl (lv_at hl 4 rfl) ?_
            refine lv_icmp_ge (tgt := 76) hx hb dX3_save_67 (by decide) (fun c_13 => ?_) (fun c_13 => ?_)
            · have h := q_t c_13 h
              obtain ⟨x_14, ex_14, h⟩ := q_let_ok h
              refine lv_iinc (v := x_14) (lv' := [(4, .int x_14), (5, .int (9 : Int32)), (0, .ref (q 0)), (1, .int v1), (2, .int v2), (3, .int v3)]) hx hb dX3_save_76 hl (k := 5) rfl (by rw [ex_14]; rfl) (by decide) rfl (fun ls hl => ?_)
              refine lv_goto (tgt := 26) hx hb dX3_save_79 (by decide) ?_
              exact ih26_4 v2 v3 x_14 T K26_4 _ _ _ hP hD hS (lv_sub hl [2, 3, 4, 5, 0] rfl) h
            · have h := q_f c_13 h
              refine lv_iload hx hb dX3_save_70 (lv_at hl 0 rfl) ?_
              refine lv_istore_n (lv' := [(3, .int (9 : Int32)), (5, .int (9 : Int32)), (0, .ref (q 0)), (1, .int v1), (2, .int v2), (4, .int v4)]) hx hb dX3_save_72 rfl hl (by decide) rfl (fun ls hl => ?_)
              refine lv_iload hx hb dX3_save_73 (lv_at hl 5 rfl) ?_
              refine lv_istore_n (lv' := [(2, .int v4), (3, .int (9 : Int32)), (5, .int (9 : Int32)), (0, .ref (q 0)), (1, .int v1), (4, .int v4)]) hx hb dX3_save_75 rfl hl (by decide) rfl (fun ls hl => ?_)
              obtain ⟨x_15, ex_15, h⟩ := q_let_ok h
              refine lv_iinc (v := x_15) (lv' := [(4, .int x_15), (2, .int v4), (3, .int (9 : Int32)), (5, .int (9 : Int32)), (0, .ref (q 0)), (1, .int v1)]) hx hb dX3_save_76 hl (k := 5) rfl (by rw [ex_15]; rfl) (by decide) rfl (fun ls hl => ?_)
              refine lv_goto (tgt := 26) hx hb dX3_save_79 (by decide) ?_
              exact ih26_4 v4 (9 : Int32) x_15 T K26_4 _ _ _ hP hD hS (lv_sub hl [4, 5, 1, 2, 0] rfl) h
          · have h := q_f c_12 h
            refine lv_aload_n hx hb dX3_save_50 rfl (lv_at hl 0 rfl) ?_
            refine lv_iload hx hb dX3_save_51 (lv_at hl 4 rfl) ?_
            refine lv_iload_n hx hb dX3_save_53 rfl (lv_at hl 1 rfl) ?_
            obtain ⟨r_16, T_17, hc_18, h⟩ := q_bd2_ok h
            refine q_ci0 (r := r_16) (va_runV (As := [.int v4, .int v1]) (rest := []) ⟨hx, hb, hml, hown, hts⟩ (c_X3_lostWithout l D y t q _ N b R T K P B L v4 v1 (r_16, T_17) hc_18) (cwV 2 hts gX3_save_X3_lostWithout rfl rfl rfl eX3_lostWithout ⟨Nat.le_of_ble_eq_true rfl, Nat.le_of_ble_eq_true rfl⟩) ⟨q_blind, (va_recv hK hP (ci := 3) (q0 := 0) rfl rfl), (q_pre0 hP hK hZ hD hA hS)⟩ rfl rfl hl.1 rfl (lv_room (Nat.le_of_ble_eq_true rfl)) dX3_save_54 ⟨Nat.zero_le _, Nat.zero_le _⟩) hD hA hS (fun H locs hP hD hS => ?_)
            have hP : va_P D vwCl (wB y q b R T_17 K P B L) H := hP
            have hD : va_D A (wB y q b R T_17 K P B L) := hD
            refine lv_goto (tgt := 62) hx hb dX3_save_57 (by decide) ?_
            refine lv_istore (lv' := [(5, .int r_16), (0, .ref (q 0)), (1, .int v1), (2, .int v2), (3, .int v3), (4, .int v4)]) hx hb dX3_save_62 hl (by decide) rfl (fun ls hl => ?_)
            refine lv_iload hx hb dX3_save_64 (lv_at hl 0 rfl) ?_
            refine lv_iload_n hx hb dX3_save_66 rfl (lv_at hl 4 rfl) ?_
            refine lv_icmp_ge (tgt := 76) hx hb dX3_save_67 (by decide) (fun c_19 => ?_) (fun c_19 => ?_)
            · have h := q_t c_19 h
              obtain ⟨x_20, ex_20, h⟩ := q_let_ok h
              refine lv_iinc (v := x_20) (lv' := [(4, .int x_20), (5, .int r_16), (0, .ref (q 0)), (1, .int v1), (2, .int v2), (3, .int v3)]) hx hb dX3_save_76 hl (k := 5) rfl (by rw [ex_20]; rfl) (by decide) rfl (fun ls hl => ?_)
              refine lv_goto (tgt := 26) hx hb dX3_save_79 (by decide) ?_
              exact ih26_4 v2 v3 x_20 T_17 K26_4 _ _ _ hP hD hS (lv_sub hl [2, 3, 4, 5, 0] rfl) h
            · have h := q_f c_19 h
              refine lv_iload hx hb dX3_save_70 (lv_at hl 0 rfl) ?_
              refine lv_istore_n (lv' := [(3, .int r_16), (5, .int r_16), (0, .ref (q 0)), (1, .int v1), (2, .int v2), (4, .int v4)]) hx hb dX3_save_72 rfl hl (by decide) rfl (fun ls hl => ?_)
              refine lv_iload hx hb dX3_save_73 (lv_at hl 5 rfl) ?_
              refine lv_istore_n (lv' := [(2, .int v4), (3, .int r_16), (5, .int r_16), (0, .ref (q 0)), (1, .int v1), (4, .int v4)]) hx hb dX3_save_75 rfl hl (by decide) rfl (fun ls hl => ?_)
              obtain ⟨x_21, ex_21, h⟩ := q_let_ok h
              refine lv_iinc (v := x_21) (lv' := [(4, .int x_21), (2, .int v4), (3, .int r_16), (5, .int r_16), (0, .ref (q 0)), (1, .int v1)]) hx hb dX3_save_76 hl (k := 5) rfl (by rw [ex_21]; rfl) (by decide) rfl (fun ls hl => ?_)
              refine lv_goto (tgt := 26) hx hb dX3_save_79 (by decide) ?_
              exact ih26_4 v4 r_16 x_21 T_17 K26_4 _ _ _ hP hD hS (lv_sub hl [4, 5, 1, 2, 0] rfl) h
    exact L26_4 b R K P B L p1 N (-1000000004 : Int32) (9 : Int32) (0 : Int32) T K26_4 _ _ _ hP hD hS (lv_sub hl [3, 4, 2, 1, 0] rfl) hL4
  · have h := q_t c_3 h
    refine lv_aload_n hx hb dX3_save_10 rfl (lv_at hl 0 rfl) ?_
    refine lv_ldc (v := -1000000001) hx hb hown (hts _ kX3_save_5) dX3_save_11 ?_
    obtain ⟨r_25, b_26, hc_27, h⟩ := q_bd2_ok h
    refine q_ci0 (r := r_25) (va_runV (As := [.int (-1000000001 : Int32)]) (rest := []) ⟨hx, hb, hml, hown, hts⟩ (c_X3_found l D y t q _ N b R T K P B L (-1000000001 : Int32) (r_25, b_26) hc_27) (cwV 1 hts gX3_save_X3_found rfl rfl rfl eX3_found ⟨Nat.le_of_ble_eq_true rfl, Nat.le_of_ble_eq_true rfl⟩) ⟨q_blind, (va_recv hK hP (ci := 3) (q0 := 0) rfl rfl), (q_pre0 hP hK hZ hD hA hS)⟩ rfl rfl hl.1 rfl (lv_room (Nat.le_of_ble_eq_true rfl)) dX3_save_13 ⟨Nat.zero_le _, Nat.zero_le _⟩) hD hA hS (fun H locs hP hD hS => ?_)
    have hP : va_P D vwCl (wB y q b_26 R T K P B L) H := hP
    have hD : va_D A (wB y q b_26 R T K P B L) := hD
    have e9 := Option.some.inj h
    exact q_iret hx hb hr hlocks hK hP hD hS dX3_save_16 (by first | rw [← e9] | rfl) (by first | rw [← e9] | rfl)
theorem eX3_save : yX3_save.cls = RX3 ∧ yX3_save.cls ≠ "java/lang/invoke/MethodHandle" ∧ yX3_save.cls ≠ "java/lang/invoke/VarHandle" ∧ (parseMethodDescriptor yX3_save.desc).map (fun d => d.parameters.length) = some 1 := by decide +kernel
theorem kX3_goal_0 : Cond.constant RX3 167 (-1000000004) ∈ wsX3_goal := List.mem_of_getElem? (i := 3) (by decide +kernel)
theorem uX3_goal_X0 : ∀ w ∈ u_ws RX0 TX0 13, w ∈ wsX3_goal := by decide +kernel
theorem kX3_goal_2 : Cond.fieldLink RX3 109 "BeamSeats$Island" "goals" "[I" ∈ wsX3_goal := List.mem_of_getElem? (i := 5) (by decide +kernel)
theorem uX3_goal_X3 : ∀ w ∈ u_ws RX3 TX3 7, w ∈ wsX3_goal := by decide +kernel
theorem kX3_goal_4 : Cond.fieldLink RX3 16 "BeamSeats" "trial" "LBeamSeats$Island;" ∈ wsX3_goal := List.mem_of_getElem? (i := 4) (by decide +kernel)
theorem kX3_goal_5 : Cond.fieldLink RX3 10 "BeamSeats" "real" "LBeamSeats$Island;" ∈ wsX3_goal := List.mem_of_getElem? (i := 1) (by decide +kernel)
theorem kX3_goal_6 : Cond.constant RX3 58 (-1000000001) ∈ wsX3_goal := List.mem_of_getElem? (i := 2) (by decide +kernel)
def f_X3_goal_L27 (N : Nat) (b : Nat → Nat → Int32) (R : Nat → Nat → Int32) (K : Nat → Nat → Int32) (P : Nat → Nat → Int32) (B : Nat → Nat → Int32) (L : Nat → Nat → Int64) (v1 : Int32) : Nat → Int32 → Int32 → Int32 → (Nat → Nat → Int32) → Option (Int32 × Int32 × Int32 × (Nat → Nat → Int32))
  | 0, _, _, _, _ => none
  | k + 1, v2, v3, v4, T =>
    if (59 : Int32) < v4 then
      some (v2, v3, v4, T)
    else
      q_bd (f_X0_becomes N T R) (fun T_10 =>
      q_grd v1 8 (
      q_let (q_up T_10 5 v1.toNatClampNeg v4) (fun T_13 =>
      q_bd2 (f_X3_secondsUntil N b R T_13 K P B L v1 (3 : Int32) v3) (fun r_14 T_15 =>
      if r_14 ≤ 0 then
        q_let (v4 + 1) (fun x_18 =>
        f_X3_goal_L27 N b R K P B L v1 k v2 v3 x_18 T_15)
      else
        q_let (r_14 - (1 : Int32)) (fun x_19 =>
        q_let (v4 + 1) (fun x_20 =>
        f_X3_goal_L27 N b R K P B L v1 k v4 x_19 x_20 T_15))))))
def f_X3_goal (N : Nat) (b : Nat → Nat → Int32) (R : Nat → Nat → Int32) (T : Nat → Nat → Int32) (K : Nat → Nat → Int32) (P : Nat → Nat → Int32) (B : Nat → Nat → Int32) (L : Nat → Nat → Int64) (p1 : Int32) : Option (Int32 × (Nat → Nat → Int32) × (Nat → Nat → Int32)) :=
  q_bd (f_X0_has N R p1) (fun r_1 =>
  if r_1 = 0 then
    q_bd2 (f_X3_found N b R T K P B L (-1000000001 : Int32)) (fun r_24 b_25 =>
    some (r_24, b_25, T))
  else
    q_bd4 (f_X3_goal_L27 N b R K P B L p1 N (-1000000004 : Int32) (120 : Int32) (0 : Int32) T) (fun x_5 x_6 x_7 T_8 =>
    q_bd2 (f_X3_orNone N b R T_8 K P B L x_5) (fun r_21 b_22 =>
    some (r_21, b_22, T_8))))
set_option maxHeartbeats 4000000 in
set_option maxRecDepth 100000 in
theorem c_X3_goal (l : Launch) (D : va_G) (y : Nat → ClassId) (t : Nat → Nat) (q : Nat → Nat) (sz N : Nat) (b : Nat → Nat → Int32) (R : Nat → Nat → Int32) (T : Nat → Nat → Int32) (K : Nat → Nat → Int32) (P : Nat → Nat → Int32) (B : Nat → Nat → Int32) (L : Nat → Nat → Int64) (p1 : Int32) (res : Int32 × (Nat → Nat → Int32) × (Nat → Nat → Int32)) (h : f_X3_goal N b R T K P B L p1 = some res) : Met l yX3_goal wsX3_goal ({ frames := 6, cells := 0, slots := 0, locals := 137 } : Room) (pPre D y t [.ref (q 0), .int p1] (wB y q b R T K P B L) sz) (pQi D y (res.1) (wB y q (res.2.1) R (res.2.2) K P B L) (va_A (wB y q b R T K P B L) sz)) 0 0 (va_A (wB y q b R T K P B L) sz) := by
  refine q_start (Qc := (fun A => pQi D y (res.1) (wB y q (res.2.1) R (res.2.2) K P B L) A)) (cc := cX3_goal) (maxL := 6) (ret := (some .int)) (by decide) rfl (Nat.le_of_ble_eq_true rfl) ?_
  intro p e s m below meth c A ls hx hb hr hts hown hlocks hmn hml hP hK hZ hD hA hS hl
  have hl : lv_has ls 6 [(0, .ref (q 0)), (1, .int p1)] := hl
  have hown : s.vm.findClass RX3 = some m.cls := hown
  unfold f_X3_goal at h
  refine lv_aload_n hx hb dX3_goal_0 rfl (lv_at hl 0 rfl) ?_
  refine va_get (D := D) (ci := 3) (v := .ref (q 1)) (C := RX3) (T := TX3) (N := 7) hx hb hts uX3_goal_X3 hown hK hP 0 rfl rfl 0 (by decide) (hts _ kX3_goal_5) (fun _ h9 => h9) rfl dX3_goal_1 ?_
  refine lv_iload_n hx hb dX3_goal_4 rfl (lv_at hl 1 rfl) ?_
  obtain ⟨r_1, hc_2, h⟩ := q_bd_ok h
  refine q_ci (r := r_1) (va_runV (As := [.int p1]) (rest := []) ⟨hx, hb, hml, hown, hts⟩ (c_X0_has l D y t (fun k => q (k + 1)) _ N R p1 r_1 hc_2) (cwV 1 hts gX3_goal_X0_has rfl rfl rfl eX0_has ⟨Nat.le_of_ble_eq_true rfl, Nat.le_of_ble_eq_true rfl⟩) ⟨q_blind, (va_recv hK hP (ci := 0) (q0 := 1) rfl rfl), (q_pre hP hK hZ hD hA hS [1, 2, 3, 4, 5, 6, 7] rfl (by decide))⟩ rfl rfl hl.1 rfl (lv_room (Nat.le_of_ble_eq_true rfl)) dX3_goal_5 ⟨Nat.zero_le _, Nat.zero_le _⟩) hP hD hA hS [1, 2, 3, 4, 5, 6, 7] rfl (by decide) rfl (fun H locs hP hD hS => ?_)
  have hP : va_P D vwCl (wB y q b R T K P B L) H := hP
  have hD : va_D A (wB y q b R T K P B L) := hD
  refine lv_if_ne (tgt := 18) hx hb dX3_goal_8 (by decide) (fun c_3 => ?_) (fun c_3 => ?_)
  · have h := q_f c_3 h
    refine lv_ldc (v := -1000000004) hx hb hown (hts _ kX3_goal_0) dX3_goal_18 ?_
    refine lv_istore_n (lv' := [(2, .int (-1000000004 : Int32)), (0, .ref (q 0)), (1, .int p1)]) hx hb dX3_goal_20 rfl hl (by decide) rfl (fun ls hl => ?_)
    refine lv_bipush (v := 120) hx hb dX3_goal_21 (by decide) ?_
    refine lv_istore_n (lv' := [(3, .int (120 : Int32)), (2, .int (-1000000004 : Int32)), (0, .ref (q 0)), (1, .int p1)]) hx hb dX3_goal_23 rfl hl (by decide) rfl (fun ls hl => ?_)
    refine lv_iconst (v := 0) hx hb dX3_goal_24 (by decide) ?_
    refine lv_istore (lv' := [(4, .int (0 : Int32)), (3, .int (120 : Int32)), (2, .int (-1000000004 : Int32)), (0, .ref (q 0)), (1, .int p1)]) hx hb dX3_goal_25 hl (by decide) rfl (fun ls hl => ?_)
    obtain ⟨x_5, x_6, x_7, T_8, hL4, h⟩ := q_bd4_ok h
    have K27_4 : ∀ (H : Heap) (locs : List Loc) (ls : Array Slot), va_P D vwCl (wB y q b R T_8 K P B L) H → va_D A (wB y q b R T_8 K P B L) → va_S A s.heap H locs → lv_has ls 6 [(0, .ref (q 0)), (1, .int p1), (2, .int x_5), (3, .int x_6), (4, .int x_7)] → W p l e ({ frames := 6, cells := 0, slots := 0, locals := 137 } : Room) s m ([.ref (q 0), .int p1] : List Value).toArray below meth c H locs 0 0 (MQ below (pQi D y (res.1) (wB y q (res.2.1) R (res.2.2) K P B L) A) ([.ref (q 0), .int p1] : List Value).toArray s 0 0 A) (F0 m 84 ls []) := by
      intro H locs ls hP hD hS hl
      refine lv_aload_n hx hb dX3_goal_84 rfl (lv_at hl 0 rfl) ?_
      refine lv_iload_n hx hb dX3_goal_85 rfl (lv_at hl 2 rfl) ?_
      obtain ⟨r_21, b_22, hc_23, h⟩ := q_bd2_ok h
      refine q_ci0 (r := r_21) (va_runV (As := [.int x_5]) (rest := []) ⟨hx, hb, hml, hown, hts⟩ (c_X3_orNone l D y t q _ N b R T_8 K P B L x_5 (r_21, b_22) hc_23) (cwV 1 hts gX3_goal_X3_orNone rfl rfl rfl eX3_orNone ⟨Nat.le_of_ble_eq_true rfl, Nat.le_of_ble_eq_true rfl⟩) ⟨q_blind, (va_recv hK hP (ci := 3) (q0 := 0) rfl rfl), (q_pre0 hP hK hZ hD hA hS)⟩ rfl rfl hl.1 rfl (lv_room (Nat.le_of_ble_eq_true rfl)) dX3_goal_86 ⟨Nat.zero_le _, Nat.zero_le _⟩) hD hA hS (fun H locs hP hD hS => ?_)
      have hP : va_P D vwCl (wB y q b_22 R T_8 K P B L) H := hP
      have hD : va_D A (wB y q b_22 R T_8 K P B L) := hD
      have e9 := Option.some.inj h
      exact q_iret hx hb hr hlocks hK hP hD hS dX3_goal_89 (by first | rw [← e9] | rfl) (by first | rw [← e9] | rfl)
    have L27_4 : ∀ (b : Nat → Nat → Int32) (R : Nat → Nat → Int32) (K : Nat → Nat → Int32) (P : Nat → Nat → Int32) (B : Nat → Nat → Int32) (L : Nat → Nat → Int64) (v1 : Int32) (k : Nat) (v2 : Int32) (v3 : Int32) (v4 : Int32) (T : Nat → Nat → Int32), (∀ (H : Heap) (locs : List Loc) (ls : Array Slot), va_P D vwCl (wB y q b R T_8 K P B L) H → va_D A (wB y q b R T_8 K P B L) → va_S A s.heap H locs → lv_has ls 6 [(0, .ref (q 0)), (1, .int v1), (2, .int x_5), (3, .int x_6), (4, .int x_7)] → W p l e ({ frames := 6, cells := 0, slots := 0, locals := 137 } : Room) s m ([.ref (q 0), .int p1] : List Value).toArray below meth c H locs 0 0 (MQ below (pQi D y (res.1) (wB y q (res.2.1) R (res.2.2) K P B L) A) ([.ref (q 0), .int p1] : List Value).toArray s 0 0 A) (F0 m 84 ls [])) → ∀ (H : Heap) (locs : List Loc) (ls : Array Slot), va_P D vwCl (wB y q b R T K P B L) H → va_D A (wB y q b R T K P B L) → va_S A s.heap H locs → lv_has ls 6 [(0, .ref (q 0)), (1, .int v1), (2, .int v2), (3, .int v3), (4, .int v4)] → f_X3_goal_L27 N b R K P B L v1 k v2 v3 v4 T = some (x_5, x_6, x_7, T_8) → W p l e ({ frames := 6, cells := 0, slots := 0, locals := 137 } : Room) s m ([.ref (q 0), .int p1] : List Value).toArray below meth c H locs 0 0 (MQ below (pQi D y (res.1) (wB y q (res.2.1) R (res.2.2) K P B L) A) ([.ref (q 0), .int p1] : List Value).toArray s 0 0 A) (F0 m 27 ls []) := by
      intro b R K P B L v1 k
      induction k with
      | zero =>
        intro v2 v3 v4 T K27_4 H locs ls hP hD hS hl h
        have h : (none : Option (Int32 × Int32 × Int32 × (Nat → Nat → Int32))) = some _ := h
        cases h
      | succ k ih27_4 =>
        intro v2 v3 v4 T K27_4 H locs ls hP hD hS hl h
        rw [f_X3_goal_L27] at h
        refine lv_iload hx hb dX3_goal_27 (lv_at hl 4 rfl) ?_
        refine lv_bipush (v := 59) hx hb dX3_goal_29 (by decide) ?_
        refine lv_icmp_gt (tgt := 84) hx hb dX3_goal_31 (by decide) (fun c_9 => ?_) (fun c_9 => ?_)
        · have h := q_t c_9 h
          cases h
          exact K27_4 _ _ _ hP hD hS (lv_sub hl [0, 1, 2, 3, 4] rfl)
        · have h := q_f c_9 h
          refine lv_aload_n hx hb dX3_goal_34 rfl (lv_at hl 0 rfl) ?_
          refine va_get (D := D) (ci := 3) (v := .ref (q 8)) (C := RX3) (T := TX3) (N := 7) hx hb hts uX3_goal_X3 hown hK hP 0 rfl rfl 1 (by decide) (hts _ kX3_goal_4) (fun _ h9 => h9) rfl dX3_goal_35 ?_
          refine lv_aload_n hx hb dX3_goal_38 rfl (lv_at hl 0 rfl) ?_
          refine va_get (D := D) (ci := 3) (v := .ref (q 1)) (C := RX3) (T := TX3) (N := 7) hx hb hts uX3_goal_X3 hown hK hP 0 rfl rfl 0 (by decide) (hts _ kX3_goal_5) (fun _ h9 => h9) rfl dX3_goal_39 ?_
          obtain ⟨T_10, hc_11, h⟩ := q_bd_ok h
          refine q_cv (va_runV (As := [.ref (q 1)]) (rest := []) ⟨hx, hb, hml, hown, hts⟩ (c_X0_becomes l D y t (fun k => if k < 7 then q (k + 8) else q (k - 7 + 1)) _ N T R T_10 hc_11) (cwV 1 hts gX3_goal_X0_becomes rfl rfl rfl eX0_becomes ⟨Nat.le_of_ble_eq_true rfl, Nat.le_of_ble_eq_true rfl⟩) ⟨q_blind, (va_recv hK hP (ci := 0) (q0 := 8) rfl rfl), (q_pre hP hK hZ hD hA hS [8, 9, 10, 11, 12, 13, 14, 1, 2, 3, 4, 5, 6, 7] rfl (by decide))⟩ rfl rfl hl.1 rfl (lv_room (Nat.le_of_ble_eq_true rfl)) dX3_goal_42 ⟨Nat.zero_le _, Nat.zero_le _⟩) hP hD hA hS [8, 9, 10, 11, 12, 13, 14, 1, 2, 3, 4, 5, 6, 7] rfl (by decide) rfl (fun H locs hP hD hS => ?_)
          have hP : va_P D vwCl (wB y q b R T_10 K P B L) H := hP
          have hD : va_D A (wB y q b R T_10 K P B L) := hD
          refine lv_aload_n hx hb dX3_goal_45 rfl (lv_at hl 0 rfl) ?_
          refine va_get (D := D) (ci := 3) (v := .ref (q 8)) (C := RX3) (T := TX3) (N := 7) hx hb hts uX3_goal_X3 hown hK hP 0 rfl rfl 1 (by decide) (hts _ kX3_goal_4) (fun _ h9 => h9) rfl dX3_goal_46 ?_
          refine va_get (D := D) (ci := 0) (v := .ref (q 13)) (C := RX0) (T := TX0) (N := 13) hx hb hts uX3_goal_X0 hown hK hP 8 rfl rfl 11 (by decide) (hts _ kX3_goal_2) (fun _ h9 => h9) rfl dX3_goal_49 ?_
          refine lv_iload_n hx hb dX3_goal_52 rfl (lv_at hl 1 rfl) ?_
          refine lv_iload hx hb dX3_goal_53 (lv_at hl 4 rfl) ?_
          obtain ⟨z_12, h⟩ := q_grd_ok h
          obtain ⟨T_13, eT_13, h⟩ := q_let_ok h
          refine va_iast hx hb hK hP hD hS 13 0 rfl rfl z_12 dX3_goal_55 (fun H locs hP hD hS => ?_)
          have hP : va_P D vwCl (wB y q b R T_13 K P B L) H := by rw [eT_13]; exact hP
          have hD : va_D A (wB y q b R T_13 K P B L) := by rw [eT_13]; exact hD
          refine lv_aload_n hx hb dX3_goal_56 rfl (lv_at hl 0 rfl) ?_
          refine lv_iload_n hx hb dX3_goal_57 rfl (lv_at hl 1 rfl) ?_
          refine lv_iconst (v := 3) hx hb dX3_goal_58 (by decide) ?_
          refine lv_iload_n hx hb dX3_goal_59 rfl (lv_at hl 3 rfl) ?_
          obtain ⟨r_14, T_15, hc_16, h⟩ := q_bd2_ok h
          refine q_ci0 (r := r_14) (va_runV (As := [.int v1, .int (3 : Int32), .int v3]) (rest := []) ⟨hx, hb, hml, hown, hts⟩ (c_X3_secondsUntil l D y t q _ N b R T_13 K P B L v1 (3 : Int32) v3 (r_14, T_15) hc_16) (cwV 3 hts gX3_goal_X3_secondsUntil rfl rfl rfl eX3_secondsUntil ⟨Nat.le_of_ble_eq_true rfl, Nat.le_of_ble_eq_true rfl⟩) ⟨q_blind, (va_recv hK hP (ci := 3) (q0 := 0) rfl rfl), (q_pre0 hP hK hZ hD hA hS)⟩ rfl rfl hl.1 rfl (lv_room (Nat.le_of_ble_eq_true rfl)) dX3_goal_60 ⟨Nat.zero_le _, Nat.zero_le _⟩) hD hA hS (fun H locs hP hD hS => ?_)
          have hP : va_P D vwCl (wB y q b R T_15 K P B L) H := hP
          have hD : va_D A (wB y q b R T_15 K P B L) := hD
          refine lv_istore (lv' := [(5, .int r_14), (0, .ref (q 0)), (1, .int v1), (2, .int v2), (3, .int v3), (4, .int v4)]) hx hb dX3_goal_63 hl (by decide) rfl (fun ls hl => ?_)
          refine lv_iload hx hb dX3_goal_65 (lv_at hl 0 rfl) ?_
          refine lv_if_le (tgt := 78) hx hb dX3_goal_67 (by decide) (fun c_17 => ?_) (fun c_17 => ?_)
          · have h := q_t c_17 h
            obtain ⟨x_18, ex_18, h⟩ := q_let_ok h
            refine lv_iinc (v := x_18) (lv' := [(4, .int x_18), (5, .int r_14), (0, .ref (q 0)), (1, .int v1), (2, .int v2), (3, .int v3)]) hx hb dX3_goal_78 hl (k := 5) rfl (by rw [ex_18]; rfl) (by decide) rfl (fun ls hl => ?_)
            refine lv_goto (tgt := 27) hx hb dX3_goal_81 (by decide) ?_
            exact ih27_4 v2 v3 x_18 T_15 K27_4 _ _ _ hP hD hS (lv_sub hl [2, 3, 4, 5, 0] rfl) h
          · have h := q_f c_17 h
            refine lv_iload hx hb dX3_goal_70 (lv_at hl 5 rfl) ?_
            refine lv_istore_n (lv' := [(2, .int v4), (5, .int r_14), (0, .ref (q 0)), (1, .int v1), (3, .int v3), (4, .int v4)]) hx hb dX3_goal_72 rfl hl (by decide) rfl (fun ls hl => ?_)
            refine lv_iload hx hb dX3_goal_73 (lv_at hl 1 rfl) ?_
            refine lv_iconst (v := 1) hx hb dX3_goal_75 (by decide) ?_
            refine lv_isub hx hb dX3_goal_76 ?_
            refine lv_topi (fun x_19 ex_19 => ?_)
            have h := q_let_at ex_19 h
            refine lv_istore_n (lv' := [(3, .int x_19), (2, .int v4), (5, .int r_14), (0, .ref (q 0)), (1, .int v1), (4, .int v4)]) hx hb dX3_goal_77 rfl hl (by decide) rfl (fun ls hl => ?_)
            obtain ⟨x_20, ex_20, h⟩ := q_let_ok h
            refine lv_iinc (v := x_20) (lv' := [(4, .int x_20), (3, .int x_19), (2, .int v4), (5, .int r_14), (0, .ref (q 0)), (1, .int v1)]) hx hb dX3_goal_78 hl (k := 5) rfl (by rw [ex_20]; rfl) (by decide) rfl (fun ls hl => ?_)
            refine lv_goto (tgt := 27) hx hb dX3_goal_81 (by decide) ?_
            exact ih27_4 v4 x_19 x_20 T_15 K27_4 _ _ _ hP hD hS (lv_sub hl [4, 5, 2, 1, 0] rfl) h
    exact L27_4 b R K P B L p1 N (-1000000004 : Int32) (120 : Int32) (0 : Int32) T K27_4 _ _ _ hP hD hS (lv_sub hl [3, 4, 2, 1, 0] rfl) hL4
  · have h := q_t c_3 h
    refine lv_aload_n hx hb dX3_goal_11 rfl (lv_at hl 0 rfl) ?_
    refine lv_ldc (v := -1000000001) hx hb hown (hts _ kX3_goal_6) dX3_goal_12 ?_
    obtain ⟨r_24, b_25, hc_26, h⟩ := q_bd2_ok h
    refine q_ci0 (r := r_24) (va_runV (As := [.int (-1000000001 : Int32)]) (rest := []) ⟨hx, hb, hml, hown, hts⟩ (c_X3_found l D y t q _ N b R T K P B L (-1000000001 : Int32) (r_24, b_25) hc_26) (cwV 1 hts gX3_goal_X3_found rfl rfl rfl eX3_found ⟨Nat.le_of_ble_eq_true rfl, Nat.le_of_ble_eq_true rfl⟩) ⟨q_blind, (va_recv hK hP (ci := 3) (q0 := 0) rfl rfl), (q_pre0 hP hK hZ hD hA hS)⟩ rfl rfl hl.1 rfl (lv_room (Nat.le_of_ble_eq_true rfl)) dX3_goal_14 ⟨Nat.zero_le _, Nat.zero_le _⟩) hD hA hS (fun H locs hP hD hS => ?_)
    have hP : va_P D vwCl (wB y q b_25 R T K P B L) H := hP
    have hD : va_D A (wB y q b_25 R T K P B L) := hD
    have e9 := Option.some.inj h
    exact q_iret hx hb hr hlocks hK hP hD hS dX3_goal_17 (by first | rw [← e9] | rfl) (by first | rw [← e9] | rfl)
theorem eX3_goal : yX3_goal.cls = RX3 ∧ yX3_goal.cls ≠ "java/lang/invoke/MethodHandle" ∧ yX3_goal.cls ≠ "java/lang/invoke/VarHandle" ∧ (parseMethodDescriptor yX3_goal.desc).map (fun d => d.parameters.length) = some 1 := by decide +kernel
theorem uX3_feed_X3 : ∀ w ∈ u_ws RX3 TX3 7, w ∈ wsX3_feed := by decide +kernel
theorem kX3_feed_1 : Cond.fieldLink RX3 29 "BeamSeats" "tape" "LBeamSeats$Tape;" ∈ wsX3_feed := List.mem_of_getElem? (i := 2) (by decide +kernel)
theorem uX3_feed_X2 : ∀ w ∈ u_ws RX2 TX2 7, w ∈ wsX3_feed := by decide +kernel
theorem kX3_feed_3 : Cond.fieldLink RX3 171 "BeamSeats$Tape" "size" "I" ∈ wsX3_feed := List.mem_of_getElem? (i := 3) (by decide +kernel)
theorem kX3_feed_4 : Cond.constant RX3 85 (-1000000002) ∈ wsX3_feed := List.mem_of_getElem? (i := 4) (by decide +kernel)
theorem kX3_feed_5 : Cond.constant RX3 58 (-1000000001) ∈ wsX3_feed := List.mem_of_getElem? (i := 1) (by decide +kernel)
def f_X3_feed_L41 (N : Nat) (b : Nat → Nat → Int32) (R : Nat → Nat → Int32) (T : Nat → Nat → Int32) (K : Nat → Nat → Int32) (B : Nat → Nat → Int32) (L : Nat → Nat → Int64) (v1 : Int32) : Nat → Int32 → (Nat → Nat → Int32) → Option (Int32 × (Nat → Nat → Int32))
  | 0, _, _ => none
  | k + 1, v3, P =>
    if v3 < 0 then
      some (v3, P)
    else
      q_bd (f_X2_append N P (((v1.toUInt32 >>> (((8 : Int32) * v3).toUInt32 &&& Int32.toUInt32 31)).toInt32).toInt8.toInt32)) (fun P_10 =>
      q_let (v3 + (-1)) (fun x_12 =>
      f_X3_feed_L41 N b R T K B L v1 k x_12 P_10))
def f_X3_feed (N : Nat) (b : Nat → Nat → Int32) (R : Nat → Nat → Int32) (T : Nat → Nat → Int32) (K : Nat → Nat → Int32) (P : Nat → Nat → Int32) (B : Nat → Nat → Int32) (L : Nat → Nat → Int64) (p1 : Int32) (p2 : Int32) : Option (Int32 × (Nat → Nat → Int32) × (Nat → Nat → Int32)) :=
  q_bd (f_X3_within N p2 (1 : Int32) (4 : Int32)) (fun r_1 =>
  if r_1 = 0 then
    q_bd2 (f_X3_found N b R T K P B L (-1000000001 : Int32)) (fun r_16 b_17 =>
    some (r_16, b_17, P))
  else
    if ((P 0 0) + p2) ≤ (120 : Int32) then
      q_let (p2 - (1 : Int32)) (fun x_5 =>
      q_bd2 (f_X3_feed_L41 N b R T K B L p1 N x_5 P) (fun x_7 P_8 =>
      some ((P_8 0 0), b, P_8)))
    else
      q_bd2 (f_X3_found N b R T K P B L (-1000000002 : Int32)) (fun r_13 b_14 =>
      some (r_13, b_14, P)))
set_option maxHeartbeats 4000000 in
set_option maxRecDepth 100000 in
theorem c_X3_feed (l : Launch) (D : va_G) (y : Nat → ClassId) (t : Nat → Nat) (q : Nat → Nat) (sz N : Nat) (b : Nat → Nat → Int32) (R : Nat → Nat → Int32) (T : Nat → Nat → Int32) (K : Nat → Nat → Int32) (P : Nat → Nat → Int32) (B : Nat → Nat → Int32) (L : Nat → Nat → Int64) (p1 : Int32) (p2 : Int32) (res : Int32 × (Nat → Nat → Int32) × (Nat → Nat → Int32)) (h : f_X3_feed N b R T K P B L p1 p2 = some res) : Met l yX3_feed wsX3_feed ({ frames := 2, cells := 0, slots := 0, locals := 44 } : Room) (pPre D y t [.ref (q 0), .int p1, .int p2] (wB y q b R T K P B L) sz) (pQi D y (res.1) (wB y q (res.2.1) R T K (res.2.2) B L) (va_A (wB y q b R T K P B L) sz)) 0 0 (va_A (wB y q b R T K P B L) sz) := by
  refine q_start (Qc := (fun A => pQi D y (res.1) (wB y q (res.2.1) R T K (res.2.2) B L) A)) (cc := cX3_feed) (maxL := 4) (ret := (some .int)) (by decide) rfl (Nat.le_of_ble_eq_true rfl) ?_
  intro p e s m below meth c A ls hx hb hr hts hown hlocks hmn hml hP hK hZ hD hA hS hl
  have hl : lv_has ls 4 [(0, .ref (q 0)), (1, .int p1), (2, .int p2)] := hl
  have hown : s.vm.findClass RX3 = some m.cls := hown
  unfold f_X3_feed at h
  refine lv_iload_n hx hb dX3_feed_0 rfl (lv_at hl 2 rfl) ?_
  refine lv_iconst (v := 1) hx hb dX3_feed_1 (by decide) ?_
  refine lv_iconst (v := 4) hx hb dX3_feed_2 (by decide) ?_
  obtain ⟨r_1, hc_2, h⟩ := q_bd_ok h
  refine q_ci (r := r_1) (va_runS (As := [.int p2, .int (1 : Int32), .int (4 : Int32)]) (rest := []) ⟨hx, hb, hml, hown, hts⟩ (c_X3_within l D y t q _ N p2 (1 : Int32) (4 : Int32) r_1 hc_2) (va_cwS 3 hts gX3_feed_X3_within rfl rfl rfl eX3_within ⟨Nat.le_of_ble_eq_true rfl, Nat.le_of_ble_eq_true rfl⟩) ⟨q_blind, (q_pre hP hK hZ hD hA hS [] rfl (by decide))⟩ rfl rfl hl.1 rfl (lv_room (Nat.le_of_ble_eq_true rfl)) dX3_feed_3 ⟨Nat.zero_le _, Nat.zero_le _⟩) hP hD hA hS [] rfl (by decide) rfl (fun H locs hP hD hS => ?_)
  have hP : va_P D vwCl (wB y q b R T K P B L) H := hP
  have hD : va_D A (wB y q b R T K P B L) := hD
  refine lv_if_ne (tgt := 16) hx hb dX3_feed_6 (by decide) (fun c_3 => ?_) (fun c_3 => ?_)
  · have h := q_f c_3 h
    refine lv_aload_n hx hb dX3_feed_16 rfl (lv_at hl 0 rfl) ?_
    refine va_get (D := D) (ci := 3) (v := .ref (q 22)) (C := RX3) (T := TX3) (N := 7) hx hb hts uX3_feed_X3 hown hK hP 0 rfl rfl 4 (by decide) (hts _ kX3_feed_1) (fun _ h9 => h9) rfl dX3_feed_17 ?_
    refine va_get (D := D) (ci := 2) (v := .int (P 0 0)) (C := RX2) (T := TX2) (N := 7) hx hb hts uX3_feed_X2 hown hK hP 22 rfl rfl 1 (by decide) (hts _ kX3_feed_3) (fun _ h9 => h9) rfl dX3_feed_20 ?_
    refine lv_iload_n hx hb dX3_feed_23 rfl (lv_at hl 2 rfl) ?_
    refine lv_iadd hx hb dX3_feed_24 ?_
    refine lv_bipush (v := 120) hx hb dX3_feed_25 (by decide) ?_
    refine lv_icmp_le (tgt := 37) hx hb dX3_feed_27 (by decide) (fun c_4 => ?_) (fun c_4 => ?_)
    · have h := q_t c_4 h
      refine lv_iload_n hx hb dX3_feed_37 rfl (lv_at hl 2 rfl) ?_
      refine lv_iconst (v := 1) hx hb dX3_feed_38 (by decide) ?_
      refine lv_isub hx hb dX3_feed_39 ?_
      refine lv_topi (fun x_5 ex_5 => ?_)
      have h := q_let_at ex_5 h
      refine lv_istore_n (lv' := [(3, .int x_5), (0, .ref (q 0)), (1, .int p1), (2, .int p2)]) hx hb dX3_feed_40 rfl hl (by decide) rfl (fun ls hl => ?_)
      obtain ⟨x_7, P_8, hL6, h⟩ := q_bd2_ok h
      have K41_6 : ∀ (H : Heap) (locs : List Loc) (ls : Array Slot), va_P D vwCl (wB y q b R T K P_8 B L) H → va_D A (wB y q b R T K P_8 B L) → va_S A s.heap H locs → lv_has ls 4 [(0, .ref (q 0)), (1, .int p1), (3, .int x_7)] → W p l e ({ frames := 2, cells := 0, slots := 0, locals := 44 } : Room) s m ([.ref (q 0), .int p1, .int p2] : List Value).toArray below meth c H locs 0 0 (MQ below (pQi D y (res.1) (wB y q (res.2.1) R T K (res.2.2) B L) A) ([.ref (q 0), .int p1, .int p2] : List Value).toArray s 0 0 A) (F0 m 65 ls []) := by
        intro H locs ls hP hD hS hl
        refine lv_aload_n hx hb dX3_feed_65 rfl (lv_at hl 0 rfl) ?_
        refine va_get (D := D) (ci := 3) (v := .ref (q 22)) (C := RX3) (T := TX3) (N := 7) hx hb hts uX3_feed_X3 hown hK hP 0 rfl rfl 4 (by decide) (hts _ kX3_feed_1) (fun _ h9 => h9) rfl dX3_feed_66 ?_
        refine va_get (D := D) (ci := 2) (v := .int (P_8 0 0)) (C := RX2) (T := TX2) (N := 7) hx hb hts uX3_feed_X2 hown hK hP 22 rfl rfl 1 (by decide) (hts _ kX3_feed_3) (fun _ h9 => h9) rfl dX3_feed_69 ?_
        have e9 := Option.some.inj h
        exact q_iret hx hb hr hlocks hK hP hD hS dX3_feed_72 (by first | rw [← e9] | rfl) (by first | rw [← e9] | rfl)
      have L41_6 : ∀ (b : Nat → Nat → Int32) (R : Nat → Nat → Int32) (T : Nat → Nat → Int32) (K : Nat → Nat → Int32) (B : Nat → Nat → Int32) (L : Nat → Nat → Int64) (v1 : Int32) (k : Nat) (v3 : Int32) (P : Nat → Nat → Int32), (∀ (H : Heap) (locs : List Loc) (ls : Array Slot), va_P D vwCl (wB y q b R T K P_8 B L) H → va_D A (wB y q b R T K P_8 B L) → va_S A s.heap H locs → lv_has ls 4 [(0, .ref (q 0)), (1, .int v1), (3, .int x_7)] → W p l e ({ frames := 2, cells := 0, slots := 0, locals := 44 } : Room) s m ([.ref (q 0), .int p1, .int p2] : List Value).toArray below meth c H locs 0 0 (MQ below (pQi D y (res.1) (wB y q (res.2.1) R T K (res.2.2) B L) A) ([.ref (q 0), .int p1, .int p2] : List Value).toArray s 0 0 A) (F0 m 65 ls [])) → ∀ (H : Heap) (locs : List Loc) (ls : Array Slot), va_P D vwCl (wB y q b R T K P B L) H → va_D A (wB y q b R T K P B L) → va_S A s.heap H locs → lv_has ls 4 [(0, .ref (q 0)), (1, .int v1), (3, .int v3)] → f_X3_feed_L41 N b R T K B L v1 k v3 P = some (x_7, P_8) → W p l e ({ frames := 2, cells := 0, slots := 0, locals := 44 } : Room) s m ([.ref (q 0), .int p1, .int p2] : List Value).toArray below meth c H locs 0 0 (MQ below (pQi D y (res.1) (wB y q (res.2.1) R T K (res.2.2) B L) A) ([.ref (q 0), .int p1, .int p2] : List Value).toArray s 0 0 A) (F0 m 41 ls []) := by
        intro b R T K B L v1 k
        induction k with
        | zero =>
          intro v3 P K41_6 H locs ls hP hD hS hl h
          have h : (none : Option (Int32 × (Nat → Nat → Int32))) = some _ := h
          cases h
        | succ k ih41_6 =>
          intro v3 P K41_6 H locs ls hP hD hS hl h
          rw [f_X3_feed_L41] at h
          refine lv_iload_n hx hb dX3_feed_41 rfl (lv_at hl 2 rfl) ?_
          refine lv_if_lt (tgt := 65) hx hb dX3_feed_42 (by decide) (fun c_9 => ?_) (fun c_9 => ?_)
          · have h := q_t c_9 h
            cases h
            exact K41_6 _ _ _ hP hD hS (lv_sub hl [0, 1, 2] rfl)
          · have h := q_f c_9 h
            refine lv_aload_n hx hb dX3_feed_45 rfl (lv_at hl 0 rfl) ?_
            refine va_get (D := D) (ci := 3) (v := .ref (q 22)) (C := RX3) (T := TX3) (N := 7) hx hb hts uX3_feed_X3 hown hK hP 0 rfl rfl 4 (by decide) (hts _ kX3_feed_1) (fun _ h9 => h9) rfl dX3_feed_46 ?_
            refine lv_iload_n hx hb dX3_feed_49 rfl (lv_at hl 1 rfl) ?_
            refine lv_bipush (v := 8) hx hb dX3_feed_50 (by decide) ?_
            refine lv_iload_n hx hb dX3_feed_52 rfl (lv_at hl 2 rfl) ?_
            refine lv_imul hx hb dX3_feed_53 ?_
            refine lv_iushr hx hb dX3_feed_54 rfl ?_
            refine lv_i2b hx hb dX3_feed_55 rfl ?_
            obtain ⟨P_10, hc_11, h⟩ := q_bd_ok h
            refine q_cv (va_runV (As := [.int (((v1.toUInt32 >>> (((8 : Int32) * v3).toUInt32 &&& Int32.toUInt32 31)).toInt32).toInt8.toInt32)]) (rest := []) ⟨hx, hb, hml, hown, hts⟩ (c_X2_append l D y t (fun k => q (k + 22)) _ N P (((v1.toUInt32 >>> (((8 : Int32) * v3).toUInt32 &&& Int32.toUInt32 31)).toInt32).toInt8.toInt32) P_10 hc_11) (cwV 1 hts gX3_feed_X2_append rfl rfl rfl eX2_append ⟨Nat.le_of_ble_eq_true rfl, Nat.le_of_ble_eq_true rfl⟩) ⟨q_blind, (va_recv hK hP (ci := 2) (q0 := 22) rfl rfl), (q_pre hP hK hZ hD hA hS [22, 23, 24, 25, 26] rfl (by decide))⟩ rfl rfl hl.1 rfl (lv_room (Nat.le_of_ble_eq_true rfl)) dX3_feed_56 ⟨Nat.zero_le _, Nat.zero_le _⟩) hP hD hA hS [22, 23, 24, 25, 26] rfl (by decide) rfl (fun H locs hP hD hS => ?_)
            have hP : va_P D vwCl (wB y q b R T K P_10 B L) H := hP
            have hD : va_D A (wB y q b R T K P_10 B L) := hD
            obtain ⟨x_12, ex_12, h⟩ := q_let_ok h
            refine lv_iinc (v := x_12) (lv' := [(3, .int x_12), (0, .ref (q 0)), (1, .int v1)]) hx hb dX3_feed_59 hl (k := 2) rfl (by rw [ex_12]; rfl) (by decide) rfl (fun ls hl => ?_)
            refine lv_goto (tgt := 41) hx hb dX3_feed_62 (by decide) ?_
            exact ih41_6 x_12 P_10 K41_6 _ _ _ hP hD hS (lv_sub hl [1, 2, 0] rfl) h
      exact L41_6 b R T K B L p1 N x_5 P K41_6 _ _ _ hP hD hS (lv_sub hl [1, 2, 0] rfl) hL6
    · have h := q_f c_4 h
      refine lv_aload_n hx hb dX3_feed_30 rfl (lv_at hl 0 rfl) ?_
      refine lv_ldc (v := -1000000002) hx hb hown (hts _ kX3_feed_4) dX3_feed_31 ?_
      obtain ⟨r_13, b_14, hc_15, h⟩ := q_bd2_ok h
      refine q_ci0 (r := r_13) (va_runV (As := [.int (-1000000002 : Int32)]) (rest := []) ⟨hx, hb, hml, hown, hts⟩ (c_X3_found l D y t q _ N b R T K P B L (-1000000002 : Int32) (r_13, b_14) hc_15) (cwV 1 hts gX3_feed_X3_found rfl rfl rfl eX3_found ⟨Nat.le_of_ble_eq_true rfl, Nat.le_of_ble_eq_true rfl⟩) ⟨q_blind, (va_recv hK hP (ci := 3) (q0 := 0) rfl rfl), (q_pre0 hP hK hZ hD hA hS)⟩ rfl rfl hl.1 rfl (lv_room (Nat.le_of_ble_eq_true rfl)) dX3_feed_33 ⟨Nat.zero_le _, Nat.zero_le _⟩) hD hA hS (fun H locs hP hD hS => ?_)
      have hP : va_P D vwCl (wB y q b_14 R T K P B L) H := hP
      have hD : va_D A (wB y q b_14 R T K P B L) := hD
      have e9 := Option.some.inj h
      exact q_iret hx hb hr hlocks hK hP hD hS dX3_feed_36 (by first | rw [← e9] | rfl) (by first | rw [← e9] | rfl)
  · have h := q_t c_3 h
    refine lv_aload_n hx hb dX3_feed_9 rfl (lv_at hl 0 rfl) ?_
    refine lv_ldc (v := -1000000001) hx hb hown (hts _ kX3_feed_5) dX3_feed_10 ?_
    obtain ⟨r_16, b_17, hc_18, h⟩ := q_bd2_ok h
    refine q_ci0 (r := r_16) (va_runV (As := [.int (-1000000001 : Int32)]) (rest := []) ⟨hx, hb, hml, hown, hts⟩ (c_X3_found l D y t q _ N b R T K P B L (-1000000001 : Int32) (r_16, b_17) hc_18) (cwV 1 hts gX3_feed_X3_found rfl rfl rfl eX3_found ⟨Nat.le_of_ble_eq_true rfl, Nat.le_of_ble_eq_true rfl⟩) ⟨q_blind, (va_recv hK hP (ci := 3) (q0 := 0) rfl rfl), (q_pre0 hP hK hZ hD hA hS)⟩ rfl rfl hl.1 rfl (lv_room (Nat.le_of_ble_eq_true rfl)) dX3_feed_12 ⟨Nat.zero_le _, Nat.zero_le _⟩) hD hA hS (fun H locs hP hD hS => ?_)
    have hP : va_P D vwCl (wB y q b_17 R T K P B L) H := hP
    have hD : va_D A (wB y q b_17 R T K P B L) := hD
    have e9 := Option.some.inj h
    exact q_iret hx hb hr hlocks hK hP hD hS dX3_feed_15 (by first | rw [← e9] | rfl) (by first | rw [← e9] | rfl)
theorem eX3_feed : yX3_feed.cls = RX3 ∧ yX3_feed.cls ≠ "java/lang/invoke/MethodHandle" ∧ yX3_feed.cls ≠ "java/lang/invoke/VarHandle" ∧ (parseMethodDescriptor yX3_feed.desc).map (fun d => d.parameters.length) = some 2 := by decide +kernel
