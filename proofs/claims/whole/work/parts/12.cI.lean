theorem kJ6_bitCount_0f7a4_0 : Cond.constant RJ6 265 (1431655765) ∈ wsJ6_bitCount_0f7a4 := List.mem_of_getElem? (i := 1) (by decide +kernel)
theorem kJ6_bitCount_0f7a4_1 : Cond.constant RJ6 266 (858993459) ∈ wsJ6_bitCount_0f7a4 := List.mem_of_getElem? (i := 2) (by decide +kernel)
theorem kJ6_bitCount_0f7a4_2 : Cond.constant RJ6 267 (252645135) ∈ wsJ6_bitCount_0f7a4 := List.mem_of_getElem? (i := 3) (by decide +kernel)
def f_J6_bitCount_0f7a4 (N : Nat) (p1 : Int32) : Option (Int32) :=
  q_let (p1 - (((p1.toUInt32 >>> ((1 : Int32).toUInt32 &&& Int32.toUInt32 31)).toInt32) &&& (1431655765 : Int32))) (fun x_1 =>
  q_let ((x_1 &&& (858993459 : Int32)) + (((x_1.toUInt32 >>> ((2 : Int32).toUInt32 &&& Int32.toUInt32 31)).toInt32) &&& (858993459 : Int32))) (fun x_2 =>
  q_let ((x_2 + ((x_2.toUInt32 >>> ((4 : Int32).toUInt32 &&& Int32.toUInt32 31)).toInt32)) &&& (252645135 : Int32)) (fun x_3 =>
  q_let (x_3 + ((x_3.toUInt32 >>> ((8 : Int32).toUInt32 &&& Int32.toUInt32 31)).toInt32)) (fun x_4 =>
  q_let (x_4 + ((x_4.toUInt32 >>> ((16 : Int32).toUInt32 &&& Int32.toUInt32 31)).toInt32)) (fun x_5 =>
  some (x_5 &&& (63 : Int32)))))))
set_option maxHeartbeats 4000000 in
set_option maxRecDepth 100000 in
theorem c_J6_bitCount_0f7a4 (l : Launch) (D : va_G) (y : Nat → ClassId) (t : Nat → Nat) (q : Nat → Nat) (sz N : Nat) (p1 : Int32) (res : Int32) (h : f_J6_bitCount_0f7a4 N p1 = some res) : Met l yJ6_bitCount_0f7a4 wsJ6_bitCount_0f7a4 ({ frames := 0, cells := 0, slots := 0, locals := 0 } : Room) (pPre D y t [.int p1] (([] : va_W)) sz) (pQi D y res (([] : va_W)) (va_A (([] : va_W)) sz)) 0 0 (va_A (([] : va_W)) sz) := by
  refine q_start (Qc := (fun A => pQi D y res (([] : va_W)) A)) (cc := cJ6_bitCount_0f7a4) (maxL := 1) (ret := (some .int)) (by decide) rfl (Nat.le_of_ble_eq_true rfl) ?_
  intro p e s m below meth c A ls hx hb hr hts hown hlocks hmn hml hP hK hZ hD hA hS hl
  have hl : lv_has ls 1 [(0, .int p1)] := hl
  have hown : s.vm.findClass RJ6 = some m.cls := hown
  unfold f_J6_bitCount_0f7a4 at h
  refine lv_iload_n hx hb dJ6_bitCount_0f7a4_0 rfl (lv_at hl 0 rfl) ?_
  refine lv_iload_n hx hb dJ6_bitCount_0f7a4_1 rfl (lv_at hl 0 rfl) ?_
  refine lv_iconst (v := 1) hx hb dJ6_bitCount_0f7a4_2 (by decide) ?_
  refine lv_iushr hx hb dJ6_bitCount_0f7a4_3 rfl ?_
  refine lv_ldcw (v := 1431655765) hx hb hown (hts _ kJ6_bitCount_0f7a4_0) dJ6_bitCount_0f7a4_4 ?_
  refine lv_iand hx hb dJ6_bitCount_0f7a4_7 ?_
  refine lv_isub hx hb dJ6_bitCount_0f7a4_8 ?_
  refine lv_topi (fun x_1 ex_1 => ?_)
  have h := q_let_at ex_1 h
  refine lv_istore_n (lv' := [(0, .int x_1)]) hx hb dJ6_bitCount_0f7a4_9 rfl hl (by decide) rfl (fun ls hl => ?_)
  refine lv_iload_n hx hb dJ6_bitCount_0f7a4_10 rfl (lv_at hl 0 rfl) ?_
  refine lv_ldcw (v := 858993459) hx hb hown (hts _ kJ6_bitCount_0f7a4_1) dJ6_bitCount_0f7a4_11 ?_
  refine lv_iand hx hb dJ6_bitCount_0f7a4_14 ?_
  refine lv_iload_n hx hb dJ6_bitCount_0f7a4_15 rfl (lv_at hl 0 rfl) ?_
  refine lv_iconst (v := 2) hx hb dJ6_bitCount_0f7a4_16 (by decide) ?_
  refine lv_iushr hx hb dJ6_bitCount_0f7a4_17 rfl ?_
  refine lv_ldcw (v := 858993459) hx hb hown (hts _ kJ6_bitCount_0f7a4_1) dJ6_bitCount_0f7a4_18 ?_
  refine lv_iand hx hb dJ6_bitCount_0f7a4_21 ?_
  refine lv_iadd hx hb dJ6_bitCount_0f7a4_22 ?_
  refine lv_topi (fun x_2 ex_2 => ?_)
  have h := q_let_at ex_2 h
  refine lv_istore_n (lv' := [(0, .int x_2)]) hx hb dJ6_bitCount_0f7a4_23 rfl hl (by decide) rfl (fun ls hl => ?_)
  refine lv_iload_n hx hb dJ6_bitCount_0f7a4_24 rfl (lv_at hl 0 rfl) ?_
  refine lv_iload_n hx hb dJ6_bitCount_0f7a4_25 rfl (lv_at hl 0 rfl) ?_
  refine lv_iconst (v := 4) hx hb dJ6_bitCount_0f7a4_26 (by decide) ?_
  refine lv_iushr hx hb dJ6_bitCount_0f7a4_27 rfl ?_
  refine lv_iadd hx hb dJ6_bitCount_0f7a4_28 ?_
  refine lv_ldcw (v := 252645135) hx hb hown (hts _ kJ6_bitCount_0f7a4_2) dJ6_bitCount_0f7a4_29 ?_
  refine lv_iand hx hb dJ6_bitCount_0f7a4_32 ?_
  refine lv_topi (fun x_3 ex_3 => ?_)
  have h := q_let_at ex_3 h
  refine lv_istore_n (lv' := [(0, .int x_3)]) hx hb dJ6_bitCount_0f7a4_33 rfl hl (by decide) rfl (fun ls hl => ?_)
  refine lv_iload_n hx hb dJ6_bitCount_0f7a4_34 rfl (lv_at hl 0 rfl) ?_
  refine lv_iload_n hx hb dJ6_bitCount_0f7a4_35 rfl (lv_at hl 0 rfl) ?_
  refine lv_bipush (v := 8) hx hb dJ6_bitCount_0f7a4_36 (by decide) ?_
  refine lv_iushr hx hb dJ6_bitCount_0f7a4_38 rfl ?_
  refine lv_iadd hx hb dJ6_bitCount_0f7a4_39 ?_
  refine lv_topi (fun x_4 ex_4 => ?_)
  have h := q_let_at ex_4 h
  refine lv_istore_n (lv' := [(0, .int x_4)]) hx hb dJ6_bitCount_0f7a4_40 rfl hl (by decide) rfl (fun ls hl => ?_)
  refine lv_iload_n hx hb dJ6_bitCount_0f7a4_41 rfl (lv_at hl 0 rfl) ?_
  refine lv_iload_n hx hb dJ6_bitCount_0f7a4_42 rfl (lv_at hl 0 rfl) ?_
  refine lv_bipush (v := 16) hx hb dJ6_bitCount_0f7a4_43 (by decide) ?_
  refine lv_iushr hx hb dJ6_bitCount_0f7a4_45 rfl ?_
  refine lv_iadd hx hb dJ6_bitCount_0f7a4_46 ?_
  refine lv_topi (fun x_5 ex_5 => ?_)
  have h := q_let_at ex_5 h
  refine lv_istore_n (lv' := [(0, .int x_5)]) hx hb dJ6_bitCount_0f7a4_47 rfl hl (by decide) rfl (fun ls hl => ?_)
  refine lv_iload_n hx hb dJ6_bitCount_0f7a4_48 rfl (lv_at hl 0 rfl) ?_
  refine lv_bipush (v := 63) hx hb dJ6_bitCount_0f7a4_49 (by decide) ?_
  refine lv_iand hx hb dJ6_bitCount_0f7a4_51 ?_
  have e9 := Option.some.inj h
  exact q_iret hx hb hr hlocks hK hP hD hS dJ6_bitCount_0f7a4_52 (by first | rw [← e9] | rfl) (by first | rw [← e9] | rfl)
theorem eJ6_bitCount_0f7a4 : yJ6_bitCount_0f7a4.cls ≠ "java/lang/invoke/MethodHandle" ∧ yJ6_bitCount_0f7a4.cls ≠ "java/lang/invoke/VarHandle" ∧ (parseMethodDescriptor yJ6_bitCount_0f7a4.desc).map (fun d => d.parameters.length) = some 1 := by decide +kernel
theorem uX0_has_X0 : ∀ w ∈ u_ws RX0 TX0 13, w ∈ wsX0_has := by decide +kernel
theorem kX0_has_1 : Cond.fieldLink RX0 24 "BeamSeats$Island" "size" "I" ∈ wsX0_has := List.mem_of_getElem? (i := 1) (by decide +kernel)
def f_X0_has (N : Nat) (F : Nat → Nat → Int32) (p1 : Int32) : Option (Int32) :=
  if p1 < 0 then
    some (0 : Int32)
  else
    if (F 0 4) ≤ p1 then
      some (0 : Int32)
    else
      some (1 : Int32)
set_option maxHeartbeats 4000000 in
set_option maxRecDepth 100000 in
theorem c_X0_has (l : Launch) (D : va_G) (y : Nat → ClassId) (t : Nat → Nat) (q : Nat → Nat) (sz N : Nat) (F : Nat → Nat → Int32) (p1 : Int32) (res : Int32) (h : f_X0_has N F p1 = some res) : Met l yX0_has wsX0_has ({ frames := 0, cells := 0, slots := 0, locals := 0 } : Room) (pPre D y t [.ref (q 0), .int p1] (wI y q F) sz) (pQi D y res (wI y q F) (va_A (wI y q F) sz)) 0 0 (va_A (wI y q F) sz) := by
  refine q_start (Qc := (fun A => pQi D y res (wI y q F) A)) (cc := cX0_has) (maxL := 2) (ret := (some .boolean)) (by decide) rfl (Nat.le_of_ble_eq_true rfl) ?_
  intro p e s m below meth c A ls hx hb hr hts hown hlocks hmn hml hP hK hZ hD hA hS hl
  have hl : lv_has ls 2 [(0, .ref (q 0)), (1, .int p1)] := hl
  have hown : s.vm.findClass RX0 = some m.cls := hown
  unfold f_X0_has at h
  refine lv_iload_n hx hb dX0_has_0 rfl (lv_at hl 1 rfl) ?_
  refine lv_if_lt (tgt := 16) hx hb dX0_has_1 (by decide) (fun c_1 => ?_) (fun c_1 => ?_)
  · have h := q_t c_1 h
    refine lv_iconst (v := 0) hx hb dX0_has_16 (by decide) ?_
    have e9 := Option.some.inj h
    exact q_zret hx hb hr hlocks hK hP hD hS dX0_has_17 rfl (by first | rw [← e9] | rfl) (by first | rw [← e9] | rfl)
  · have h := q_f c_1 h
    refine lv_iload_n hx hb dX0_has_4 rfl (lv_at hl 1 rfl) ?_
    refine lv_aload_n hx hb dX0_has_5 rfl (lv_at hl 0 rfl) ?_
    refine va_get (D := D) (ci := 0) (v := .int (F 0 4)) (C := RX0) (T := TX0) (N := 13) hx hb hts uX0_has_X0 hown hK hP 0 rfl rfl 4 (by decide) (hts _ kX0_has_1) (fun _ h9 => h9) rfl dX0_has_6 ?_
    refine lv_icmp_ge (tgt := 16) hx hb dX0_has_9 (by decide) (fun c_2 => ?_) (fun c_2 => ?_)
    · have h := q_t c_2 h
      refine lv_iconst (v := 0) hx hb dX0_has_16 (by decide) ?_
      have e9 := Option.some.inj h
      exact q_zret hx hb hr hlocks hK hP hD hS dX0_has_17 rfl (by first | rw [← e9] | rfl) (by first | rw [← e9] | rfl)
    · have h := q_f c_2 h
      refine lv_iconst (v := 1) hx hb dX0_has_12 (by decide) ?_
      refine lv_goto (tgt := 17) hx hb dX0_has_13 (by decide) ?_
      have e9 := Option.some.inj h
      exact q_zret hx hb hr hlocks hK hP hD hS dX0_has_17 rfl (by first | rw [← e9] | rfl) (by first | rw [← e9] | rfl)
theorem eX0_has : yX0_has.cls = RX0 ∧ yX0_has.cls ≠ "java/lang/invoke/MethodHandle" ∧ yX0_has.cls ≠ "java/lang/invoke/VarHandle" ∧ (parseMethodDescriptor yX0_has.desc).map (fun d => d.parameters.length) = some 1 := by decide +kernel
theorem uX0_isOn_X0 : ∀ w ∈ u_ws RX0 TX0 13, w ∈ wsX0_isOn := by decide +kernel
theorem kX0_isOn_1 : Cond.fieldLink RX0 27 "BeamSeats$Island" "onSet" "I" ∈ wsX0_isOn := List.mem_of_getElem? (i := 1) (by decide +kernel)
def f_X0_isOn (N : Nat) (F : Nat → Nat → Int32) (p1 : Int32) : Option (Int32) :=
  if (((F 0 5) >>> (p1 &&& 31)) &&& (1 : Int32)) = (1 : Int32) then
    some (1 : Int32)
  else
    some (0 : Int32)
set_option maxHeartbeats 4000000 in
set_option maxRecDepth 100000 in
theorem c_X0_isOn (l : Launch) (D : va_G) (y : Nat → ClassId) (t : Nat → Nat) (q : Nat → Nat) (sz N : Nat) (F : Nat → Nat → Int32) (p1 : Int32) (res : Int32) (h : f_X0_isOn N F p1 = some res) : Met l yX0_isOn wsX0_isOn ({ frames := 0, cells := 0, slots := 0, locals := 0 } : Room) (pPre D y t [.ref (q 0), .int p1] (wI y q F) sz) (pQi D y res (wI y q F) (va_A (wI y q F) sz)) 0 0 (va_A (wI y q F) sz) := by
  refine q_start (Qc := (fun A => pQi D y res (wI y q F) A)) (cc := cX0_isOn) (maxL := 2) (ret := (some .boolean)) (by decide) rfl (Nat.le_of_ble_eq_true rfl) ?_
  intro p e s m below meth c A ls hx hb hr hts hown hlocks hmn hml hP hK hZ hD hA hS hl
  have hl : lv_has ls 2 [(0, .ref (q 0)), (1, .int p1)] := hl
  have hown : s.vm.findClass RX0 = some m.cls := hown
  unfold f_X0_isOn at h
  refine lv_aload_n hx hb dX0_isOn_0 rfl (lv_at hl 0 rfl) ?_
  refine va_get (D := D) (ci := 0) (v := .int (F 0 5)) (C := RX0) (T := TX0) (N := 13) hx hb hts uX0_isOn_X0 hown hK hP 0 rfl rfl 5 (by decide) (hts _ kX0_isOn_1) (fun _ h9 => h9) rfl dX0_isOn_1 ?_
  refine lv_iload_n hx hb dX0_isOn_4 rfl (lv_at hl 1 rfl) ?_
  refine lv_ishr hx hb dX0_isOn_5 ?_
  refine lv_iconst (v := 1) hx hb dX0_isOn_6 (by decide) ?_
  refine lv_iand hx hb dX0_isOn_7 ?_
  refine lv_iconst (v := 1) hx hb dX0_isOn_8 (by decide) ?_
  refine lv_icmp_ne (tgt := 16) hx hb dX0_isOn_9 (by decide) (fun c_1 => ?_) (fun c_1 => ?_)
  · have h := q_f c_1 h
    refine lv_iconst (v := 0) hx hb dX0_isOn_16 (by decide) ?_
    have e9 := Option.some.inj h
    exact q_zret hx hb hr hlocks hK hP hD hS dX0_isOn_17 rfl (by first | rw [← e9] | rfl) (by first | rw [← e9] | rfl)
  · have h := q_t c_1 h
    refine lv_iconst (v := 1) hx hb dX0_isOn_12 (by decide) ?_
    refine lv_goto (tgt := 17) hx hb dX0_isOn_13 (by decide) ?_
    have e9 := Option.some.inj h
    exact q_zret hx hb hr hlocks hK hP hD hS dX0_isOn_17 rfl (by first | rw [← e9] | rfl) (by first | rw [← e9] | rfl)
theorem eX0_isOn : yX0_isOn.cls = RX0 ∧ yX0_isOn.cls ≠ "java/lang/invoke/MethodHandle" ∧ yX0_isOn.cls ≠ "java/lang/invoke/VarHandle" ∧ (parseMethodDescriptor yX0_isOn.desc).map (fun d => d.parameters.length) = some 1 := by decide +kernel
theorem uX0_isLost_X0 : ∀ w ∈ u_ws RX0 TX0 13, w ∈ wsX0_isLost := by decide +kernel
theorem kX0_isLost_1 : Cond.fieldLink RX0 30 "BeamSeats$Island" "lostSet" "I" ∈ wsX0_isLost := List.mem_of_getElem? (i := 1) (by decide +kernel)
def f_X0_isLost (N : Nat) (F : Nat → Nat → Int32) (p1 : Int32) : Option (Int32) :=
  if (((F 0 6) >>> (p1 &&& 31)) &&& (1 : Int32)) = (1 : Int32) then
    some (1 : Int32)
  else
    some (0 : Int32)
set_option maxHeartbeats 4000000 in
set_option maxRecDepth 100000 in
theorem c_X0_isLost (l : Launch) (D : va_G) (y : Nat → ClassId) (t : Nat → Nat) (q : Nat → Nat) (sz N : Nat) (F : Nat → Nat → Int32) (p1 : Int32) (res : Int32) (h : f_X0_isLost N F p1 = some res) : Met l yX0_isLost wsX0_isLost ({ frames := 0, cells := 0, slots := 0, locals := 0 } : Room) (pPre D y t [.ref (q 0), .int p1] (wI y q F) sz) (pQi D y res (wI y q F) (va_A (wI y q F) sz)) 0 0 (va_A (wI y q F) sz) := by
  refine q_start (Qc := (fun A => pQi D y res (wI y q F) A)) (cc := cX0_isLost) (maxL := 2) (ret := (some .boolean)) (by decide) rfl (Nat.le_of_ble_eq_true rfl) ?_
  intro p e s m below meth c A ls hx hb hr hts hown hlocks hmn hml hP hK hZ hD hA hS hl
  have hl : lv_has ls 2 [(0, .ref (q 0)), (1, .int p1)] := hl
  have hown : s.vm.findClass RX0 = some m.cls := hown
  unfold f_X0_isLost at h
  refine lv_aload_n hx hb dX0_isLost_0 rfl (lv_at hl 0 rfl) ?_
  refine va_get (D := D) (ci := 0) (v := .int (F 0 6)) (C := RX0) (T := TX0) (N := 13) hx hb hts uX0_isLost_X0 hown hK hP 0 rfl rfl 6 (by decide) (hts _ kX0_isLost_1) (fun _ h9 => h9) rfl dX0_isLost_1 ?_
  refine lv_iload_n hx hb dX0_isLost_4 rfl (lv_at hl 1 rfl) ?_
  refine lv_ishr hx hb dX0_isLost_5 ?_
  refine lv_iconst (v := 1) hx hb dX0_isLost_6 (by decide) ?_
  refine lv_iand hx hb dX0_isLost_7 ?_
  refine lv_iconst (v := 1) hx hb dX0_isLost_8 (by decide) ?_
  refine lv_icmp_ne (tgt := 16) hx hb dX0_isLost_9 (by decide) (fun c_1 => ?_) (fun c_1 => ?_)
  · have h := q_f c_1 h
    refine lv_iconst (v := 0) hx hb dX0_isLost_16 (by decide) ?_
    have e9 := Option.some.inj h
    exact q_zret hx hb hr hlocks hK hP hD hS dX0_isLost_17 rfl (by first | rw [← e9] | rfl) (by first | rw [← e9] | rfl)
  · have h := q_t c_1 h
    refine lv_iconst (v := 1) hx hb dX0_isLost_12 (by decide) ?_
    refine lv_goto (tgt := 17) hx hb dX0_isLost_13 (by decide) ?_
    have e9 := Option.some.inj h
    exact q_zret hx hb hr hlocks hK hP hD hS dX0_isLost_17 rfl (by first | rw [← e9] | rfl) (by first | rw [← e9] | rfl)
theorem eX0_isLost : yX0_isLost.cls = RX0 ∧ yX0_isLost.cls ≠ "java/lang/invoke/MethodHandle" ∧ yX0_isLost.cls ≠ "java/lang/invoke/VarHandle" ∧ (parseMethodDescriptor yX0_isLost.desc).map (fun d => d.parameters.length) = some 1 := by decide +kernel
theorem uX0_add_X0 : ∀ w ∈ u_ws RX0 TX0 13, w ∈ wsX0_add := by decide +kernel
theorem kX0_add_1 : Cond.fieldLink RX0 24 "BeamSeats$Island" "size" "I" ∈ wsX0_add := List.mem_of_getElem? (i := 1) (by decide +kernel)
theorem kX0_add_2 : Cond.fieldLink RX0 49 "BeamSeats$Island" "times" "[I" ∈ wsX0_add := List.mem_of_getElem? (i := 7) (by decide +kernel)
theorem kX0_add_3 : Cond.fieldLink RX0 46 "BeamSeats$Island" "goals" "[I" ∈ wsX0_add := List.mem_of_getElem? (i := 6) (by decide +kernel)
theorem kX0_add_4 : Cond.fieldLink RX0 43 "BeamSeats$Island" "wets" "[I" ∈ wsX0_add := List.mem_of_getElem? (i := 5) (by decide +kernel)
theorem kX0_add_5 : Cond.fieldLink RX0 40 "BeamSeats$Island" "outs" "[I" ∈ wsX0_add := List.mem_of_getElem? (i := 4) (by decide +kernel)
theorem kX0_add_6 : Cond.fieldLink RX0 37 "BeamSeats$Island" "places" "[I" ∈ wsX0_add := List.mem_of_getElem? (i := 3) (by decide +kernel)
theorem kX0_add_7 : Cond.fieldLink RX0 33 "BeamSeats$Island" "kinds" "[I" ∈ wsX0_add := List.mem_of_getElem? (i := 2) (by decide +kernel)
def f_X0_add (N : Nat) (F : Nat → Nat → Int32) (p1 : Int32) (p2 : Int32) : Option (Int32 × (Nat → Nat → Int32)) :=
  q_let (F 0 4) (fun x_1 =>
  q_grd x_1 8 (
  q_let (q_up F 1 x_1.toNatClampNeg p1) (fun F_3 =>
  q_grd x_1 8 (
  q_let (q_up F_3 2 x_1.toNatClampNeg p2) (fun F_5 =>
  q_grd x_1 8 (
  q_let (q_up F_5 3 x_1.toNatClampNeg (3 : Int32)) (fun F_7 =>
  q_grd x_1 8 (
  q_let (q_up F_7 4 x_1.toNatClampNeg (50 : Int32)) (fun F_9 =>
  q_grd x_1 8 (
  q_let (q_up F_9 5 x_1.toNatClampNeg (30 : Int32)) (fun F_11 =>
  q_grd x_1 8 (
  q_let (q_up F_11 6 x_1.toNatClampNeg (0 : Int32)) (fun F_13 =>
  q_let (q_up F_13 0 4 ((F_13 0 4) + (1 : Int32))) (fun F_14 =>
  some (x_1, F_14)))))))))))))))
set_option maxHeartbeats 4000000 in
set_option maxRecDepth 100000 in
theorem c_X0_add (l : Launch) (D : va_G) (y : Nat → ClassId) (t : Nat → Nat) (q : Nat → Nat) (sz N : Nat) (F : Nat → Nat → Int32) (p1 : Int32) (p2 : Int32) (res : Int32 × (Nat → Nat → Int32)) (h : f_X0_add N F p1 p2 = some res) : Met l yX0_add wsX0_add ({ frames := 0, cells := 0, slots := 0, locals := 0 } : Room) (pPre D y t [.ref (q 0), .int p1, .int p2] (wI y q F) sz) (pQi D y (res.1) (wI y q (res.2)) (va_A (wI y q F) sz)) 0 0 (va_A (wI y q F) sz) := by
  refine q_start (Qc := (fun A => pQi D y (res.1) (wI y q (res.2)) A)) (cc := cX0_add) (maxL := 4) (ret := (some .int)) (by decide) rfl (Nat.le_of_ble_eq_true rfl) ?_
  intro p e s m below meth c A ls hx hb hr hts hown hlocks hmn hml hP hK hZ hD hA hS hl
  have hl : lv_has ls 4 [(0, .ref (q 0)), (1, .int p1), (2, .int p2)] := hl
  have hown : s.vm.findClass RX0 = some m.cls := hown
  unfold f_X0_add at h
  refine lv_aload_n hx hb dX0_add_0 rfl (lv_at hl 0 rfl) ?_
  refine va_get (D := D) (ci := 0) (v := .int (F 0 4)) (C := RX0) (T := TX0) (N := 13) hx hb hts uX0_add_X0 hown hK hP 0 rfl rfl 4 (by decide) (hts _ kX0_add_1) (fun _ h9 => h9) rfl dX0_add_1 ?_
  refine lv_topi (fun x_1 ex_1 => ?_)
  have h := q_let_at ex_1 h
  refine lv_istore_n (lv' := [(3, .int x_1), (0, .ref (q 0)), (1, .int p1), (2, .int p2)]) hx hb dX0_add_4 rfl hl (by decide) rfl (fun ls hl => ?_)
  refine lv_aload_n hx hb dX0_add_5 rfl (lv_at hl 1 rfl) ?_
  refine va_get (D := D) (ci := 0) (v := .ref (q 1)) (C := RX0) (T := TX0) (N := 13) hx hb hts uX0_add_X0 hown hK hP 0 rfl rfl 7 (by decide) (hts _ kX0_add_7) (fun _ h9 => h9) rfl dX0_add_6 ?_
  refine lv_iload_n hx hb dX0_add_9 rfl (lv_at hl 0 rfl) ?_
  refine lv_iload_n hx hb dX0_add_10 rfl (lv_at hl 2 rfl) ?_
  obtain ⟨z_2, h⟩ := q_grd_ok h
  obtain ⟨F_3, eF_3, h⟩ := q_let_ok h
  refine va_iast hx hb hK hP hD hS 1 0 rfl rfl z_2 dX0_add_11 (fun H locs hP hD hS => ?_)
  have hP : va_P D vwCl (wI y q F_3) H := by rw [eF_3]; exact hP
  have hD : va_D A (wI y q F_3) := by rw [eF_3]; exact hD
  refine lv_aload_n hx hb dX0_add_12 rfl (lv_at hl 1 rfl) ?_
  refine va_get (D := D) (ci := 0) (v := .ref (q 2)) (C := RX0) (T := TX0) (N := 13) hx hb hts uX0_add_X0 hown hK hP 0 rfl rfl 8 (by decide) (hts _ kX0_add_6) (fun _ h9 => h9) rfl dX0_add_13 ?_
  refine lv_iload_n hx hb dX0_add_16 rfl (lv_at hl 0 rfl) ?_
  refine lv_iload_n hx hb dX0_add_17 rfl (lv_at hl 3 rfl) ?_
  obtain ⟨z_4, h⟩ := q_grd_ok h
  obtain ⟨F_5, eF_5, h⟩ := q_let_ok h
  refine va_iast hx hb hK hP hD hS 2 0 rfl rfl z_4 dX0_add_18 (fun H locs hP hD hS => ?_)
  have hP : va_P D vwCl (wI y q F_5) H := by rw [eF_5]; exact hP
  have hD : va_D A (wI y q F_5) := by rw [eF_5]; exact hD
  refine lv_aload_n hx hb dX0_add_19 rfl (lv_at hl 1 rfl) ?_
  refine va_get (D := D) (ci := 0) (v := .ref (q 3)) (C := RX0) (T := TX0) (N := 13) hx hb hts uX0_add_X0 hown hK hP 0 rfl rfl 9 (by decide) (hts _ kX0_add_5) (fun _ h9 => h9) rfl dX0_add_20 ?_
  refine lv_iload_n hx hb dX0_add_23 rfl (lv_at hl 0 rfl) ?_
  refine lv_iconst (v := 3) hx hb dX0_add_24 (by decide) ?_
  obtain ⟨z_6, h⟩ := q_grd_ok h
  obtain ⟨F_7, eF_7, h⟩ := q_let_ok h
  refine va_iast hx hb hK hP hD hS 3 0 rfl rfl z_6 dX0_add_25 (fun H locs hP hD hS => ?_)
  have hP : va_P D vwCl (wI y q F_7) H := by rw [eF_7]; exact hP
  have hD : va_D A (wI y q F_7) := by rw [eF_7]; exact hD
  refine lv_aload_n hx hb dX0_add_26 rfl (lv_at hl 1 rfl) ?_
  refine va_get (D := D) (ci := 0) (v := .ref (q 4)) (C := RX0) (T := TX0) (N := 13) hx hb hts uX0_add_X0 hown hK hP 0 rfl rfl 10 (by decide) (hts _ kX0_add_4) (fun _ h9 => h9) rfl dX0_add_27 ?_
  refine lv_iload_n hx hb dX0_add_30 rfl (lv_at hl 0 rfl) ?_
  refine lv_bipush (v := 50) hx hb dX0_add_31 (by decide) ?_
  obtain ⟨z_8, h⟩ := q_grd_ok h
  obtain ⟨F_9, eF_9, h⟩ := q_let_ok h
  refine va_iast hx hb hK hP hD hS 4 0 rfl rfl z_8 dX0_add_33 (fun H locs hP hD hS => ?_)
  have hP : va_P D vwCl (wI y q F_9) H := by rw [eF_9]; exact hP
  have hD : va_D A (wI y q F_9) := by rw [eF_9]; exact hD
  refine lv_aload_n hx hb dX0_add_34 rfl (lv_at hl 1 rfl) ?_
  refine va_get (D := D) (ci := 0) (v := .ref (q 5)) (C := RX0) (T := TX0) (N := 13) hx hb hts uX0_add_X0 hown hK hP 0 rfl rfl 11 (by decide) (hts _ kX0_add_3) (fun _ h9 => h9) rfl dX0_add_35 ?_
  refine lv_iload_n hx hb dX0_add_38 rfl (lv_at hl 0 rfl) ?_
  refine lv_bipush (v := 30) hx hb dX0_add_39 (by decide) ?_
  obtain ⟨z_10, h⟩ := q_grd_ok h
  obtain ⟨F_11, eF_11, h⟩ := q_let_ok h
  refine va_iast hx hb hK hP hD hS 5 0 rfl rfl z_10 dX0_add_41 (fun H locs hP hD hS => ?_)
  have hP : va_P D vwCl (wI y q F_11) H := by rw [eF_11]; exact hP
  have hD : va_D A (wI y q F_11) := by rw [eF_11]; exact hD
  refine lv_aload_n hx hb dX0_add_42 rfl (lv_at hl 1 rfl) ?_
  refine va_get (D := D) (ci := 0) (v := .ref (q 6)) (C := RX0) (T := TX0) (N := 13) hx hb hts uX0_add_X0 hown hK hP 0 rfl rfl 12 (by decide) (hts _ kX0_add_2) (fun _ h9 => h9) rfl dX0_add_43 ?_
  refine lv_iload_n hx hb dX0_add_46 rfl (lv_at hl 0 rfl) ?_
  refine lv_iconst (v := 0) hx hb dX0_add_47 (by decide) ?_
  obtain ⟨z_12, h⟩ := q_grd_ok h
  obtain ⟨F_13, eF_13, h⟩ := q_let_ok h
  refine va_iast hx hb hK hP hD hS 6 0 rfl rfl z_12 dX0_add_48 (fun H locs hP hD hS => ?_)
  have hP : va_P D vwCl (wI y q F_13) H := by rw [eF_13]; exact hP
  have hD : va_D A (wI y q F_13) := by rw [eF_13]; exact hD
  refine lv_aload_n hx hb dX0_add_49 rfl (lv_at hl 1 rfl) ?_
  refine lv_dup hx hb dX0_add_50 rfl ?_
  refine va_get (D := D) (ci := 0) (v := .int (F_13 0 4)) (C := RX0) (T := TX0) (N := 13) hx hb hts uX0_add_X0 hown hK hP 0 rfl rfl 4 (by decide) (hts _ kX0_add_1) (fun _ h9 => h9) rfl dX0_add_51 ?_
  refine lv_iconst (v := 1) hx hb dX0_add_54 (by decide) ?_
  refine lv_iadd hx hb dX0_add_55 ?_
  obtain ⟨F_14, eF_14, h⟩ := q_let_ok h
  refine va_put (D := D) (ci := 0) (v := .int ((F_13 0 4) + (1 : Int32))) (ty := .int) (C := RX0) (T := TX0) (N := 13) hx hb hts uX0_add_X0 tyX0 tyX0_ok nmX0 hown hK hP hD hS 0 rfl rfl 4 (by decide) (hts _ kX0_add_1) (fun _ h9 => h9) rfl (by decide +kernel) rfl rfl (Nat.le_of_ble_eq_true rfl) dX0_add_56 (fun H locs hP hD hS => ?_)
  have hP : va_P D vwCl (wI y q F_14) H := by rw [eF_14]; exact hP
  have hD : va_D A (wI y q F_14) := by rw [eF_14]; exact hD
  refine lv_iload_n hx hb dX0_add_59 rfl (lv_at hl 0 rfl) ?_
  have e9 := Option.some.inj h
  exact q_iret hx hb hr hlocks hK hP hD hS dX0_add_60 (by first | rw [← e9] | rfl) (by first | rw [← e9] | rfl)
theorem eX0_add : yX0_add.cls = RX0 ∧ yX0_add.cls ≠ "java/lang/invoke/MethodHandle" ∧ yX0_add.cls ≠ "java/lang/invoke/VarHandle" ∧ (parseMethodDescriptor yX0_add.desc).map (fun d => d.parameters.length) = some 2 := by decide +kernel
theorem uX0_weightOf_X0 : ∀ w ∈ u_ws RX0 TX0 13, w ∈ wsX0_weightOf := by decide +kernel
theorem kX0_weightOf_1 : Cond.fieldLink RX0 33 "BeamSeats$Island" "kinds" "[I" ∈ wsX0_weightOf := List.mem_of_getElem? (i := 2) (by decide +kernel)
theorem kX0_weightOf_2 : Cond.fieldLink RX0 43 "BeamSeats$Island" "wets" "[I" ∈ wsX0_weightOf := List.mem_of_getElem? (i := 1) (by decide +kernel)
def f_X0_weightOf (N : Nat) (F : Nat → Nat → Int32) (p1 : Int32) : Option (Int32) :=
  q_grd p1 8 (
  q_let ((1 : Int32) + ((F 4 p1.toNatClampNeg) / (25 : Int32))) (fun x_2 =>
  q_grd p1 8 (
  q_let (F 1 p1.toNatClampNeg) (fun x_4 =>
  if x_4 = 1 then
    some x_2
  else
    if x_4 = 2 then
      some (4 : Int32)
    else
      if x_4 = 3 then
        some (5 : Int32)
      else
        if x_4 = 4 then
          some (x_2 + (1 : Int32))
        else
          if x_4 = 5 then
            some (2 : Int32)
          else
            some (3 : Int32)))))
set_option maxHeartbeats 4000000 in
set_option maxRecDepth 100000 in
theorem c_X0_weightOf (l : Launch) (D : va_G) (y : Nat → ClassId) (t : Nat → Nat) (q : Nat → Nat) (sz N : Nat) (F : Nat → Nat → Int32) (p1 : Int32) (res : Int32) (h : f_X0_weightOf N F p1 = some res) : Met l yX0_weightOf wsX0_weightOf ({ frames := 0, cells := 0, slots := 0, locals := 0 } : Room) (pPre D y t [.ref (q 0), .int p1] (wI y q F) sz) (pQi D y res (wI y q F) (va_A (wI y q F) sz)) 0 0 (va_A (wI y q F) sz) := by
  refine q_start (Qc := (fun A => pQi D y res (wI y q F) A)) (cc := cX0_weightOf) (maxL := 3) (ret := (some .int)) (by decide) rfl (Nat.le_of_ble_eq_true rfl) ?_
  intro p e s m below meth c A ls hx hb hr hts hown hlocks hmn hml hP hK hZ hD hA hS hl
  have hl : lv_has ls 3 [(0, .ref (q 0)), (1, .int p1)] := hl
  have hown : s.vm.findClass RX0 = some m.cls := hown
  unfold f_X0_weightOf at h
  refine lv_iconst (v := 1) hx hb dX0_weightOf_0 (by decide) ?_
  refine lv_aload_n hx hb dX0_weightOf_1 rfl (lv_at hl 0 rfl) ?_
  refine va_get (D := D) (ci := 0) (v := .ref (q 4)) (C := RX0) (T := TX0) (N := 13) hx hb hts uX0_weightOf_X0 hown hK hP 0 rfl rfl 10 (by decide) (hts _ kX0_weightOf_2) (fun _ h9 => h9) rfl dX0_weightOf_2 ?_
  refine lv_iload_n hx hb dX0_weightOf_5 rfl (lv_at hl 1 rfl) ?_
  obtain ⟨z_1, h⟩ := q_grd_ok h
  refine va_iald hx hb hK hP 4 0 rfl rfl z_1 dX0_weightOf_6 ?_
  refine lv_bipush (v := 25) hx hb dX0_weightOf_7 (by decide) ?_
  refine lv_idiv hx hb dX0_weightOf_9 (by decide) ?_
  refine lv_iadd hx hb dX0_weightOf_10 ?_
  refine lv_topi (fun x_2 ex_2 => ?_)
  have h := q_let_at ex_2 h
  refine lv_istore_n (lv' := [(2, .int x_2), (0, .ref (q 0)), (1, .int p1)]) hx hb dX0_weightOf_11 rfl hl (by decide) rfl (fun ls hl => ?_)
  refine lv_aload_n hx hb dX0_weightOf_12 rfl (lv_at hl 1 rfl) ?_
  refine va_get (D := D) (ci := 0) (v := .ref (q 1)) (C := RX0) (T := TX0) (N := 13) hx hb hts uX0_weightOf_X0 hown hK hP 0 rfl rfl 7 (by decide) (hts _ kX0_weightOf_1) (fun _ h9 => h9) rfl dX0_weightOf_13 ?_
  refine lv_iload_n hx hb dX0_weightOf_16 rfl (lv_at hl 2 rfl) ?_
  obtain ⟨z_3, h⟩ := q_grd_ok h
  refine va_iald hx hb hK hP 1 0 rfl rfl z_3 dX0_weightOf_17 ?_
  refine lv_topi (fun x_4 ex_4 => ?_)
  have h := q_let_at ex_4 h
  by_cases c_5 : x_4 = 1
  · have h := q_t c_5 h
    refine lv_tableIn (tgt := 52) (off := 34) hx hb dX0_weightOf_18 (by rw [c_5]; decide) (by rw [c_5]; decide) (by rw [c_5]; rfl) (by decide) ?_
    refine lv_iload_n hx hb dX0_weightOf_52 rfl (lv_at hl 0 rfl) ?_
    have e9 := Option.some.inj h
    exact q_iret hx hb hr hlocks hK hP hD hS dX0_weightOf_53 (by first | rw [← e9] | rfl) (by first | rw [← e9] | rfl)
  · have h := q_f c_5 h
    by_cases c_6 : x_4 = 2
    · have h := q_t c_6 h
      refine lv_tableIn (tgt := 54) (off := 36) hx hb dX0_weightOf_18 (by rw [c_6]; decide) (by rw [c_6]; decide) (by rw [c_6]; rfl) (by decide) ?_
      refine lv_iconst (v := 4) hx hb dX0_weightOf_54 (by decide) ?_
      have e9 := Option.some.inj h
      exact q_iret hx hb hr hlocks hK hP hD hS dX0_weightOf_55 (by first | rw [← e9] | rfl) (by first | rw [← e9] | rfl)
    · have h := q_f c_6 h
      by_cases c_7 : x_4 = 3
      · have h := q_t c_7 h
        refine lv_tableIn (tgt := 56) (off := 38) hx hb dX0_weightOf_18 (by rw [c_7]; decide) (by rw [c_7]; decide) (by rw [c_7]; rfl) (by decide) ?_
        refine lv_iconst (v := 5) hx hb dX0_weightOf_56 (by decide) ?_
        have e9 := Option.some.inj h
        exact q_iret hx hb hr hlocks hK hP hD hS dX0_weightOf_57 (by first | rw [← e9] | rfl) (by first | rw [← e9] | rfl)
      · have h := q_f c_7 h
        by_cases c_8 : x_4 = 4
        · have h := q_t c_8 h
          refine lv_tableIn (tgt := 58) (off := 40) hx hb dX0_weightOf_18 (by rw [c_8]; decide) (by rw [c_8]; decide) (by rw [c_8]; rfl) (by decide) ?_
          refine lv_iload_n hx hb dX0_weightOf_58 rfl (lv_at hl 0 rfl) ?_
          refine lv_iconst (v := 1) hx hb dX0_weightOf_59 (by decide) ?_
          refine lv_iadd hx hb dX0_weightOf_60 ?_
          have e9 := Option.some.inj h
          exact q_iret hx hb hr hlocks hK hP hD hS dX0_weightOf_61 (by first | rw [← e9] | rfl) (by first | rw [← e9] | rfl)
        · have h := q_f c_8 h
          by_cases c_9 : x_4 = 5
          · have h := q_t c_9 h
            refine lv_tableIn (tgt := 62) (off := 44) hx hb dX0_weightOf_18 (by rw [c_9]; decide) (by rw [c_9]; decide) (by rw [c_9]; rfl) (by decide) ?_
            refine lv_iconst (v := 2) hx hb dX0_weightOf_62 (by decide) ?_
            have e9 := Option.some.inj h
            exact q_iret hx hb hr hlocks hK hP hD hS dX0_weightOf_63 (by first | rw [← e9] | rfl) (by first | rw [← e9] | rfl)
          · have h := q_f c_9 h
            have nc_5 := lv_neT c_5 (show ((1 : Int32)).toInt = 1 from by decide)
            have nc_6 := lv_neT c_6 (show ((2 : Int32)).toInt = 2 from by decide)
            have nc_7 := lv_neT c_7 (show ((3 : Int32)).toInt = 3 from by decide)
            have nc_8 := lv_neT c_8 (show ((4 : Int32)).toInt = 4 from by decide)
            have nc_9 := lv_neT c_9 (show ((5 : Int32)).toInt = 5 from by decide)
            refine lv_tableOut (tgt := 64) hx hb dX0_weightOf_18 (by omega) (by decide) ?_
            refine lv_iconst (v := 3) hx hb dX0_weightOf_64 (by decide) ?_
            have e9 := Option.some.inj h
            exact q_iret hx hb hr hlocks hK hP hD hS dX0_weightOf_65 (by first | rw [← e9] | rfl) (by first | rw [← e9] | rfl)
theorem eX0_weightOf : yX0_weightOf.cls = RX0 ∧ yX0_weightOf.cls ≠ "java/lang/invoke/MethodHandle" ∧ yX0_weightOf.cls ≠ "java/lang/invoke/VarHandle" ∧ (parseMethodDescriptor yX0_weightOf.desc).map (fun d => d.parameters.length) = some 1 := by decide +kernel
theorem uX0_weightAt_X0 : ∀ w ∈ u_ws RX0 TX0 13, w ∈ wsX0_weightAt := by decide +kernel
theorem kX0_weightAt_1 : Cond.fieldLink RX0 40 "BeamSeats$Island" "outs" "[I" ∈ wsX0_weightAt := List.mem_of_getElem? (i := 2) (by decide +kernel)
theorem kX0_weightAt_2 : Cond.fieldLink RX0 24 "BeamSeats$Island" "size" "I" ∈ wsX0_weightAt := List.mem_of_getElem? (i := 1) (by decide +kernel)
def f_X0_weightAt_L4 (N : Nat) (F : Nat → Nat → Int32) (v1 : Int32) : Nat → Int32 → Int32 → Option (Int32 × Int32)
  | 0, _, _ => none
  | k + 1, v2, v3 =>
    if (F 0 4) ≤ v3 then
      some (v2, v3)
    else
      q_grd v3 8 (
      if (F 3 v3.toNatClampNeg) = v1 then
        q_bd (f_X0_isOn N F v3) (fun r_8 =>
        if r_8 = 0 then
          q_let (v3 + 1) (fun x_11 =>
          f_X0_weightAt_L4 N F v1 k v2 x_11)
        else
          q_bd (f_X0_weightOf N F v3) (fun r_12 =>
          q_let (v2 + r_12) (fun x_14 =>
          q_let (v3 + 1) (fun x_15 =>
          f_X0_weightAt_L4 N F v1 k x_14 x_15))))
      else
        q_let (v3 + 1) (fun x_7 =>
        f_X0_weightAt_L4 N F v1 k v2 x_7))
def f_X0_weightAt (N : Nat) (F : Nat → Nat → Int32) (p1 : Int32) : Option (Int32) :=
  q_bd2 (f_X0_weightAt_L4 N F p1 N (0 : Int32) (0 : Int32)) (fun x_2 x_3 =>
  some x_2)
set_option maxHeartbeats 4000000 in
set_option maxRecDepth 100000 in
theorem c_X0_weightAt (l : Launch) (D : va_G) (y : Nat → ClassId) (t : Nat → Nat) (q : Nat → Nat) (sz N : Nat) (F : Nat → Nat → Int32) (p1 : Int32) (res : Int32) (h : f_X0_weightAt N F p1 = some res) : Met l yX0_weightAt wsX0_weightAt ({ frames := 1, cells := 0, slots := 0, locals := 22 } : Room) (pPre D y t [.ref (q 0), .int p1] (wI y q F) sz) (pQi D y res (wI y q F) (va_A (wI y q F) sz)) 0 0 (va_A (wI y q F) sz) := by
  refine q_start (Qc := (fun A => pQi D y res (wI y q F) A)) (cc := cX0_weightAt) (maxL := 4) (ret := (some .int)) (by decide) rfl (Nat.le_of_ble_eq_true rfl) ?_
  intro p e s m below meth c A ls hx hb hr hts hown hlocks hmn hml hP hK hZ hD hA hS hl
  have hl : lv_has ls 4 [(0, .ref (q 0)), (1, .int p1)] := hl
  have hown : s.vm.findClass RX0 = some m.cls := hown
  unfold f_X0_weightAt at h
  refine lv_iconst (v := 0) hx hb dX0_weightAt_0 (by decide) ?_
  refine lv_istore_n (lv' := [(2, .int (0 : Int32)), (0, .ref (q 0)), (1, .int p1)]) hx hb dX0_weightAt_1 rfl hl (by decide) rfl (fun ls hl => ?_)
  refine lv_iconst (v := 0) hx hb dX0_weightAt_2 (by decide) ?_
  refine lv_istore_n (lv' := [(3, .int (0 : Int32)), (2, .int (0 : Int32)), (0, .ref (q 0)), (1, .int p1)]) hx hb dX0_weightAt_3 rfl hl (by decide) rfl (fun ls hl => ?_)
  obtain ⟨x_2, x_3, hL1, h⟩ := q_bd2_ok h
  have K4_1 : ∀ (H : Heap) (locs : List Loc) (ls : Array Slot), va_P D vwCl (wI y q F) H → va_D A (wI y q F) → va_S A s.heap H locs → lv_has ls 4 [(0, .ref (q 0)), (1, .int p1), (2, .int x_2), (3, .int x_3)] → W p l e ({ frames := 1, cells := 0, slots := 0, locals := 22 } : Room) s m ([.ref (q 0), .int p1] : List Value).toArray below meth c H locs 0 0 (MQ below (pQi D y res (wI y q F) A) ([.ref (q 0), .int p1] : List Value).toArray s 0 0 A) (F0 m 44 ls []) := by
    intro H locs ls hP hD hS hl
    refine lv_iload_n hx hb dX0_weightAt_44 rfl (lv_at hl 2 rfl) ?_
    have e9 := Option.some.inj h
    exact q_iret hx hb hr hlocks hK hP hD hS dX0_weightAt_45 (by first | rw [← e9] | rfl) (by first | rw [← e9] | rfl)
  have L4_1 : ∀ (F : Nat → Nat → Int32) (v1 : Int32) (k : Nat) (v2 : Int32) (v3 : Int32), (∀ (H : Heap) (locs : List Loc) (ls : Array Slot), va_P D vwCl (wI y q F) H → va_D A (wI y q F) → va_S A s.heap H locs → lv_has ls 4 [(0, .ref (q 0)), (1, .int v1), (2, .int x_2), (3, .int x_3)] → W p l e ({ frames := 1, cells := 0, slots := 0, locals := 22 } : Room) s m ([.ref (q 0), .int p1] : List Value).toArray below meth c H locs 0 0 (MQ below (pQi D y res (wI y q F) A) ([.ref (q 0), .int p1] : List Value).toArray s 0 0 A) (F0 m 44 ls [])) → ∀ (H : Heap) (locs : List Loc) (ls : Array Slot), va_P D vwCl (wI y q F) H → va_D A (wI y q F) → va_S A s.heap H locs → lv_has ls 4 [(0, .ref (q 0)), (1, .int v1), (2, .int v2), (3, .int v3)] → f_X0_weightAt_L4 N F v1 k v2 v3 = some (x_2, x_3) → W p l e ({ frames := 1, cells := 0, slots := 0, locals := 22 } : Room) s m ([.ref (q 0), .int p1] : List Value).toArray below meth c H locs 0 0 (MQ below (pQi D y res (wI y q F) A) ([.ref (q 0), .int p1] : List Value).toArray s 0 0 A) (F0 m 4 ls []) := by
    intro F v1 k
    induction k with
    | zero =>
      intro v2 v3 K4_1 H locs ls hP hD hS hl h
      have h : (none : Option (Int32 × Int32)) = some _ := h
      cases h
    | succ k ih4_1 =>
      intro v2 v3 K4_1 H locs ls hP hD hS hl h
      rw [f_X0_weightAt_L4] at h
      refine lv_iload_n hx hb dX0_weightAt_4 rfl (lv_at hl 3 rfl) ?_
      refine lv_aload_n hx hb dX0_weightAt_5 rfl (lv_at hl 0 rfl) ?_
      refine va_get (D := D) (ci := 0) (v := .int (F 0 4)) (C := RX0) (T := TX0) (N := 13) hx hb hts uX0_weightAt_X0 hown hK hP 0 rfl rfl 4 (by decide) (hts _ kX0_weightAt_2) (fun _ h9 => h9) rfl dX0_weightAt_6 ?_
      refine lv_icmp_ge (tgt := 44) hx hb dX0_weightAt_9 (by decide) (fun c_4 => ?_) (fun c_4 => ?_)
      · have h := q_t c_4 h
        cases h
        exact K4_1 _ _ _ hP hD hS (lv_sub hl [0, 1, 2, 3] rfl)
      · have h := q_f c_4 h
        refine lv_aload_n hx hb dX0_weightAt_12 rfl (lv_at hl 0 rfl) ?_
        refine va_get (D := D) (ci := 0) (v := .ref (q 3)) (C := RX0) (T := TX0) (N := 13) hx hb hts uX0_weightAt_X0 hown hK hP 0 rfl rfl 9 (by decide) (hts _ kX0_weightAt_1) (fun _ h9 => h9) rfl dX0_weightAt_13 ?_
        refine lv_iload_n hx hb dX0_weightAt_16 rfl (lv_at hl 3 rfl) ?_
        obtain ⟨z_5, h⟩ := q_grd_ok h
        refine va_iald hx hb hK hP 3 0 rfl rfl z_5 dX0_weightAt_17 ?_
        refine lv_iload_n hx hb dX0_weightAt_18 rfl (lv_at hl 1 rfl) ?_
        refine lv_icmp_ne (tgt := 38) hx hb dX0_weightAt_19 (by decide) (fun c_6 => ?_) (fun c_6 => ?_)
        · have h := q_f c_6 h
          obtain ⟨x_7, ex_7, h⟩ := q_let_ok h
          refine lv_iinc (v := x_7) (lv' := [(3, .int x_7), (0, .ref (q 0)), (1, .int v1), (2, .int v2)]) hx hb dX0_weightAt_38 hl (k := 3) rfl (by rw [ex_7]; rfl) (by decide) rfl (fun ls hl => ?_)
          refine lv_goto (tgt := 4) hx hb dX0_weightAt_41 (by decide) ?_
          exact ih4_1 v2 x_7 K4_1 _ _ _ hP hD hS (lv_sub hl [1, 2, 3, 0] rfl) h
        · have h := q_t c_6 h
          refine lv_aload_n hx hb dX0_weightAt_22 rfl (lv_at hl 0 rfl) ?_
          refine lv_iload_n hx hb dX0_weightAt_23 rfl (lv_at hl 3 rfl) ?_
          obtain ⟨r_8, hc_9, h⟩ := q_bd_ok h
          refine q_ci (r := r_8) (va_runV (As := [.int v3]) (rest := []) ⟨hx, hb, hml, hown, hts⟩ (c_X0_isOn l D y t q _ N F v3 r_8 hc_9) (cwV 1 hts gX0_weightAt_X0_isOn rfl rfl rfl eX0_isOn ⟨Nat.le_of_ble_eq_true rfl, Nat.le_of_ble_eq_true rfl⟩) ⟨q_blind, (va_recv hK hP (ci := 0) (q0 := 0) rfl rfl), (q_pre hP hK hZ hD hA hS [0, 1, 2, 3, 4, 5, 6] rfl (by decide))⟩ rfl rfl hl.1 rfl (lv_room (Nat.le_of_ble_eq_true rfl)) dX0_weightAt_24 ⟨Nat.zero_le _, Nat.zero_le _⟩) hP hD hA hS [0, 1, 2, 3, 4, 5, 6] rfl (by decide) rfl (fun H locs hP hD hS => ?_)
          have hP : va_P D vwCl (wI y q F) H := hP
          have hD : va_D A (wI y q F) := hD
          refine lv_if_eq (tgt := 38) hx hb dX0_weightAt_27 (by decide) (fun c_10 => ?_) (fun c_10 => ?_)
          · have h := q_t c_10 h
            obtain ⟨x_11, ex_11, h⟩ := q_let_ok h
            refine lv_iinc (v := x_11) (lv' := [(3, .int x_11), (0, .ref (q 0)), (1, .int v1), (2, .int v2)]) hx hb dX0_weightAt_38 hl (k := 3) rfl (by rw [ex_11]; rfl) (by decide) rfl (fun ls hl => ?_)
            refine lv_goto (tgt := 4) hx hb dX0_weightAt_41 (by decide) ?_
            exact ih4_1 v2 x_11 K4_1 _ _ _ hP hD hS (lv_sub hl [1, 2, 3, 0] rfl) h
          · have h := q_f c_10 h
            refine lv_iload_n hx hb dX0_weightAt_30 rfl (lv_at hl 2 rfl) ?_
            refine lv_aload_n hx hb dX0_weightAt_31 rfl (lv_at hl 0 rfl) ?_
            refine lv_iload_n hx hb dX0_weightAt_32 rfl (lv_at hl 3 rfl) ?_
            obtain ⟨r_12, hc_13, h⟩ := q_bd_ok h
            refine q_ci (r := r_12) (va_runV (As := [.int v3]) (rest := [.int v2]) ⟨hx, hb, hml, hown, hts⟩ (c_X0_weightOf l D y t q _ N F v3 r_12 hc_13) (cwV 1 hts gX0_weightAt_X0_weightOf rfl rfl rfl eX0_weightOf ⟨Nat.le_of_ble_eq_true rfl, Nat.le_of_ble_eq_true rfl⟩) ⟨q_blind, (va_recv hK hP (ci := 0) (q0 := 0) rfl rfl), (q_pre hP hK hZ hD hA hS [0, 1, 2, 3, 4, 5, 6] rfl (by decide))⟩ rfl rfl hl.1 rfl (lv_room (Nat.le_of_ble_eq_true rfl)) dX0_weightAt_33 ⟨Nat.zero_le _, Nat.zero_le _⟩) hP hD hA hS [0, 1, 2, 3, 4, 5, 6] rfl (by decide) rfl (fun H locs hP hD hS => ?_)
            have hP : va_P D vwCl (wI y q F) H := hP
            have hD : va_D A (wI y q F) := hD
            refine lv_iadd hx hb dX0_weightAt_36 ?_
            refine lv_topi (fun x_14 ex_14 => ?_)
            have h := q_let_at ex_14 h
            refine lv_istore_n (lv' := [(2, .int x_14), (0, .ref (q 0)), (1, .int v1), (3, .int v3)]) hx hb dX0_weightAt_37 rfl hl (by decide) rfl (fun ls hl => ?_)
            obtain ⟨x_15, ex_15, h⟩ := q_let_ok h
            refine lv_iinc (v := x_15) (lv' := [(3, .int x_15), (2, .int x_14), (0, .ref (q 0)), (1, .int v1)]) hx hb dX0_weightAt_38 hl (k := 3) rfl (by rw [ex_15]; rfl) (by decide) rfl (fun ls hl => ?_)
            refine lv_goto (tgt := 4) hx hb dX0_weightAt_41 (by decide) ?_
            exact ih4_1 x_14 x_15 K4_1 _ _ _ hP hD hS (lv_sub hl [2, 3, 1, 0] rfl) h
  exact L4_1 F p1 N (0 : Int32) (0 : Int32) K4_1 _ _ _ hP hD hS (lv_sub hl [2, 3, 1, 0] rfl) hL1
theorem eX0_weightAt : yX0_weightAt.cls = RX0 ∧ yX0_weightAt.cls ≠ "java/lang/invoke/MethodHandle" ∧ yX0_weightAt.cls ≠ "java/lang/invoke/VarHandle" ∧ (parseMethodDescriptor yX0_weightAt.desc).map (fun d => d.parameters.length) = some 1 := by decide +kernel
theorem uX0_weightOfAll_X0 : ∀ w ∈ u_ws RX0 TX0 13, w ∈ wsX0_weightOfAll := by decide +kernel
theorem kX0_weightOfAll_1 : Cond.fieldLink RX0 24 "BeamSeats$Island" "size" "I" ∈ wsX0_weightOfAll := List.mem_of_getElem? (i := 1) (by decide +kernel)
def f_X0_weightOfAll_L4 (N : Nat) (F : Nat → Nat → Int32) : Nat → Int32 → Int32 → Option (Int32 × Int32)
  | 0, _, _ => none
  | k + 1, v1, v2 =>
    if (F 0 4) ≤ v2 then
      some (v1, v2)
    else
      q_bd (f_X0_isOn N F v2) (fun r_5 =>
      if r_5 = 0 then
        q_let (v2 + 1) (fun x_8 =>
        f_X0_weightOfAll_L4 N F k v1 x_8)
      else
        q_bd (f_X0_weightOf N F v2) (fun r_9 =>
        q_let (v1 + r_9) (fun x_11 =>
        q_let (v2 + 1) (fun x_12 =>
        f_X0_weightOfAll_L4 N F k x_11 x_12))))
def f_X0_weightOfAll (N : Nat) (F : Nat → Nat → Int32) : Option (Int32) :=
  q_bd2 (f_X0_weightOfAll_L4 N F N (0 : Int32) (0 : Int32)) (fun x_2 x_3 =>
  some x_2)
set_option maxHeartbeats 4000000 in
set_option maxRecDepth 100000 in
theorem c_X0_weightOfAll (l : Launch) (D : va_G) (y : Nat → ClassId) (t : Nat → Nat) (q : Nat → Nat) (sz N : Nat) (F : Nat → Nat → Int32) (res : Int32) (h : f_X0_weightOfAll N F = some res) : Met l yX0_weightOfAll wsX0_weightOfAll ({ frames := 1, cells := 0, slots := 0, locals := 22 } : Room) (pPre D y t [.ref (q 0)] (wI y q F) sz) (pQi D y res (wI y q F) (va_A (wI y q F) sz)) 0 0 (va_A (wI y q F) sz) := by
  refine q_start (Qc := (fun A => pQi D y res (wI y q F) A)) (cc := cX0_weightOfAll) (maxL := 3) (ret := (some .int)) (by decide) rfl (Nat.le_of_ble_eq_true rfl) ?_
  intro p e s m below meth c A ls hx hb hr hts hown hlocks hmn hml hP hK hZ hD hA hS hl
  have hl : lv_has ls 3 [(0, .ref (q 0))] := hl
  have hown : s.vm.findClass RX0 = some m.cls := hown
  unfold f_X0_weightOfAll at h
  refine lv_iconst (v := 0) hx hb dX0_weightOfAll_0 (by decide) ?_
  refine lv_istore_n (lv' := [(1, .int (0 : Int32)), (0, .ref (q 0))]) hx hb dX0_weightOfAll_1 rfl hl (by decide) rfl (fun ls hl => ?_)
  refine lv_iconst (v := 0) hx hb dX0_weightOfAll_2 (by decide) ?_
  refine lv_istore_n (lv' := [(2, .int (0 : Int32)), (1, .int (0 : Int32)), (0, .ref (q 0))]) hx hb dX0_weightOfAll_3 rfl hl (by decide) rfl (fun ls hl => ?_)
  obtain ⟨x_2, x_3, hL1, h⟩ := q_bd2_ok h
  have K4_1 : ∀ (H : Heap) (locs : List Loc) (ls : Array Slot), va_P D vwCl (wI y q F) H → va_D A (wI y q F) → va_S A s.heap H locs → lv_has ls 3 [(0, .ref (q 0)), (1, .int x_2), (2, .int x_3)] → W p l e ({ frames := 1, cells := 0, slots := 0, locals := 22 } : Room) s m ([.ref (q 0)] : List Value).toArray below meth c H locs 0 0 (MQ below (pQi D y res (wI y q F) A) ([.ref (q 0)] : List Value).toArray s 0 0 A) (F0 m 34 ls []) := by
    intro H locs ls hP hD hS hl
    refine lv_iload_n hx hb dX0_weightOfAll_34 rfl (lv_at hl 1 rfl) ?_
    have e9 := Option.some.inj h
    exact q_iret hx hb hr hlocks hK hP hD hS dX0_weightOfAll_35 (by first | rw [← e9] | rfl) (by first | rw [← e9] | rfl)
  have L4_1 : ∀ (F : Nat → Nat → Int32) (k : Nat) (v1 : Int32) (v2 : Int32), (∀ (H : Heap) (locs : List Loc) (ls : Array Slot), va_P D vwCl (wI y q F) H → va_D A (wI y q F) → va_S A s.heap H locs → lv_has ls 3 [(0, .ref (q 0)), (1, .int x_2), (2, .int x_3)] → W p l e ({ frames := 1, cells := 0, slots := 0, locals := 22 } : Room) s m ([.ref (q 0)] : List Value).toArray below meth c H locs 0 0 (MQ below (pQi D y res (wI y q F) A) ([.ref (q 0)] : List Value).toArray s 0 0 A) (F0 m 34 ls [])) → ∀ (H : Heap) (locs : List Loc) (ls : Array Slot), va_P D vwCl (wI y q F) H → va_D A (wI y q F) → va_S A s.heap H locs → lv_has ls 3 [(0, .ref (q 0)), (1, .int v1), (2, .int v2)] → f_X0_weightOfAll_L4 N F k v1 v2 = some (x_2, x_3) → W p l e ({ frames := 1, cells := 0, slots := 0, locals := 22 } : Room) s m ([.ref (q 0)] : List Value).toArray below meth c H locs 0 0 (MQ below (pQi D y res (wI y q F) A) ([.ref (q 0)] : List Value).toArray s 0 0 A) (F0 m 4 ls []) := by
    intro F k
    induction k with
    | zero =>
      intro v1 v2 K4_1 H locs ls hP hD hS hl h
      have h : (none : Option (Int32 × Int32)) = some _ := h
      cases h
    | succ k ih4_1 =>
      intro v1 v2 K4_1 H locs ls hP hD hS hl h
      rw [f_X0_weightOfAll_L4] at h
      refine lv_iload_n hx hb dX0_weightOfAll_4 rfl (lv_at hl 2 rfl) ?_
      refine lv_aload_n hx hb dX0_weightOfAll_5 rfl (lv_at hl 0 rfl) ?_
      refine va_get (D := D) (ci := 0) (v := .int (F 0 4)) (C := RX0) (T := TX0) (N := 13) hx hb hts uX0_weightOfAll_X0 hown hK hP 0 rfl rfl 4 (by decide) (hts _ kX0_weightOfAll_1) (fun _ h9 => h9) rfl dX0_weightOfAll_6 ?_
      refine lv_icmp_ge (tgt := 34) hx hb dX0_weightOfAll_9 (by decide) (fun c_4 => ?_) (fun c_4 => ?_)
      · have h := q_t c_4 h
        cases h
        exact K4_1 _ _ _ hP hD hS (lv_sub hl [0, 1, 2] rfl)
      · have h := q_f c_4 h
        refine lv_aload_n hx hb dX0_weightOfAll_12 rfl (lv_at hl 0 rfl) ?_
        refine lv_iload_n hx hb dX0_weightOfAll_13 rfl (lv_at hl 2 rfl) ?_
        obtain ⟨r_5, hc_6, h⟩ := q_bd_ok h
        refine q_ci (r := r_5) (va_runV (As := [.int v2]) (rest := []) ⟨hx, hb, hml, hown, hts⟩ (c_X0_isOn l D y t q _ N F v2 r_5 hc_6) (cwV 1 hts gX0_weightOfAll_X0_isOn rfl rfl rfl eX0_isOn ⟨Nat.le_of_ble_eq_true rfl, Nat.le_of_ble_eq_true rfl⟩) ⟨q_blind, (va_recv hK hP (ci := 0) (q0 := 0) rfl rfl), (q_pre hP hK hZ hD hA hS [0, 1, 2, 3, 4, 5, 6] rfl (by decide))⟩ rfl rfl hl.1 rfl (lv_room (Nat.le_of_ble_eq_true rfl)) dX0_weightOfAll_14 ⟨Nat.zero_le _, Nat.zero_le _⟩) hP hD hA hS [0, 1, 2, 3, 4, 5, 6] rfl (by decide) rfl (fun H locs hP hD hS => ?_)
        have hP : va_P D vwCl (wI y q F) H := hP
        have hD : va_D A (wI y q F) := hD
        refine lv_if_eq (tgt := 28) hx hb dX0_weightOfAll_17 (by decide) (fun c_7 => ?_) (fun c_7 => ?_)
        · have h := q_t c_7 h
          obtain ⟨x_8, ex_8, h⟩ := q_let_ok h
          refine lv_iinc (v := x_8) (lv' := [(2, .int x_8), (0, .ref (q 0)), (1, .int v1)]) hx hb dX0_weightOfAll_28 hl (k := 2) rfl (by rw [ex_8]; rfl) (by decide) rfl (fun ls hl => ?_)
          refine lv_goto (tgt := 4) hx hb dX0_weightOfAll_31 (by decide) ?_
          exact ih4_1 v1 x_8 K4_1 _ _ _ hP hD hS (lv_sub hl [1, 2, 0] rfl) h
        · have h := q_f c_7 h
          refine lv_iload_n hx hb dX0_weightOfAll_20 rfl (lv_at hl 1 rfl) ?_
          refine lv_aload_n hx hb dX0_weightOfAll_21 rfl (lv_at hl 0 rfl) ?_
          refine lv_iload_n hx hb dX0_weightOfAll_22 rfl (lv_at hl 2 rfl) ?_
          obtain ⟨r_9, hc_10, h⟩ := q_bd_ok h
          refine q_ci (r := r_9) (va_runV (As := [.int v2]) (rest := [.int v1]) ⟨hx, hb, hml, hown, hts⟩ (c_X0_weightOf l D y t q _ N F v2 r_9 hc_10) (cwV 1 hts gX0_weightOfAll_X0_weightOf rfl rfl rfl eX0_weightOf ⟨Nat.le_of_ble_eq_true rfl, Nat.le_of_ble_eq_true rfl⟩) ⟨q_blind, (va_recv hK hP (ci := 0) (q0 := 0) rfl rfl), (q_pre hP hK hZ hD hA hS [0, 1, 2, 3, 4, 5, 6] rfl (by decide))⟩ rfl rfl hl.1 rfl (lv_room (Nat.le_of_ble_eq_true rfl)) dX0_weightOfAll_23 ⟨Nat.zero_le _, Nat.zero_le _⟩) hP hD hA hS [0, 1, 2, 3, 4, 5, 6] rfl (by decide) rfl (fun H locs hP hD hS => ?_)
          have hP : va_P D vwCl (wI y q F) H := hP
          have hD : va_D A (wI y q F) := hD
          refine lv_iadd hx hb dX0_weightOfAll_26 ?_
          refine lv_topi (fun x_11 ex_11 => ?_)
          have h := q_let_at ex_11 h
          refine lv_istore_n (lv' := [(1, .int x_11), (0, .ref (q 0)), (2, .int v2)]) hx hb dX0_weightOfAll_27 rfl hl (by decide) rfl (fun ls hl => ?_)
          obtain ⟨x_12, ex_12, h⟩ := q_let_ok h
          refine lv_iinc (v := x_12) (lv' := [(2, .int x_12), (1, .int x_11), (0, .ref (q 0))]) hx hb dX0_weightOfAll_28 hl (k := 2) rfl (by rw [ex_12]; rfl) (by decide) rfl (fun ls hl => ?_)
          refine lv_goto (tgt := 4) hx hb dX0_weightOfAll_31 (by decide) ?_
          exact ih4_1 x_11 x_12 K4_1 _ _ _ hP hD hS (lv_sub hl [2, 1, 0] rfl) h
  exact L4_1 F N (0 : Int32) (0 : Int32) K4_1 _ _ _ hP hD hS (lv_sub hl [2, 1, 0] rfl) hL1
theorem eX0_weightOfAll : yX0_weightOfAll.cls = RX0 ∧ yX0_weightOfAll.cls ≠ "java/lang/invoke/MethodHandle" ∧ yX0_weightOfAll.cls ≠ "java/lang/invoke/VarHandle" ∧ (parseMethodDescriptor yX0_weightOfAll.desc).map (fun d => d.parameters.length) = some 0 := by decide +kernel
theorem kX0_bears_0 : Cond.methodLink RX0 60 Lib.Math.max.name ∈ wsX0_bears := List.mem_of_getElem? (i := 2) (by decide +kernel)
theorem kX0_bears_1 : Cond.static Lib.Math.max.name ∈ wsX0_bears := List.mem_of_getElem? (i := 3) (by decide +kernel)
theorem kX0_bears_2 : Cond.initialized "java/lang/Math" ∈ wsX0_bears := List.mem_of_getElem? (i := 4) (by decide +kernel)
theorem kX0_bears_3 : Cond.code Lib.Math.max.name Lib.Math.max.code 2 (some .int) ∈ wsX0_bears := List.mem_of_getElem? (i := 5) (by decide +kernel)
theorem uX0_bears_X0 : ∀ w ∈ u_ws RX0 TX0 13, w ∈ wsX0_bears := by decide +kernel
theorem kX0_bears_5 : Cond.fieldLink RX0 21 "BeamSeats$Island" "thick" "I" ∈ wsX0_bears := List.mem_of_getElem? (i := 1) (by decide +kernel)
def f_X0_bears (N : Nat) (F : Nat → Nat → Int32) (p1 : Int32) : Option (Int32) :=
  q_let (if (0 : Int32) < ((F 0 3) - ((2 : Int32) * p1)) then ((F 0 3) - ((2 : Int32) * p1)) else (0 : Int32)) (fun x_1 =>
  some x_1)
set_option maxHeartbeats 4000000 in
set_option maxRecDepth 100000 in
theorem c_X0_bears (l : Launch) (D : va_G) (y : Nat → ClassId) (t : Nat → Nat) (q : Nat → Nat) (sz N : Nat) (F : Nat → Nat → Int32) (p1 : Int32) (res : Int32) (h : f_X0_bears N F p1 = some res) : Met l yX0_bears wsX0_bears ({ frames := 1, cells := 0, slots := 0, locals := 21 } : Room) (pPre D y t [.ref (q 0), .int p1] (wI y q F) sz) (pQi D y res (wI y q F) (va_A (wI y q F) sz)) 0 0 (va_A (wI y q F) sz) := by
  refine q_start (Qc := (fun A => pQi D y res (wI y q F) A)) (cc := cX0_bears) (maxL := 2) (ret := (some .int)) (by decide) rfl (Nat.le_of_ble_eq_true rfl) ?_
  intro p e s m below meth c A ls hx hb hr hts hown hlocks hmn hml hP hK hZ hD hA hS hl
  have hl : lv_has ls 2 [(0, .ref (q 0)), (1, .int p1)] := hl
  have hown : s.vm.findClass RX0 = some m.cls := hown
  unfold f_X0_bears at h
  refine lv_iconst (v := 0) hx hb dX0_bears_0 (by decide) ?_
  refine lv_aload_n hx hb dX0_bears_1 rfl (lv_at hl 0 rfl) ?_
  refine va_get (D := D) (ci := 0) (v := .int (F 0 3)) (C := RX0) (T := TX0) (N := 13) hx hb hts uX0_bears_X0 hown hK hP 0 rfl rfl 3 (by decide) (hts _ kX0_bears_5) (fun _ h9 => h9) rfl dX0_bears_2 ?_
  refine lv_iconst (v := 2) hx hb dX0_bears_5 (by decide) ?_
  refine lv_iload_n hx hb dX0_bears_6 rfl (lv_at hl 1 rfl) ?_
  refine lv_imul hx hb dX0_bears_7 ?_
  refine lv_isub hx hb dX0_bears_8 ?_
  refine va_mmax hx hb (hml.trans hl.1.symm) hown (hts _ kX0_bears_0) (hts _ kX0_bears_1) (hts _ kX0_bears_2) (hts _ kX0_bears_3) (Nat.le_of_ble_eq_true rfl) (Nat.le_of_ble_eq_true rfl) (Nat.zero_le _) (Nat.zero_le _) dX0_bears_9 ?_
  refine lv_topi (fun x_1 ex_1 => ?_)
  have h := q_let_at ex_1 h
  have e9 := Option.some.inj h
  exact q_iret hx hb hr hlocks hK hP hD hS dX0_bears_12 (by first | rw [← e9] | rfl) (by first | rw [← e9] | rfl)
theorem eX0_bears : yX0_bears.cls = RX0 ∧ yX0_bears.cls ≠ "java/lang/invoke/MethodHandle" ∧ yX0_bears.cls ≠ "java/lang/invoke/VarHandle" ∧ (parseMethodDescriptor yX0_bears.desc).map (fun d => d.parameters.length) = some 1 := by decide +kernel
theorem uX0_isBorne_X0 : ∀ w ∈ u_ws RX0 TX0 13, w ∈ wsX0_isBorne := by decide +kernel
theorem kX0_isBorne_1 : Cond.fieldLink RX0 40 "BeamSeats$Island" "outs" "[I" ∈ wsX0_isBorne := List.mem_of_getElem? (i := 1) (by decide +kernel)
def f_X0_isBorne (N : Nat) (F : Nat → Nat → Int32) (p1 : Int32) : Option (Int32) :=
  q_grd p1 8 (
  q_bd (f_X0_weightAt N F (F 3 p1.toNatClampNeg)) (fun r_2 =>
  q_bd (f_X0_weightOf N F p1) (fun r_4 =>
  q_grd p1 8 (
  q_bd (f_X0_bears N F (F 3 p1.toNatClampNeg)) (fun r_7 =>
  if r_7 < (r_2 + r_4) then
    some (0 : Int32)
  else
    some (1 : Int32))))))
set_option maxHeartbeats 4000000 in
set_option maxRecDepth 100000 in
theorem c_X0_isBorne (l : Launch) (D : va_G) (y : Nat → ClassId) (t : Nat → Nat) (q : Nat → Nat) (sz N : Nat) (F : Nat → Nat → Int32) (p1 : Int32) (res : Int32) (h : f_X0_isBorne N F p1 = some res) : Met l yX0_isBorne wsX0_isBorne ({ frames := 2, cells := 0, slots := 0, locals := 45 } : Room) (pPre D y t [.ref (q 0), .int p1] (wI y q F) sz) (pQi D y res (wI y q F) (va_A (wI y q F) sz)) 0 0 (va_A (wI y q F) sz) := by
  refine q_start (Qc := (fun A => pQi D y res (wI y q F) A)) (cc := cX0_isBorne) (maxL := 2) (ret := (some .boolean)) (by decide) rfl (Nat.le_of_ble_eq_true rfl) ?_
  intro p e s m below meth c A ls hx hb hr hts hown hlocks hmn hml hP hK hZ hD hA hS hl
  have hl : lv_has ls 2 [(0, .ref (q 0)), (1, .int p1)] := hl
  have hown : s.vm.findClass RX0 = some m.cls := hown
  unfold f_X0_isBorne at h
  refine lv_aload_n hx hb dX0_isBorne_0 rfl (lv_at hl 0 rfl) ?_
  refine lv_aload_n hx hb dX0_isBorne_1 rfl (lv_at hl 0 rfl) ?_
  refine va_get (D := D) (ci := 0) (v := .ref (q 3)) (C := RX0) (T := TX0) (N := 13) hx hb hts uX0_isBorne_X0 hown hK hP 0 rfl rfl 9 (by decide) (hts _ kX0_isBorne_1) (fun _ h9 => h9) rfl dX0_isBorne_2 ?_
  refine lv_iload_n hx hb dX0_isBorne_5 rfl (lv_at hl 1 rfl) ?_
  obtain ⟨z_1, h⟩ := q_grd_ok h
  refine va_iald hx hb hK hP 3 0 rfl rfl z_1 dX0_isBorne_6 ?_
  obtain ⟨r_2, hc_3, h⟩ := q_bd_ok h
  refine q_ci (r := r_2) (va_runV (As := [.int (F 3 p1.toNatClampNeg)]) (rest := []) ⟨hx, hb, hml, hown, hts⟩ (c_X0_weightAt l D y t q _ N F (F 3 p1.toNatClampNeg) r_2 hc_3) (cwV 1 hts gX0_isBorne_X0_weightAt rfl rfl rfl eX0_weightAt ⟨Nat.le_of_ble_eq_true rfl, Nat.le_of_ble_eq_true rfl⟩) ⟨q_blind, (va_recv hK hP (ci := 0) (q0 := 0) rfl rfl), (q_pre hP hK hZ hD hA hS [0, 1, 2, 3, 4, 5, 6] rfl (by decide))⟩ rfl rfl hl.1 rfl (lv_room (Nat.le_of_ble_eq_true rfl)) dX0_isBorne_7 ⟨Nat.zero_le _, Nat.zero_le _⟩) hP hD hA hS [0, 1, 2, 3, 4, 5, 6] rfl (by decide) rfl (fun H locs hP hD hS => ?_)
  have hP : va_P D vwCl (wI y q F) H := hP
  have hD : va_D A (wI y q F) := hD
  refine lv_aload_n hx hb dX0_isBorne_10 rfl (lv_at hl 0 rfl) ?_
  refine lv_iload_n hx hb dX0_isBorne_11 rfl (lv_at hl 1 rfl) ?_
  obtain ⟨r_4, hc_5, h⟩ := q_bd_ok h
  refine q_ci (r := r_4) (va_runV (As := [.int p1]) (rest := [.int r_2]) ⟨hx, hb, hml, hown, hts⟩ (c_X0_weightOf l D y t q _ N F p1 r_4 hc_5) (cwV 1 hts gX0_isBorne_X0_weightOf rfl rfl rfl eX0_weightOf ⟨Nat.le_of_ble_eq_true rfl, Nat.le_of_ble_eq_true rfl⟩) ⟨q_blind, (va_recv hK hP (ci := 0) (q0 := 0) rfl rfl), (q_pre hP hK hZ hD hA hS [0, 1, 2, 3, 4, 5, 6] rfl (by decide))⟩ rfl rfl hl.1 rfl (lv_room (Nat.le_of_ble_eq_true rfl)) dX0_isBorne_12 ⟨Nat.zero_le _, Nat.zero_le _⟩) hP hD hA hS [0, 1, 2, 3, 4, 5, 6] rfl (by decide) rfl (fun H locs hP hD hS => ?_)
  have hP : va_P D vwCl (wI y q F) H := hP
  have hD : va_D A (wI y q F) := hD
  refine lv_iadd hx hb dX0_isBorne_15 ?_
  refine lv_aload_n hx hb dX0_isBorne_16 rfl (lv_at hl 0 rfl) ?_
  refine lv_aload_n hx hb dX0_isBorne_17 rfl (lv_at hl 0 rfl) ?_
  refine va_get (D := D) (ci := 0) (v := .ref (q 3)) (C := RX0) (T := TX0) (N := 13) hx hb hts uX0_isBorne_X0 hown hK hP 0 rfl rfl 9 (by decide) (hts _ kX0_isBorne_1) (fun _ h9 => h9) rfl dX0_isBorne_18 ?_
  refine lv_iload_n hx hb dX0_isBorne_21 rfl (lv_at hl 1 rfl) ?_
  obtain ⟨z_6, h⟩ := q_grd_ok h
  refine va_iald hx hb hK hP 3 0 rfl rfl z_6 dX0_isBorne_22 ?_
  obtain ⟨r_7, hc_8, h⟩ := q_bd_ok h
  refine q_ci (r := r_7) (va_runV (As := [.int (F 3 p1.toNatClampNeg)]) (rest := [.int (r_2 + r_4)]) ⟨hx, hb, hml, hown, hts⟩ (c_X0_bears l D y t q _ N F (F 3 p1.toNatClampNeg) r_7 hc_8) (cwV 1 hts gX0_isBorne_X0_bears rfl rfl rfl eX0_bears ⟨Nat.le_of_ble_eq_true rfl, Nat.le_of_ble_eq_true rfl⟩) ⟨q_blind, (va_recv hK hP (ci := 0) (q0 := 0) rfl rfl), (q_pre hP hK hZ hD hA hS [0, 1, 2, 3, 4, 5, 6] rfl (by decide))⟩ rfl rfl hl.1 rfl (lv_room (Nat.le_of_ble_eq_true rfl)) dX0_isBorne_23 ⟨Nat.zero_le _, Nat.zero_le _⟩) hP hD hA hS [0, 1, 2, 3, 4, 5, 6] rfl (by decide) rfl (fun H locs hP hD hS => ?_)
  have hP : va_P D vwCl (wI y q F) H := hP
  have hD : va_D A (wI y q F) := hD
  refine lv_icmp_gt (tgt := 33) hx hb dX0_isBorne_26 (by decide) (fun c_9 => ?_) (fun c_9 => ?_)
  · have h := q_t c_9 h
    refine lv_iconst (v := 0) hx hb dX0_isBorne_33 (by decide) ?_
    have e9 := Option.some.inj h
    exact q_zret hx hb hr hlocks hK hP hD hS dX0_isBorne_34 rfl (by first | rw [← e9] | rfl) (by first | rw [← e9] | rfl)
  · have h := q_f c_9 h
    refine lv_iconst (v := 1) hx hb dX0_isBorne_29 (by decide) ?_
    refine lv_goto (tgt := 34) hx hb dX0_isBorne_30 (by decide) ?_
    have e9 := Option.some.inj h
    exact q_zret hx hb hr hlocks hK hP hD hS dX0_isBorne_34 rfl (by first | rw [← e9] | rfl) (by first | rw [← e9] | rfl)
theorem eX0_isBorne : yX0_isBorne.cls = RX0 ∧ yX0_isBorne.cls ≠ "java/lang/invoke/MethodHandle" ∧ yX0_isBorne.cls ≠ "java/lang/invoke/VarHandle" ∧ (parseMethodDescriptor yX0_isBorne.desc).map (fun d => d.parameters.length) = some 1 := by decide +kernel
theorem uX0_getsOn_X0 : ∀ w ∈ u_ws RX0 TX0 13, w ∈ wsX0_getsOn := by decide +kernel
theorem kX0_getsOn_1 : Cond.fieldLink RX0 43 "BeamSeats$Island" "wets" "[I" ∈ wsX0_getsOn := List.mem_of_getElem? (i := 2) (by decide +kernel)
theorem kX0_getsOn_2 : Cond.fieldLink RX0 46 "BeamSeats$Island" "goals" "[I" ∈ wsX0_getsOn := List.mem_of_getElem? (i := 4) (by decide +kernel)
theorem kX0_getsOn_3 : Cond.fieldLink RX0 37 "BeamSeats$Island" "places" "[I" ∈ wsX0_getsOn := List.mem_of_getElem? (i := 3) (by decide +kernel)
theorem kX0_getsOn_4 : Cond.fieldLink RX0 27 "BeamSeats$Island" "onSet" "I" ∈ wsX0_getsOn := List.mem_of_getElem? (i := 5) (by decide +kernel)
theorem kX0_getsOn_5 : Cond.fieldLink RX0 18 "BeamSeats$Island" "speed" "I" ∈ wsX0_getsOn := List.mem_of_getElem? (i := 6) (by decide +kernel)
theorem kX0_getsOn_6 : Cond.fieldLink RX0 33 "BeamSeats$Island" "kinds" "[I" ∈ wsX0_getsOn := List.mem_of_getElem? (i := 1) (by decide +kernel)
def f_X0_getsOn (N : Nat) (F : Nat → Nat → Int32) (p1 : Int32) : Option (Int32) :=
  q_grd p1 8 (
  q_let (F 1 p1.toNatClampNeg) (fun x_2 =>
  if x_2 = 1 then
    q_grd p1 8 (
    if (F 4 p1.toNatClampNeg) ≤ 0 then
      some (0 : Int32)
    else
      some (1 : Int32))
  else
    if x_2 = 2 then
      q_grd p1 8 (
      q_grd p1 8 (
      if (F 2 p1.toNatClampNeg) = (F 5 p1.toNatClampNeg) then
        some (0 : Int32)
      else
        some (1 : Int32)))
    else
      if x_2 = 3 then
        q_bd (f_J6_bitCount_0f7a4 N (F 0 5)) (fun r_11 =>
        if (3 : Int32) ≤ r_11 then
          some (0 : Int32)
        else
          some (1 : Int32))
      else
        if x_2 = 4 then
          q_grd p1 8 (
          if (F 4 p1.toNatClampNeg) ≤ 0 then
            some (0 : Int32)
          else
            if (5 : Int32) < (F 0 2) then
              some (0 : Int32)
            else
              some (1 : Int32))
        else
          if x_2 = 5 then
            q_grd p1 8 (
            q_grd p1 8 (
            if (F 2 p1.toNatClampNeg) = (F 5 p1.toNatClampNeg) then
              some (0 : Int32)
            else
              if (F 0 5) = 0 then
                some (0 : Int32)
              else
                some (1 : Int32)))
          else
            some (0 : Int32)))
set_option maxHeartbeats 4000000 in
set_option maxRecDepth 100000 in
theorem c_X0_getsOn (l : Launch) (D : va_G) (y : Nat → ClassId) (t : Nat → Nat) (q : Nat → Nat) (sz N : Nat) (F : Nat → Nat → Int32) (p1 : Int32) (res : Int32) (h : f_X0_getsOn N F p1 = some res) : Met l yX0_getsOn wsX0_getsOn ({ frames := 1, cells := 0, slots := 0, locals := 20 } : Room) (pPre D y t [.ref (q 0), .int p1] (wI y q F) sz) (pQi D y res (wI y q F) (va_A (wI y q F) sz)) 0 0 (va_A (wI y q F) sz) := by
  refine q_start (Qc := (fun A => pQi D y res (wI y q F) A)) (cc := cX0_getsOn) (maxL := 2) (ret := (some .boolean)) (by decide) rfl (Nat.le_of_ble_eq_true rfl) ?_
  intro p e s m below meth c A ls hx hb hr hts hown hlocks hmn hml hP hK hZ hD hA hS hl
  have hl : lv_has ls 2 [(0, .ref (q 0)), (1, .int p1)] := hl
  have hown : s.vm.findClass RX0 = some m.cls := hown
  unfold f_X0_getsOn at h
  refine lv_aload_n hx hb dX0_getsOn_0 rfl (lv_at hl 0 rfl) ?_
  refine va_get (D := D) (ci := 0) (v := .ref (q 1)) (C := RX0) (T := TX0) (N := 13) hx hb hts uX0_getsOn_X0 hown hK hP 0 rfl rfl 7 (by decide) (hts _ kX0_getsOn_6) (fun _ h9 => h9) rfl dX0_getsOn_1 ?_
  refine lv_iload_n hx hb dX0_getsOn_4 rfl (lv_at hl 1 rfl) ?_
  obtain ⟨z_1, h⟩ := q_grd_ok h
  refine va_iald hx hb hK hP 1 0 rfl rfl z_1 dX0_getsOn_5 ?_
  refine lv_topi (fun x_2 ex_2 => ?_)
  have h := q_let_at ex_2 h
  by_cases c_3 : x_2 = 1
  · have h := q_t c_3 h
    refine lv_tableIn (tgt := 40) (off := 34) hx hb dX0_getsOn_6 (by rw [c_3]; decide) (by rw [c_3]; decide) (by rw [c_3]; rfl) (by decide) ?_
    refine lv_aload_n hx hb dX0_getsOn_40 rfl (lv_at hl 0 rfl) ?_
    refine va_get (D := D) (ci := 0) (v := .ref (q 4)) (C := RX0) (T := TX0) (N := 13) hx hb hts uX0_getsOn_X0 hown hK hP 0 rfl rfl 10 (by decide) (hts _ kX0_getsOn_1) (fun _ h9 => h9) rfl dX0_getsOn_41 ?_
    refine lv_iload_n hx hb dX0_getsOn_44 rfl (lv_at hl 1 rfl) ?_
    obtain ⟨z_4, h⟩ := q_grd_ok h
    refine va_iald hx hb hK hP 4 0 rfl rfl z_4 dX0_getsOn_45 ?_
    refine lv_if_le (tgt := 53) hx hb dX0_getsOn_46 (by decide) (fun c_5 => ?_) (fun c_5 => ?_)
    · have h := q_t c_5 h
      refine lv_iconst (v := 0) hx hb dX0_getsOn_53 (by decide) ?_
      have e9 := Option.some.inj h
      exact q_zret hx hb hr hlocks hK hP hD hS dX0_getsOn_54 rfl (by first | rw [← e9] | rfl) (by first | rw [← e9] | rfl)
    · have h := q_f c_5 h
      refine lv_iconst (v := 1) hx hb dX0_getsOn_49 (by decide) ?_
      refine lv_goto (tgt := 54) hx hb dX0_getsOn_50 (by decide) ?_
      have e9 := Option.some.inj h
      exact q_zret hx hb hr hlocks hK hP hD hS dX0_getsOn_54 rfl (by first | rw [← e9] | rfl) (by first | rw [← e9] | rfl)
  · have h := q_f c_3 h
    by_cases c_6 : x_2 = 2
    · have h := q_t c_6 h
      refine lv_tableIn (tgt := 55) (off := 49) hx hb dX0_getsOn_6 (by rw [c_6]; decide) (by rw [c_6]; decide) (by rw [c_6]; rfl) (by decide) ?_
      refine lv_aload_n hx hb dX0_getsOn_55 rfl (lv_at hl 0 rfl) ?_
      refine va_get (D := D) (ci := 0) (v := .ref (q 2)) (C := RX0) (T := TX0) (N := 13) hx hb hts uX0_getsOn_X0 hown hK hP 0 rfl rfl 8 (by decide) (hts _ kX0_getsOn_3) (fun _ h9 => h9) rfl dX0_getsOn_56 ?_
      refine lv_iload_n hx hb dX0_getsOn_59 rfl (lv_at hl 1 rfl) ?_
      obtain ⟨z_7, h⟩ := q_grd_ok h
      refine va_iald hx hb hK hP 2 0 rfl rfl z_7 dX0_getsOn_60 ?_
      refine lv_aload_n hx hb dX0_getsOn_61 rfl (lv_at hl 0 rfl) ?_
      refine va_get (D := D) (ci := 0) (v := .ref (q 5)) (C := RX0) (T := TX0) (N := 13) hx hb hts uX0_getsOn_X0 hown hK hP 0 rfl rfl 11 (by decide) (hts _ kX0_getsOn_2) (fun _ h9 => h9) rfl dX0_getsOn_62 ?_
      refine lv_iload_n hx hb dX0_getsOn_65 rfl (lv_at hl 1 rfl) ?_
      obtain ⟨z_8, h⟩ := q_grd_ok h
      refine va_iald hx hb hK hP 5 0 rfl rfl z_8 dX0_getsOn_66 ?_
      refine lv_icmp_eq (tgt := 74) hx hb dX0_getsOn_67 (by decide) (fun c_9 => ?_) (fun c_9 => ?_)
      · have h := q_t c_9 h
        refine lv_iconst (v := 0) hx hb dX0_getsOn_74 (by decide) ?_
        have e9 := Option.some.inj h
        exact q_zret hx hb hr hlocks hK hP hD hS dX0_getsOn_75 rfl (by first | rw [← e9] | rfl) (by first | rw [← e9] | rfl)
      · have h := q_f c_9 h
        refine lv_iconst (v := 1) hx hb dX0_getsOn_70 (by decide) ?_
        refine lv_goto (tgt := 75) hx hb dX0_getsOn_71 (by decide) ?_
        have e9 := Option.some.inj h
        exact q_zret hx hb hr hlocks hK hP hD hS dX0_getsOn_75 rfl (by first | rw [← e9] | rfl) (by first | rw [← e9] | rfl)
    · have h := q_f c_6 h
      by_cases c_10 : x_2 = 3
      · have h := q_t c_10 h
        refine lv_tableIn (tgt := 76) (off := 70) hx hb dX0_getsOn_6 (by rw [c_10]; decide) (by rw [c_10]; decide) (by rw [c_10]; rfl) (by decide) ?_
        refine lv_aload_n hx hb dX0_getsOn_76 rfl (lv_at hl 0 rfl) ?_
        refine va_get (D := D) (ci := 0) (v := .int (F 0 5)) (C := RX0) (T := TX0) (N := 13) hx hb hts uX0_getsOn_X0 hown hK hP 0 rfl rfl 5 (by decide) (hts _ kX0_getsOn_4) (fun _ h9 => h9) rfl dX0_getsOn_77 ?_
        obtain ⟨r_11, hc_12, h⟩ := q_bd_ok h
        refine q_ci (r := r_11) (va_runS (As := [.int (F 0 5)]) (rest := []) ⟨hx, hb, hml, hown, hts⟩ (c_J6_bitCount_0f7a4 l D y t q _ N (F 0 5) r_11 hc_12) (va_cwS 1 hts gX0_getsOn_J6_bitCount_0f7a4 rfl rfl rfl eJ6_bitCount_0f7a4 ⟨Nat.le_of_ble_eq_true rfl, Nat.le_of_ble_eq_true rfl⟩) ⟨q_blind, (q_pre hP hK hZ hD hA hS [] rfl (by decide))⟩ rfl rfl hl.1 rfl (lv_room (Nat.le_of_ble_eq_true rfl)) dX0_getsOn_80 ⟨Nat.zero_le _, Nat.zero_le _⟩) hP hD hA hS [] rfl (by decide) rfl (fun H locs hP hD hS => ?_)
        have hP : va_P D vwCl (wI y q F) H := hP
        have hD : va_D A (wI y q F) := hD
        refine lv_iconst (v := 3) hx hb dX0_getsOn_83 (by decide) ?_
        refine lv_icmp_ge (tgt := 91) hx hb dX0_getsOn_84 (by decide) (fun c_13 => ?_) (fun c_13 => ?_)
        · have h := q_t c_13 h
          refine lv_iconst (v := 0) hx hb dX0_getsOn_91 (by decide) ?_
          have e9 := Option.some.inj h
          exact q_zret hx hb hr hlocks hK hP hD hS dX0_getsOn_92 rfl (by first | rw [← e9] | rfl) (by first | rw [← e9] | rfl)
        · have h := q_f c_13 h
          refine lv_iconst (v := 1) hx hb dX0_getsOn_87 (by decide) ?_
          refine lv_goto (tgt := 92) hx hb dX0_getsOn_88 (by decide) ?_
          have e9 := Option.some.inj h
          exact q_zret hx hb hr hlocks hK hP hD hS dX0_getsOn_92 rfl (by first | rw [← e9] | rfl) (by first | rw [← e9] | rfl)
      · have h := q_f c_10 h
        by_cases c_14 : x_2 = 4
        · have h := q_t c_14 h
          refine lv_tableIn (tgt := 93) (off := 87) hx hb dX0_getsOn_6 (by rw [c_14]; decide) (by rw [c_14]; decide) (by rw [c_14]; rfl) (by decide) ?_
          refine lv_aload_n hx hb dX0_getsOn_93 rfl (lv_at hl 0 rfl) ?_
          refine va_get (D := D) (ci := 0) (v := .ref (q 4)) (C := RX0) (T := TX0) (N := 13) hx hb hts uX0_getsOn_X0 hown hK hP 0 rfl rfl 10 (by decide) (hts _ kX0_getsOn_1) (fun _ h9 => h9) rfl dX0_getsOn_94 ?_
          refine lv_iload_n hx hb dX0_getsOn_97 rfl (lv_at hl 1 rfl) ?_
          obtain ⟨z_15, h⟩ := q_grd_ok h
          refine va_iald hx hb hK hP 4 0 rfl rfl z_15 dX0_getsOn_98 ?_
          refine lv_if_le (tgt := 114) hx hb dX0_getsOn_99 (by decide) (fun c_16 => ?_) (fun c_16 => ?_)
          · have h := q_t c_16 h
            refine lv_iconst (v := 0) hx hb dX0_getsOn_114 (by decide) ?_
            have e9 := Option.some.inj h
            exact q_zret hx hb hr hlocks hK hP hD hS dX0_getsOn_115 rfl (by first | rw [← e9] | rfl) (by first | rw [← e9] | rfl)
          · have h := q_f c_16 h
            refine lv_aload_n hx hb dX0_getsOn_102 rfl (lv_at hl 0 rfl) ?_
            refine va_get (D := D) (ci := 0) (v := .int (F 0 2)) (C := RX0) (T := TX0) (N := 13) hx hb hts uX0_getsOn_X0 hown hK hP 0 rfl rfl 2 (by decide) (hts _ kX0_getsOn_5) (fun _ h9 => h9) rfl dX0_getsOn_103 ?_
            refine lv_iconst (v := 5) hx hb dX0_getsOn_106 (by decide) ?_
            refine lv_icmp_gt (tgt := 114) hx hb dX0_getsOn_107 (by decide) (fun c_17 => ?_) (fun c_17 => ?_)
            · have h := q_t c_17 h
              refine lv_iconst (v := 0) hx hb dX0_getsOn_114 (by decide) ?_
              have e9 := Option.some.inj h
              exact q_zret hx hb hr hlocks hK hP hD hS dX0_getsOn_115 rfl (by first | rw [← e9] | rfl) (by first | rw [← e9] | rfl)
            · have h := q_f c_17 h
              refine lv_iconst (v := 1) hx hb dX0_getsOn_110 (by decide) ?_
              refine lv_goto (tgt := 115) hx hb dX0_getsOn_111 (by decide) ?_
              have e9 := Option.some.inj h
              exact q_zret hx hb hr hlocks hK hP hD hS dX0_getsOn_115 rfl (by first | rw [← e9] | rfl) (by first | rw [← e9] | rfl)
        · have h := q_f c_14 h
          by_cases c_18 : x_2 = 5
          · have h := q_t c_18 h
            refine lv_tableIn (tgt := 116) (off := 110) hx hb dX0_getsOn_6 (by rw [c_18]; decide) (by rw [c_18]; decide) (by rw [c_18]; rfl) (by decide) ?_
            refine lv_aload_n hx hb dX0_getsOn_116 rfl (lv_at hl 0 rfl) ?_
            refine va_get (D := D) (ci := 0) (v := .ref (q 2)) (C := RX0) (T := TX0) (N := 13) hx hb hts uX0_getsOn_X0 hown hK hP 0 rfl rfl 8 (by decide) (hts _ kX0_getsOn_3) (fun _ h9 => h9) rfl dX0_getsOn_117 ?_
            refine lv_iload_n hx hb dX0_getsOn_120 rfl (lv_at hl 1 rfl) ?_
            obtain ⟨z_19, h⟩ := q_grd_ok h
            refine va_iald hx hb hK hP 2 0 rfl rfl z_19 dX0_getsOn_121 ?_
            refine lv_aload_n hx hb dX0_getsOn_122 rfl (lv_at hl 0 rfl) ?_
            refine va_get (D := D) (ci := 0) (v := .ref (q 5)) (C := RX0) (T := TX0) (N := 13) hx hb hts uX0_getsOn_X0 hown hK hP 0 rfl rfl 11 (by decide) (hts _ kX0_getsOn_2) (fun _ h9 => h9) rfl dX0_getsOn_123 ?_
            refine lv_iload_n hx hb dX0_getsOn_126 rfl (lv_at hl 1 rfl) ?_
            obtain ⟨z_20, h⟩ := q_grd_ok h
            refine va_iald hx hb hK hP 5 0 rfl rfl z_20 dX0_getsOn_127 ?_
            refine lv_icmp_eq (tgt := 142) hx hb dX0_getsOn_128 (by decide) (fun c_21 => ?_) (fun c_21 => ?_)
            · have h := q_t c_21 h
              refine lv_iconst (v := 0) hx hb dX0_getsOn_142 (by decide) ?_
              have e9 := Option.some.inj h
              exact q_zret hx hb hr hlocks hK hP hD hS dX0_getsOn_143 rfl (by first | rw [← e9] | rfl) (by first | rw [← e9] | rfl)
            · have h := q_f c_21 h
              refine lv_aload_n hx hb dX0_getsOn_131 rfl (lv_at hl 0 rfl) ?_
              refine va_get (D := D) (ci := 0) (v := .int (F 0 5)) (C := RX0) (T := TX0) (N := 13) hx hb hts uX0_getsOn_X0 hown hK hP 0 rfl rfl 5 (by decide) (hts _ kX0_getsOn_4) (fun _ h9 => h9) rfl dX0_getsOn_132 ?_
              refine lv_if_eq (tgt := 142) hx hb dX0_getsOn_135 (by decide) (fun c_22 => ?_) (fun c_22 => ?_)
              · have h := q_t c_22 h
                refine lv_iconst (v := 0) hx hb dX0_getsOn_142 (by decide) ?_
                have e9 := Option.some.inj h
                exact q_zret hx hb hr hlocks hK hP hD hS dX0_getsOn_143 rfl (by first | rw [← e9] | rfl) (by first | rw [← e9] | rfl)
              · have h := q_f c_22 h
                refine lv_iconst (v := 1) hx hb dX0_getsOn_138 (by decide) ?_
                refine lv_goto (tgt := 143) hx hb dX0_getsOn_139 (by decide) ?_
                have e9 := Option.some.inj h
                exact q_zret hx hb hr hlocks hK hP hD hS dX0_getsOn_143 rfl (by first | rw [← e9] | rfl) (by first | rw [← e9] | rfl)
          · have h := q_f c_18 h
            have nc_3 := lv_neT c_3 (show ((1 : Int32)).toInt = 1 from by decide)
            have nc_6 := lv_neT c_6 (show ((2 : Int32)).toInt = 2 from by decide)
            have nc_10 := lv_neT c_10 (show ((3 : Int32)).toInt = 3 from by decide)
            have nc_14 := lv_neT c_14 (show ((4 : Int32)).toInt = 4 from by decide)
            have nc_18 := lv_neT c_18 (show ((5 : Int32)).toInt = 5 from by decide)
            refine lv_tableOut (tgt := 144) hx hb dX0_getsOn_6 (by omega) (by decide) ?_
            refine lv_iconst (v := 0) hx hb dX0_getsOn_144 (by decide) ?_
            have e9 := Option.some.inj h
            exact q_zret hx hb hr hlocks hK hP hD hS dX0_getsOn_145 rfl (by first | rw [← e9] | rfl) (by first | rw [← e9] | rfl)
theorem eX0_getsOn : yX0_getsOn.cls = RX0 ∧ yX0_getsOn.cls ≠ "java/lang/invoke/MethodHandle" ∧ yX0_getsOn.cls ≠ "java/lang/invoke/VarHandle" ∧ (parseMethodDescriptor yX0_getsOn.desc).map (fun d => d.parameters.length) = some 1 := by decide +kernel
theorem uX0_getsOff_X0 : ∀ w ∈ u_ws RX0 TX0 13, w ∈ wsX0_getsOff := by decide +kernel
theorem kX0_getsOff_1 : Cond.fieldLink RX0 43 "BeamSeats$Island" "wets" "[I" ∈ wsX0_getsOff := List.mem_of_getElem? (i := 2) (by decide +kernel)
theorem kX0_getsOff_2 : Cond.fieldLink RX0 46 "BeamSeats$Island" "goals" "[I" ∈ wsX0_getsOff := List.mem_of_getElem? (i := 4) (by decide +kernel)
theorem kX0_getsOff_3 : Cond.fieldLink RX0 15 "BeamSeats$Island" "bearing" "I" ∈ wsX0_getsOff := List.mem_of_getElem? (i := 3) (by decide +kernel)
theorem kX0_getsOff_4 : Cond.fieldLink RX0 27 "BeamSeats$Island" "onSet" "I" ∈ wsX0_getsOff := List.mem_of_getElem? (i := 5) (by decide +kernel)
theorem kX0_getsOff_5 : Cond.fieldLink RX0 33 "BeamSeats$Island" "kinds" "[I" ∈ wsX0_getsOff := List.mem_of_getElem? (i := 1) (by decide +kernel)
def f_X0_getsOff (N : Nat) (F : Nat → Nat → Int32) (p1 : Int32) : Option (Int32) :=
  q_grd p1 8 (
  q_let (F 1 p1.toNatClampNeg) (fun x_2 =>
  if x_2 = 1 then
    q_grd p1 8 (
    if (F 4 p1.toNatClampNeg) = 0 then
      some (1 : Int32)
    else
      some (0 : Int32))
  else
    if x_2 = 2 then
      q_grd p1 8 (
      if (F 0 1) = (F 5 p1.toNatClampNeg) then
        some (1 : Int32)
      else
        some (0 : Int32))
    else
      if x_2 = 3 then
        if (F 0 1) = (38 : Int32) then
          some (1 : Int32)
        else
          if (F 0 1) = (39 : Int32) then
            some (1 : Int32)
          else
            some (0 : Int32)
      else
        if x_2 = 4 then
          q_grd p1 8 (
          if (F 4 p1.toNatClampNeg) = 0 then
            some (1 : Int32)
          else
            if (F 0 1) < (35 : Int32) then
              some (0 : Int32)
            else
              some (1 : Int32))
        else
          if x_2 = 5 then
            q_grd p1 8 (
            if (F 0 1) = (F 5 p1.toNatClampNeg) then
              some (1 : Int32)
            else
              if (F 0 5) = ((1 : Int32) <<< (p1 &&& 31)) then
                some (1 : Int32)
              else
                some (0 : Int32))
          else
            some (0 : Int32)))
set_option maxHeartbeats 4000000 in
set_option maxRecDepth 100000 in
theorem c_X0_getsOff (l : Launch) (D : va_G) (y : Nat → ClassId) (t : Nat → Nat) (q : Nat → Nat) (sz N : Nat) (F : Nat → Nat → Int32) (p1 : Int32) (res : Int32) (h : f_X0_getsOff N F p1 = some res) : Met l yX0_getsOff wsX0_getsOff ({ frames := 0, cells := 0, slots := 0, locals := 0 } : Room) (pPre D y t [.ref (q 0), .int p1] (wI y q F) sz) (pQi D y res (wI y q F) (va_A (wI y q F) sz)) 0 0 (va_A (wI y q F) sz) := by
  refine q_start (Qc := (fun A => pQi D y res (wI y q F) A)) (cc := cX0_getsOff) (maxL := 2) (ret := (some .boolean)) (by decide) rfl (Nat.le_of_ble_eq_true rfl) ?_
  intro p e s m below meth c A ls hx hb hr hts hown hlocks hmn hml hP hK hZ hD hA hS hl
  have hl : lv_has ls 2 [(0, .ref (q 0)), (1, .int p1)] := hl
  have hown : s.vm.findClass RX0 = some m.cls := hown
  unfold f_X0_getsOff at h
  refine lv_aload_n hx hb dX0_getsOff_0 rfl (lv_at hl 0 rfl) ?_
  refine va_get (D := D) (ci := 0) (v := .ref (q 1)) (C := RX0) (T := TX0) (N := 13) hx hb hts uX0_getsOff_X0 hown hK hP 0 rfl rfl 7 (by decide) (hts _ kX0_getsOff_5) (fun _ h9 => h9) rfl dX0_getsOff_1 ?_
  refine lv_iload_n hx hb dX0_getsOff_4 rfl (lv_at hl 1 rfl) ?_
  obtain ⟨z_1, h⟩ := q_grd_ok h
  refine va_iald hx hb hK hP 1 0 rfl rfl z_1 dX0_getsOff_5 ?_
  refine lv_topi (fun x_2 ex_2 => ?_)
  have h := q_let_at ex_2 h
  by_cases c_3 : x_2 = 1
  · have h := q_t c_3 h
    refine lv_tableIn (tgt := 40) (off := 34) hx hb dX0_getsOff_6 (by rw [c_3]; decide) (by rw [c_3]; decide) (by rw [c_3]; rfl) (by decide) ?_
    refine lv_aload_n hx hb dX0_getsOff_40 rfl (lv_at hl 0 rfl) ?_
    refine va_get (D := D) (ci := 0) (v := .ref (q 4)) (C := RX0) (T := TX0) (N := 13) hx hb hts uX0_getsOff_X0 hown hK hP 0 rfl rfl 10 (by decide) (hts _ kX0_getsOff_1) (fun _ h9 => h9) rfl dX0_getsOff_41 ?_
    refine lv_iload_n hx hb dX0_getsOff_44 rfl (lv_at hl 1 rfl) ?_
    obtain ⟨z_4, h⟩ := q_grd_ok h
    refine va_iald hx hb hK hP 4 0 rfl rfl z_4 dX0_getsOff_45 ?_
    refine lv_if_ne (tgt := 53) hx hb dX0_getsOff_46 (by decide) (fun c_5 => ?_) (fun c_5 => ?_)
    · have h := q_f c_5 h
      refine lv_iconst (v := 0) hx hb dX0_getsOff_53 (by decide) ?_
      have e9 := Option.some.inj h
      exact q_zret hx hb hr hlocks hK hP hD hS dX0_getsOff_54 rfl (by first | rw [← e9] | rfl) (by first | rw [← e9] | rfl)
    · have h := q_t c_5 h
      refine lv_iconst (v := 1) hx hb dX0_getsOff_49 (by decide) ?_
      refine lv_goto (tgt := 54) hx hb dX0_getsOff_50 (by decide) ?_
      have e9 := Option.some.inj h
      exact q_zret hx hb hr hlocks hK hP hD hS dX0_getsOff_54 rfl (by first | rw [← e9] | rfl) (by first | rw [← e9] | rfl)
  · have h := q_f c_3 h
    by_cases c_6 : x_2 = 2
    · have h := q_t c_6 h
      refine lv_tableIn (tgt := 55) (off := 49) hx hb dX0_getsOff_6 (by rw [c_6]; decide) (by rw [c_6]; decide) (by rw [c_6]; rfl) (by decide) ?_
      refine lv_aload_n hx hb dX0_getsOff_55 rfl (lv_at hl 0 rfl) ?_
      refine va_get (D := D) (ci := 0) (v := .int (F 0 1)) (C := RX0) (T := TX0) (N := 13) hx hb hts uX0_getsOff_X0 hown hK hP 0 rfl rfl 1 (by decide) (hts _ kX0_getsOff_3) (fun _ h9 => h9) rfl dX0_getsOff_56 ?_
      refine lv_aload_n hx hb dX0_getsOff_59 rfl (lv_at hl 0 rfl) ?_
      refine va_get (D := D) (ci := 0) (v := .ref (q 5)) (C := RX0) (T := TX0) (N := 13) hx hb hts uX0_getsOff_X0 hown hK hP 0 rfl rfl 11 (by decide) (hts _ kX0_getsOff_2) (fun _ h9 => h9) rfl dX0_getsOff_60 ?_
      refine lv_iload_n hx hb dX0_getsOff_63 rfl (lv_at hl 1 rfl) ?_
      obtain ⟨z_7, h⟩ := q_grd_ok h
      refine va_iald hx hb hK hP 5 0 rfl rfl z_7 dX0_getsOff_64 ?_
      refine lv_icmp_ne (tgt := 72) hx hb dX0_getsOff_65 (by decide) (fun c_8 => ?_) (fun c_8 => ?_)
      · have h := q_f c_8 h
        refine lv_iconst (v := 0) hx hb dX0_getsOff_72 (by decide) ?_
        have e9 := Option.some.inj h
        exact q_zret hx hb hr hlocks hK hP hD hS dX0_getsOff_73 rfl (by first | rw [← e9] | rfl) (by first | rw [← e9] | rfl)
      · have h := q_t c_8 h
        refine lv_iconst (v := 1) hx hb dX0_getsOff_68 (by decide) ?_
        refine lv_goto (tgt := 73) hx hb dX0_getsOff_69 (by decide) ?_
        have e9 := Option.some.inj h
        exact q_zret hx hb hr hlocks hK hP hD hS dX0_getsOff_73 rfl (by first | rw [← e9] | rfl) (by first | rw [← e9] | rfl)
    · have h := q_f c_6 h
      by_cases c_9 : x_2 = 3
      · have h := q_t c_9 h
        refine lv_tableIn (tgt := 74) (off := 68) hx hb dX0_getsOff_6 (by rw [c_9]; decide) (by rw [c_9]; decide) (by rw [c_9]; rfl) (by decide) ?_
        refine lv_aload_n hx hb dX0_getsOff_74 rfl (lv_at hl 0 rfl) ?_
        refine va_get (D := D) (ci := 0) (v := .int (F 0 1)) (C := RX0) (T := TX0) (N := 13) hx hb hts uX0_getsOff_X0 hown hK hP 0 rfl rfl 1 (by decide) (hts _ kX0_getsOff_3) (fun _ h9 => h9) rfl dX0_getsOff_75 ?_
        refine lv_bipush (v := 38) hx hb dX0_getsOff_78 (by decide) ?_
        refine lv_icmp_eq (tgt := 92) hx hb dX0_getsOff_80 (by decide) (fun c_10 => ?_) (fun c_10 => ?_)
        · have h := q_t c_10 h
          refine lv_iconst (v := 1) hx hb dX0_getsOff_92 (by decide) ?_
          refine lv_goto (tgt := 97) hx hb dX0_getsOff_93 (by decide) ?_
          have e9 := Option.some.inj h
          exact q_zret hx hb hr hlocks hK hP hD hS dX0_getsOff_97 rfl (by first | rw [← e9] | rfl) (by first | rw [← e9] | rfl)
        · have h := q_f c_10 h
          refine lv_aload_n hx hb dX0_getsOff_83 rfl (lv_at hl 0 rfl) ?_
          refine va_get (D := D) (ci := 0) (v := .int (F 0 1)) (C := RX0) (T := TX0) (N := 13) hx hb hts uX0_getsOff_X0 hown hK hP 0 rfl rfl 1 (by decide) (hts _ kX0_getsOff_3) (fun _ h9 => h9) rfl dX0_getsOff_84 ?_
          refine lv_bipush (v := 39) hx hb dX0_getsOff_87 (by decide) ?_
          refine lv_icmp_ne (tgt := 96) hx hb dX0_getsOff_89 (by decide) (fun c_11 => ?_) (fun c_11 => ?_)
          · have h := q_f c_11 h
            refine lv_iconst (v := 0) hx hb dX0_getsOff_96 (by decide) ?_
            have e9 := Option.some.inj h
            exact q_zret hx hb hr hlocks hK hP hD hS dX0_getsOff_97 rfl (by first | rw [← e9] | rfl) (by first | rw [← e9] | rfl)
          · have h := q_t c_11 h
            refine lv_iconst (v := 1) hx hb dX0_getsOff_92 (by decide) ?_
            refine lv_goto (tgt := 97) hx hb dX0_getsOff_93 (by decide) ?_
            have e9 := Option.some.inj h
            exact q_zret hx hb hr hlocks hK hP hD hS dX0_getsOff_97 rfl (by first | rw [← e9] | rfl) (by first | rw [← e9] | rfl)
      · have h := q_f c_9 h
        by_cases c_12 : x_2 = 4
        · have h := q_t c_12 h
          refine lv_tableIn (tgt := 98) (off := 92) hx hb dX0_getsOff_6 (by rw [c_12]; decide) (by rw [c_12]; decide) (by rw [c_12]; rfl) (by decide) ?_
          refine lv_aload_n hx hb dX0_getsOff_98 rfl (lv_at hl 0 rfl) ?_
          refine va_get (D := D) (ci := 0) (v := .ref (q 4)) (C := RX0) (T := TX0) (N := 13) hx hb hts uX0_getsOff_X0 hown hK hP 0 rfl rfl 10 (by decide) (hts _ kX0_getsOff_1) (fun _ h9 => h9) rfl dX0_getsOff_99 ?_
          refine lv_iload_n hx hb dX0_getsOff_102 rfl (lv_at hl 1 rfl) ?_
          obtain ⟨z_13, h⟩ := q_grd_ok h
          refine va_iald hx hb hK hP 4 0 rfl rfl z_13 dX0_getsOff_103 ?_
          refine lv_if_eq (tgt := 116) hx hb dX0_getsOff_104 (by decide) (fun c_14 => ?_) (fun c_14 => ?_)
          · have h := q_t c_14 h
            refine lv_iconst (v := 1) hx hb dX0_getsOff_116 (by decide) ?_
            refine lv_goto (tgt := 121) hx hb dX0_getsOff_117 (by decide) ?_
            have e9 := Option.some.inj h
            exact q_zret hx hb hr hlocks hK hP hD hS dX0_getsOff_121 rfl (by first | rw [← e9] | rfl) (by first | rw [← e9] | rfl)
          · have h := q_f c_14 h
            refine lv_aload_n hx hb dX0_getsOff_107 rfl (lv_at hl 0 rfl) ?_
            refine va_get (D := D) (ci := 0) (v := .int (F 0 1)) (C := RX0) (T := TX0) (N := 13) hx hb hts uX0_getsOff_X0 hown hK hP 0 rfl rfl 1 (by decide) (hts _ kX0_getsOff_3) (fun _ h9 => h9) rfl dX0_getsOff_108 ?_
            refine lv_bipush (v := 35) hx hb dX0_getsOff_111 (by decide) ?_
            refine lv_icmp_lt (tgt := 120) hx hb dX0_getsOff_113 (by decide) (fun c_15 => ?_) (fun c_15 => ?_)
            · have h := q_t c_15 h
              refine lv_iconst (v := 0) hx hb dX0_getsOff_120 (by decide) ?_
              have e9 := Option.some.inj h
              exact q_zret hx hb hr hlocks hK hP hD hS dX0_getsOff_121 rfl (by first | rw [← e9] | rfl) (by first | rw [← e9] | rfl)
            · have h := q_f c_15 h
              refine lv_iconst (v := 1) hx hb dX0_getsOff_116 (by decide) ?_
              refine lv_goto (tgt := 121) hx hb dX0_getsOff_117 (by decide) ?_
              have e9 := Option.some.inj h
              exact q_zret hx hb hr hlocks hK hP hD hS dX0_getsOff_121 rfl (by first | rw [← e9] | rfl) (by first | rw [← e9] | rfl)
        · have h := q_f c_12 h
          by_cases c_16 : x_2 = 5
          · have h := q_t c_16 h
            refine lv_tableIn (tgt := 122) (off := 116) hx hb dX0_getsOff_6 (by rw [c_16]; decide) (by rw [c_16]; decide) (by rw [c_16]; rfl) (by decide) ?_
            refine lv_aload_n hx hb dX0_getsOff_122 rfl (lv_at hl 0 rfl) ?_
            refine va_get (D := D) (ci := 0) (v := .int (F 0 1)) (C := RX0) (T := TX0) (N := 13) hx hb hts uX0_getsOff_X0 hown hK hP 0 rfl rfl 1 (by decide) (hts _ kX0_getsOff_3) (fun _ h9 => h9) rfl dX0_getsOff_123 ?_
            refine lv_aload_n hx hb dX0_getsOff_126 rfl (lv_at hl 0 rfl) ?_
            refine va_get (D := D) (ci := 0) (v := .ref (q 5)) (C := RX0) (T := TX0) (N := 13) hx hb hts uX0_getsOff_X0 hown hK hP 0 rfl rfl 11 (by decide) (hts _ kX0_getsOff_2) (fun _ h9 => h9) rfl dX0_getsOff_127 ?_
            refine lv_iload_n hx hb dX0_getsOff_130 rfl (lv_at hl 1 rfl) ?_
            obtain ⟨z_17, h⟩ := q_grd_ok h
            refine va_iald hx hb hK hP 5 0 rfl rfl z_17 dX0_getsOff_131 ?_
            refine lv_icmp_eq (tgt := 145) hx hb dX0_getsOff_132 (by decide) (fun c_18 => ?_) (fun c_18 => ?_)
            · have h := q_t c_18 h
              refine lv_iconst (v := 1) hx hb dX0_getsOff_145 (by decide) ?_
              refine lv_goto (tgt := 150) hx hb dX0_getsOff_146 (by decide) ?_
              have e9 := Option.some.inj h
              exact q_zret hx hb hr hlocks hK hP hD hS dX0_getsOff_150 rfl (by first | rw [← e9] | rfl) (by first | rw [← e9] | rfl)
            · have h := q_f c_18 h
              refine lv_aload_n hx hb dX0_getsOff_135 rfl (lv_at hl 0 rfl) ?_
              refine va_get (D := D) (ci := 0) (v := .int (F 0 5)) (C := RX0) (T := TX0) (N := 13) hx hb hts uX0_getsOff_X0 hown hK hP 0 rfl rfl 5 (by decide) (hts _ kX0_getsOff_4) (fun _ h9 => h9) rfl dX0_getsOff_136 ?_
              refine lv_iconst (v := 1) hx hb dX0_getsOff_139 (by decide) ?_
              refine lv_iload_n hx hb dX0_getsOff_140 rfl (lv_at hl 1 rfl) ?_
              refine lv_ishl hx hb dX0_getsOff_141 ?_
              refine lv_icmp_ne (tgt := 149) hx hb dX0_getsOff_142 (by decide) (fun c_19 => ?_) (fun c_19 => ?_)
              · have h := q_f c_19 h
                refine lv_iconst (v := 0) hx hb dX0_getsOff_149 (by decide) ?_
                have e9 := Option.some.inj h
                exact q_zret hx hb hr hlocks hK hP hD hS dX0_getsOff_150 rfl (by first | rw [← e9] | rfl) (by first | rw [← e9] | rfl)
              · have h := q_t c_19 h
                refine lv_iconst (v := 1) hx hb dX0_getsOff_145 (by decide) ?_
                refine lv_goto (tgt := 150) hx hb dX0_getsOff_146 (by decide) ?_
                have e9 := Option.some.inj h
                exact q_zret hx hb hr hlocks hK hP hD hS dX0_getsOff_150 rfl (by first | rw [← e9] | rfl) (by first | rw [← e9] | rfl)
          · have h := q_f c_16 h
            have nc_3 := lv_neT c_3 (show ((1 : Int32)).toInt = 1 from by decide)
            have nc_6 := lv_neT c_6 (show ((2 : Int32)).toInt = 2 from by decide)
            have nc_9 := lv_neT c_9 (show ((3 : Int32)).toInt = 3 from by decide)
            have nc_12 := lv_neT c_12 (show ((4 : Int32)).toInt = 4 from by decide)
            have nc_16 := lv_neT c_16 (show ((5 : Int32)).toInt = 5 from by decide)
            refine lv_tableOut (tgt := 151) hx hb dX0_getsOff_6 (by omega) (by decide) ?_
            refine lv_iconst (v := 0) hx hb dX0_getsOff_151 (by decide) ?_
            have e9 := Option.some.inj h
            exact q_zret hx hb hr hlocks hK hP hD hS dX0_getsOff_152 rfl (by first | rw [← e9] | rfl) (by first | rw [← e9] | rfl)
theorem eX0_getsOff : yX0_getsOff.cls = RX0 ∧ yX0_getsOff.cls ≠ "java/lang/invoke/MethodHandle" ∧ yX0_getsOff.cls ≠ "java/lang/invoke/VarHandle" ∧ (parseMethodDescriptor yX0_getsOff.desc).map (fun d => d.parameters.length) = some 1 := by decide +kernel
theorem uX0_dries_X0 : ∀ w ∈ u_ws RX0 TX0 13, w ∈ wsX0_dries := by decide +kernel
theorem kX0_dries_1 : Cond.fieldLink RX0 18 "BeamSeats$Island" "speed" "I" ∈ wsX0_dries := List.mem_of_getElem? (i := 3) (by decide +kernel)
theorem kX0_dries_2 : Cond.fieldLink RX0 33 "BeamSeats$Island" "kinds" "[I" ∈ wsX0_dries := List.mem_of_getElem? (i := 2) (by decide +kernel)
theorem kX0_dries_3 : Cond.fieldLink RX0 40 "BeamSeats$Island" "outs" "[I" ∈ wsX0_dries := List.mem_of_getElem? (i := 1) (by decide +kernel)
def f_X0_dries (N : Nat) (F : Nat → Nat → Int32) (p1 : Int32) : Option (Int32) :=
  q_grd p1 8 (
  q_let ((3 : Int32) + ((F 3 p1.toNatClampNeg) / (3 : Int32))) (fun x_2 =>
  q_grd p1 8 (
  q_let (F 1 p1.toNatClampNeg) (fun x_4 =>
  if x_4 = 1 then
    some x_2
  else
    if x_4 = 2 then
      some (1 : Int32)
    else
      if x_4 = 3 then
        some (0 : Int32)
      else
        if x_4 = 4 then
          some (x_2 + ((F 0 2) / (2 : Int32)))
        else
          some (1 : Int32)))))
set_option maxHeartbeats 4000000 in
set_option maxRecDepth 100000 in
theorem c_X0_dries (l : Launch) (D : va_G) (y : Nat → ClassId) (t : Nat → Nat) (q : Nat → Nat) (sz N : Nat) (F : Nat → Nat → Int32) (p1 : Int32) (res : Int32) (h : f_X0_dries N F p1 = some res) : Met l yX0_dries wsX0_dries ({ frames := 0, cells := 0, slots := 0, locals := 0 } : Room) (pPre D y t [.ref (q 0), .int p1] (wI y q F) sz) (pQi D y res (wI y q F) (va_A (wI y q F) sz)) 0 0 (va_A (wI y q F) sz) := by
  refine q_start (Qc := (fun A => pQi D y res (wI y q F) A)) (cc := cX0_dries) (maxL := 3) (ret := (some .int)) (by decide) rfl (Nat.le_of_ble_eq_true rfl) ?_
  intro p e s m below meth c A ls hx hb hr hts hown hlocks hmn hml hP hK hZ hD hA hS hl
  have hl : lv_has ls 3 [(0, .ref (q 0)), (1, .int p1)] := hl
  have hown : s.vm.findClass RX0 = some m.cls := hown
  unfold f_X0_dries at h
  refine lv_iconst (v := 3) hx hb dX0_dries_0 (by decide) ?_
  refine lv_aload_n hx hb dX0_dries_1 rfl (lv_at hl 0 rfl) ?_
  refine va_get (D := D) (ci := 0) (v := .ref (q 3)) (C := RX0) (T := TX0) (N := 13) hx hb hts uX0_dries_X0 hown hK hP 0 rfl rfl 9 (by decide) (hts _ kX0_dries_3) (fun _ h9 => h9) rfl dX0_dries_2 ?_
  refine lv_iload_n hx hb dX0_dries_5 rfl (lv_at hl 1 rfl) ?_
  obtain ⟨z_1, h⟩ := q_grd_ok h
  refine va_iald hx hb hK hP 3 0 rfl rfl z_1 dX0_dries_6 ?_
  refine lv_iconst (v := 3) hx hb dX0_dries_7 (by decide) ?_
  refine lv_idiv hx hb dX0_dries_8 (by decide) ?_
  refine lv_iadd hx hb dX0_dries_9 ?_
  refine lv_topi (fun x_2 ex_2 => ?_)
  have h := q_let_at ex_2 h
  refine lv_istore_n (lv' := [(2, .int x_2), (0, .ref (q 0)), (1, .int p1)]) hx hb dX0_dries_10 rfl hl (by decide) rfl (fun ls hl => ?_)
  refine lv_aload_n hx hb dX0_dries_11 rfl (lv_at hl 1 rfl) ?_
  refine va_get (D := D) (ci := 0) (v := .ref (q 1)) (C := RX0) (T := TX0) (N := 13) hx hb hts uX0_dries_X0 hown hK hP 0 rfl rfl 7 (by decide) (hts _ kX0_dries_2) (fun _ h9 => h9) rfl dX0_dries_12 ?_
  refine lv_iload_n hx hb dX0_dries_15 rfl (lv_at hl 2 rfl) ?_
  obtain ⟨z_3, h⟩ := q_grd_ok h
  refine va_iald hx hb hK hP 1 0 rfl rfl z_3 dX0_dries_16 ?_
  refine lv_topi (fun x_4 ex_4 => ?_)
  have h := q_let_at ex_4 h
  by_cases c_5 : x_4 = 1
  · have h := q_t c_5 h
    refine lv_tableIn (tgt := 48) (off := 31) hx hb dX0_dries_17 (by rw [c_5]; decide) (by rw [c_5]; decide) (by rw [c_5]; rfl) (by decide) ?_
    refine lv_iload_n hx hb dX0_dries_48 rfl (lv_at hl 0 rfl) ?_
    have e9 := Option.some.inj h
    exact q_iret hx hb hr hlocks hK hP hD hS dX0_dries_49 (by first | rw [← e9] | rfl) (by first | rw [← e9] | rfl)
  · have h := q_f c_5 h
    by_cases c_6 : x_4 = 2
    · have h := q_t c_6 h
      refine lv_tableIn (tgt := 61) (off := 44) hx hb dX0_dries_17 (by rw [c_6]; decide) (by rw [c_6]; decide) (by rw [c_6]; rfl) (by decide) ?_
      refine lv_iconst (v := 1) hx hb dX0_dries_61 (by decide) ?_
      have e9 := Option.some.inj h
      exact q_iret hx hb hr hlocks hK hP hD hS dX0_dries_62 (by first | rw [← e9] | rfl) (by first | rw [← e9] | rfl)
    · have h := q_f c_6 h
      by_cases c_7 : x_4 = 3
      · have h := q_t c_7 h
        refine lv_tableIn (tgt := 50) (off := 33) hx hb dX0_dries_17 (by rw [c_7]; decide) (by rw [c_7]; decide) (by rw [c_7]; rfl) (by decide) ?_
        refine lv_iconst (v := 0) hx hb dX0_dries_50 (by decide) ?_
        have e9 := Option.some.inj h
        exact q_iret hx hb hr hlocks hK hP hD hS dX0_dries_51 (by first | rw [← e9] | rfl) (by first | rw [← e9] | rfl)
      · have h := q_f c_7 h
        by_cases c_8 : x_4 = 4
        · have h := q_t c_8 h
          refine lv_tableIn (tgt := 52) (off := 35) hx hb dX0_dries_17 (by rw [c_8]; decide) (by rw [c_8]; decide) (by rw [c_8]; rfl) (by decide) ?_
          refine lv_iload_n hx hb dX0_dries_52 rfl (lv_at hl 0 rfl) ?_
          refine lv_aload_n hx hb dX0_dries_53 rfl (lv_at hl 1 rfl) ?_
          refine va_get (D := D) (ci := 0) (v := .int (F 0 2)) (C := RX0) (T := TX0) (N := 13) hx hb hts uX0_dries_X0 hown hK hP 0 rfl rfl 2 (by decide) (hts _ kX0_dries_1) (fun _ h9 => h9) rfl dX0_dries_54 ?_
          refine lv_iconst (v := 2) hx hb dX0_dries_57 (by decide) ?_
          refine lv_idiv hx hb dX0_dries_58 (by decide) ?_
          refine lv_iadd hx hb dX0_dries_59 ?_
          have e9 := Option.some.inj h
          exact q_iret hx hb hr hlocks hK hP hD hS dX0_dries_60 (by first | rw [← e9] | rfl) (by first | rw [← e9] | rfl)
        · have h := q_f c_8 h
          have nc_5 := lv_neT c_5 (show ((1 : Int32)).toInt = 1 from by decide)
          have nc_6 := lv_neT c_6 (show ((2 : Int32)).toInt = 2 from by decide)
          have nc_7 := lv_neT c_7 (show ((3 : Int32)).toInt = 3 from by decide)
          have nc_8 := lv_neT c_8 (show ((4 : Int32)).toInt = 4 from by decide)
          refine lv_tableOut (tgt := 61) hx hb dX0_dries_17 (by omega) (by decide) ?_
          refine lv_iconst (v := 1) hx hb dX0_dries_61 (by decide) ?_
          have e9 := Option.some.inj h
          exact q_iret hx hb hr hlocks hK hP hD hS dX0_dries_62 (by first | rw [← e9] | rfl) (by first | rw [← e9] | rfl)
theorem eX0_dries : yX0_dries.cls = RX0 ∧ yX0_dries.cls ≠ "java/lang/invoke/MethodHandle" ∧ yX0_dries.cls ≠ "java/lang/invoke/VarHandle" ∧ (parseMethodDescriptor yX0_dries.desc).map (fun d => d.parameters.length) = some 1 := by decide +kernel
theorem kX0_comeOn_0 : Cond.methodLink RX0 77 Lib.Math.min.name ∈ wsX0_comeOn := List.mem_of_getElem? (i := 3) (by decide +kernel)
theorem kX0_comeOn_1 : Cond.static Lib.Math.min.name ∈ wsX0_comeOn := List.mem_of_getElem? (i := 4) (by decide +kernel)
theorem kX0_comeOn_2 : Cond.initialized "java/lang/Math" ∈ wsX0_comeOn := List.mem_of_getElem? (i := 5) (by decide +kernel)
theorem kX0_comeOn_3 : Cond.code Lib.Math.min.name Lib.Math.min.code 2 (some .int) ∈ wsX0_comeOn := List.mem_of_getElem? (i := 6) (by decide +kernel)
theorem uX0_comeOn_X0 : ∀ w ∈ u_ws RX0 TX0 13, w ∈ wsX0_comeOn := by decide +kernel
theorem kX0_comeOn_5 : Cond.fieldLink RX0 49 "BeamSeats$Island" "times" "[I" ∈ wsX0_comeOn := List.mem_of_getElem? (i := 2) (by decide +kernel)
theorem kX0_comeOn_6 : Cond.fieldLink RX0 27 "BeamSeats$Island" "onSet" "I" ∈ wsX0_comeOn := List.mem_of_getElem? (i := 1) (by decide +kernel)
def f_X0_comeOn (N : Nat) (F : Nat → Nat → Int32) (p1 : Int32) : Option ((Nat → Nat → Int32)) :=
  q_let (q_up F 0 5 ((F 0 5) ||| ((1 : Int32) <<< (p1 &&& 31)))) (fun F_1 =>
  q_grd p1 8 (
  q_let (if (9999 : Int32) < ((F_1 6 p1.toNatClampNeg) + (1 : Int32)) then (9999 : Int32) else ((F_1 6 p1.toNatClampNeg) + (1 : Int32))) (fun x_3 =>
  q_grd p1 8 (
  q_let (q_up F_1 6 p1.toNatClampNeg x_3) (fun F_5 =>
  some F_5)))))
set_option maxHeartbeats 4000000 in
set_option maxRecDepth 100000 in
theorem c_X0_comeOn (l : Launch) (D : va_G) (y : Nat → ClassId) (t : Nat → Nat) (q : Nat → Nat) (sz N : Nat) (F : Nat → Nat → Int32) (p1 : Int32) (res : (Nat → Nat → Int32)) (h : f_X0_comeOn N F p1 = some res) : Met l yX0_comeOn wsX0_comeOn ({ frames := 1, cells := 0, slots := 0, locals := 21 } : Room) (pPre D y t [.ref (q 0), .int p1] (wI y q F) sz) (pQv D y (wI y q res) (va_A (wI y q F) sz)) 0 0 (va_A (wI y q F) sz) := by
  refine q_start (Qc := (fun A => pQv D y (wI y q res) A)) (cc := cX0_comeOn) (maxL := 2) (ret := none) (by decide) rfl (Nat.le_of_ble_eq_true rfl) ?_
  intro p e s m below meth c A ls hx hb hr hts hown hlocks hmn hml hP hK hZ hD hA hS hl
  have hl : lv_has ls 2 [(0, .ref (q 0)), (1, .int p1)] := hl
  have hown : s.vm.findClass RX0 = some m.cls := hown
  unfold f_X0_comeOn at h
  refine lv_aload_n hx hb dX0_comeOn_0 rfl (lv_at hl 0 rfl) ?_
  refine lv_dup hx hb dX0_comeOn_1 rfl ?_
  refine va_get (D := D) (ci := 0) (v := .int (F 0 5)) (C := RX0) (T := TX0) (N := 13) hx hb hts uX0_comeOn_X0 hown hK hP 0 rfl rfl 5 (by decide) (hts _ kX0_comeOn_6) (fun _ h9 => h9) rfl dX0_comeOn_2 ?_
  refine lv_iconst (v := 1) hx hb dX0_comeOn_5 (by decide) ?_
  refine lv_iload_n hx hb dX0_comeOn_6 rfl (lv_at hl 1 rfl) ?_
  refine lv_ishl hx hb dX0_comeOn_7 ?_
  refine lv_ior hx hb dX0_comeOn_8 ?_
  obtain ⟨F_1, eF_1, h⟩ := q_let_ok h
  refine va_put (D := D) (ci := 0) (v := .int ((F 0 5) ||| ((1 : Int32) <<< (p1 &&& 31)))) (ty := .int) (C := RX0) (T := TX0) (N := 13) hx hb hts uX0_comeOn_X0 tyX0 tyX0_ok nmX0 hown hK hP hD hS 0 rfl rfl 5 (by decide) (hts _ kX0_comeOn_6) (fun _ h9 => h9) rfl (by decide +kernel) rfl rfl (Nat.le_of_ble_eq_true rfl) dX0_comeOn_9 (fun H locs hP hD hS => ?_)
  have hP : va_P D vwCl (wI y q F_1) H := by rw [eF_1]; exact hP
  have hD : va_D A (wI y q F_1) := by rw [eF_1]; exact hD
  refine lv_aload_n hx hb dX0_comeOn_12 rfl (lv_at hl 0 rfl) ?_
  refine va_get (D := D) (ci := 0) (v := .ref (q 6)) (C := RX0) (T := TX0) (N := 13) hx hb hts uX0_comeOn_X0 hown hK hP 0 rfl rfl 12 (by decide) (hts _ kX0_comeOn_5) (fun _ h9 => h9) rfl dX0_comeOn_13 ?_
  refine lv_iload_n hx hb dX0_comeOn_16 rfl (lv_at hl 1 rfl) ?_
  refine lv_aload_n hx hb dX0_comeOn_17 rfl (lv_at hl 0 rfl) ?_
  refine va_get (D := D) (ci := 0) (v := .ref (q 6)) (C := RX0) (T := TX0) (N := 13) hx hb hts uX0_comeOn_X0 hown hK hP 0 rfl rfl 12 (by decide) (hts _ kX0_comeOn_5) (fun _ h9 => h9) rfl dX0_comeOn_18 ?_
  refine lv_iload_n hx hb dX0_comeOn_21 rfl (lv_at hl 1 rfl) ?_
  obtain ⟨z_2, h⟩ := q_grd_ok h
  refine va_iald hx hb hK hP 6 0 rfl rfl z_2 dX0_comeOn_22 ?_
  refine lv_iconst (v := 1) hx hb dX0_comeOn_23 (by decide) ?_
  refine lv_iadd hx hb dX0_comeOn_24 ?_
  refine lv_sipush (v := 9999) hx hb dX0_comeOn_25 (by decide) ?_
  refine va_mmin hx hb (hml.trans hl.1.symm) hown (hts _ kX0_comeOn_0) (hts _ kX0_comeOn_1) (hts _ kX0_comeOn_2) (hts _ kX0_comeOn_3) (Nat.le_of_ble_eq_true rfl) (Nat.le_of_ble_eq_true rfl) (Nat.zero_le _) (Nat.zero_le _) dX0_comeOn_28 ?_
  refine lv_topi (fun x_3 ex_3 => ?_)
  have h := q_let_at ex_3 h
  obtain ⟨z_4, h⟩ := q_grd_ok h
  obtain ⟨F_5, eF_5, h⟩ := q_let_ok h
  refine va_iast hx hb hK hP hD hS 6 0 rfl rfl z_4 dX0_comeOn_31 (fun H locs hP hD hS => ?_)
  have hP : va_P D vwCl (wI y q F_5) H := by rw [eF_5]; exact hP
  have hD : va_D A (wI y q F_5) := by rw [eF_5]; exact hD
  have e9 := Option.some.inj h
  exact q_vret hx hb hr hlocks hK hP hD hS dX0_comeOn_32 (by first | rw [← e9] | rfl)
theorem eX0_comeOn : yX0_comeOn.cls = RX0 ∧ yX0_comeOn.cls ≠ "java/lang/invoke/MethodHandle" ∧ yX0_comeOn.cls ≠ "java/lang/invoke/VarHandle" ∧ (parseMethodDescriptor yX0_comeOn.desc).map (fun d => d.parameters.length) = some 1 := by decide +kernel
theorem uX0_goOff_X0 : ∀ w ∈ u_ws RX0 TX0 13, w ∈ wsX0_goOff := by decide +kernel
theorem kX0_goOff_1 : Cond.fieldLink RX0 15 "BeamSeats$Island" "bearing" "I" ∈ wsX0_goOff := List.mem_of_getElem? (i := 3) (by decide +kernel)
theorem kX0_goOff_2 : Cond.fieldLink RX0 37 "BeamSeats$Island" "places" "[I" ∈ wsX0_goOff := List.mem_of_getElem? (i := 2) (by decide +kernel)
theorem kX0_goOff_3 : Cond.fieldLink RX0 27 "BeamSeats$Island" "onSet" "I" ∈ wsX0_goOff := List.mem_of_getElem? (i := 1) (by decide +kernel)
def f_X0_goOff (N : Nat) (F : Nat → Nat → Int32) (p1 : Int32) : Option ((Nat → Nat → Int32)) :=
  q_let (q_up F 0 5 ((F 0 5) &&& (((1 : Int32) <<< (p1 &&& 31)) ^^^ (-1 : Int32)))) (fun F_1 =>
  q_grd p1 8 (
  q_let (q_up F_1 2 p1.toNatClampNeg (F_1 0 1)) (fun F_3 =>
  some F_3)))
set_option maxHeartbeats 4000000 in
set_option maxRecDepth 100000 in
theorem c_X0_goOff (l : Launch) (D : va_G) (y : Nat → ClassId) (t : Nat → Nat) (q : Nat → Nat) (sz N : Nat) (F : Nat → Nat → Int32) (p1 : Int32) (res : (Nat → Nat → Int32)) (h : f_X0_goOff N F p1 = some res) : Met l yX0_goOff wsX0_goOff ({ frames := 0, cells := 0, slots := 0, locals := 0 } : Room) (pPre D y t [.ref (q 0), .int p1] (wI y q F) sz) (pQv D y (wI y q res) (va_A (wI y q F) sz)) 0 0 (va_A (wI y q F) sz) := by
  refine q_start (Qc := (fun A => pQv D y (wI y q res) A)) (cc := cX0_goOff) (maxL := 2) (ret := none) (by decide) rfl (Nat.le_of_ble_eq_true rfl) ?_
  intro p e s m below meth c A ls hx hb hr hts hown hlocks hmn hml hP hK hZ hD hA hS hl
  have hl : lv_has ls 2 [(0, .ref (q 0)), (1, .int p1)] := hl
  have hown : s.vm.findClass RX0 = some m.cls := hown
  unfold f_X0_goOff at h
  refine lv_aload_n hx hb dX0_goOff_0 rfl (lv_at hl 0 rfl) ?_
  refine lv_dup hx hb dX0_goOff_1 rfl ?_
  refine va_get (D := D) (ci := 0) (v := .int (F 0 5)) (C := RX0) (T := TX0) (N := 13) hx hb hts uX0_goOff_X0 hown hK hP 0 rfl rfl 5 (by decide) (hts _ kX0_goOff_3) (fun _ h9 => h9) rfl dX0_goOff_2 ?_
  refine lv_iconst (v := 1) hx hb dX0_goOff_5 (by decide) ?_
  refine lv_iload_n hx hb dX0_goOff_6 rfl (lv_at hl 1 rfl) ?_
  refine lv_ishl hx hb dX0_goOff_7 ?_
  refine lv_iconst (v := -1) hx hb dX0_goOff_8 (by decide) ?_
  refine lv_ixor hx hb dX0_goOff_9 ?_
  refine lv_iand hx hb dX0_goOff_10 ?_
  obtain ⟨F_1, eF_1, h⟩ := q_let_ok h
  refine va_put (D := D) (ci := 0) (v := .int ((F 0 5) &&& (((1 : Int32) <<< (p1 &&& 31)) ^^^ (-1 : Int32)))) (ty := .int) (C := RX0) (T := TX0) (N := 13) hx hb hts uX0_goOff_X0 tyX0 tyX0_ok nmX0 hown hK hP hD hS 0 rfl rfl 5 (by decide) (hts _ kX0_goOff_3) (fun _ h9 => h9) rfl (by decide +kernel) rfl rfl (Nat.le_of_ble_eq_true rfl) dX0_goOff_11 (fun H locs hP hD hS => ?_)
  have hP : va_P D vwCl (wI y q F_1) H := by rw [eF_1]; exact hP
  have hD : va_D A (wI y q F_1) := by rw [eF_1]; exact hD
  refine lv_aload_n hx hb dX0_goOff_14 rfl (lv_at hl 0 rfl) ?_
  refine va_get (D := D) (ci := 0) (v := .ref (q 2)) (C := RX0) (T := TX0) (N := 13) hx hb hts uX0_goOff_X0 hown hK hP 0 rfl rfl 8 (by decide) (hts _ kX0_goOff_2) (fun _ h9 => h9) rfl dX0_goOff_15 ?_
  refine lv_iload_n hx hb dX0_goOff_18 rfl (lv_at hl 1 rfl) ?_
  refine lv_aload_n hx hb dX0_goOff_19 rfl (lv_at hl 0 rfl) ?_
  refine va_get (D := D) (ci := 0) (v := .int (F_1 0 1)) (C := RX0) (T := TX0) (N := 13) hx hb hts uX0_goOff_X0 hown hK hP 0 rfl rfl 1 (by decide) (hts _ kX0_goOff_1) (fun _ h9 => h9) rfl dX0_goOff_20 ?_
  obtain ⟨z_2, h⟩ := q_grd_ok h
  obtain ⟨F_3, eF_3, h⟩ := q_let_ok h
  refine va_iast hx hb hK hP hD hS 2 0 rfl rfl z_2 dX0_goOff_23 (fun H locs hP hD hS => ?_)
  have hP : va_P D vwCl (wI y q F_3) H := by rw [eF_3]; exact hP
  have hD : va_D A (wI y q F_3) := by rw [eF_3]; exact hD
  have e9 := Option.some.inj h
  exact q_vret hx hb hr hlocks hK hP hD hS dX0_goOff_24 (by first | rw [← e9] | rfl)
theorem eX0_goOff : yX0_goOff.cls = RX0 ∧ yX0_goOff.cls ≠ "java/lang/invoke/MethodHandle" ∧ yX0_goOff.cls ≠ "java/lang/invoke/VarHandle" ∧ (parseMethodDescriptor yX0_goOff.desc).map (fun d => d.parameters.length) = some 1 := by decide +kernel
theorem uX0_leaveOrBeLost_X0 : ∀ w ∈ u_ws RX0 TX0 13, w ∈ wsX0_leaveOrBeLost := by decide +kernel
theorem kX0_leaveOrBeLost_1 : Cond.fieldLink RX0 30 "BeamSeats$Island" "lostSet" "I" ∈ wsX0_leaveOrBeLost := List.mem_of_getElem? (i := 2) (by decide +kernel)
theorem kX0_leaveOrBeLost_2 : Cond.fieldLink RX0 15 "BeamSeats$Island" "bearing" "I" ∈ wsX0_leaveOrBeLost := List.mem_of_getElem? (i := 1) (by decide +kernel)
def f_X0_leaveOrBeLost (N : Nat) (F : Nat → Nat → Int32) (p1 : Int32) : Option ((Nat → Nat → Int32)) :=
  q_bd (f_X0_getsOff N F p1) (fun r_1 =>
  if r_1 = 0 then
    if (F 0 1) = (58 : Int32) then
      q_bd (f_X0_goOff N F p1) (fun F_5 =>
      q_let (q_up F_5 0 6 ((F_5 0 6) ||| ((1 : Int32) <<< (p1 &&& 31)))) (fun F_7 =>
      some F_7))
    else
      some F
  else
    q_bd (f_X0_goOff N F p1) (fun F_8 =>
    some F_8))
set_option maxHeartbeats 4000000 in
set_option maxRecDepth 100000 in
theorem c_X0_leaveOrBeLost (l : Launch) (D : va_G) (y : Nat → ClassId) (t : Nat → Nat) (q : Nat → Nat) (sz N : Nat) (F : Nat → Nat → Int32) (p1 : Int32) (res : (Nat → Nat → Int32)) (h : f_X0_leaveOrBeLost N F p1 = some res) : Met l yX0_leaveOrBeLost wsX0_leaveOrBeLost ({ frames := 1, cells := 0, slots := 0, locals := 21 } : Room) (pPre D y t [.ref (q 0), .int p1] (wI y q F) sz) (pQv D y (wI y q res) (va_A (wI y q F) sz)) 0 0 (va_A (wI y q F) sz) := by
  refine q_start (Qc := (fun A => pQv D y (wI y q res) A)) (cc := cX0_leaveOrBeLost) (maxL := 2) (ret := none) (by decide) rfl (Nat.le_of_ble_eq_true rfl) ?_
  intro p e s m below meth c A ls hx hb hr hts hown hlocks hmn hml hP hK hZ hD hA hS hl
  have hl : lv_has ls 2 [(0, .ref (q 0)), (1, .int p1)] := hl
  have hown : s.vm.findClass RX0 = some m.cls := hown
  unfold f_X0_leaveOrBeLost at h
  refine lv_aload_n hx hb dX0_leaveOrBeLost_0 rfl (lv_at hl 0 rfl) ?_
  refine lv_iload_n hx hb dX0_leaveOrBeLost_1 rfl (lv_at hl 1 rfl) ?_
  obtain ⟨r_1, hc_2, h⟩ := q_bd_ok h
  refine q_ci (r := r_1) (va_runV (As := [.int p1]) (rest := []) ⟨hx, hb, hml, hown, hts⟩ (c_X0_getsOff l D y t q _ N F p1 r_1 hc_2) (cwV 1 hts gX0_leaveOrBeLost_X0_getsOff rfl rfl rfl eX0_getsOff ⟨Nat.le_of_ble_eq_true rfl, Nat.le_of_ble_eq_true rfl⟩) ⟨q_blind, (va_recv hK hP (ci := 0) (q0 := 0) rfl rfl), (q_pre hP hK hZ hD hA hS [0, 1, 2, 3, 4, 5, 6] rfl (by decide))⟩ rfl rfl hl.1 rfl (lv_room (Nat.le_of_ble_eq_true rfl)) dX0_leaveOrBeLost_2 ⟨Nat.zero_le _, Nat.zero_le _⟩) hP hD hA hS [0, 1, 2, 3, 4, 5, 6] rfl (by decide) rfl (fun H locs hP hD hS => ?_)
  have hP : va_P D vwCl (wI y q F) H := hP
  have hD : va_D A (wI y q F) := hD
  refine lv_if_eq (tgt := 16) hx hb dX0_leaveOrBeLost_5 (by decide) (fun c_3 => ?_) (fun c_3 => ?_)
  · have h := q_t c_3 h
    refine lv_aload_n hx hb dX0_leaveOrBeLost_16 rfl (lv_at hl 0 rfl) ?_
    refine va_get (D := D) (ci := 0) (v := .int (F 0 1)) (C := RX0) (T := TX0) (N := 13) hx hb hts uX0_leaveOrBeLost_X0 hown hK hP 0 rfl rfl 1 (by decide) (hts _ kX0_leaveOrBeLost_2) (fun _ h9 => h9) rfl dX0_leaveOrBeLost_17 ?_
    refine lv_bipush (v := 58) hx hb dX0_leaveOrBeLost_20 (by decide) ?_
    refine lv_icmp_ne (tgt := 42) hx hb dX0_leaveOrBeLost_22 (by decide) (fun c_4 => ?_) (fun c_4 => ?_)
    · have h := q_f c_4 h
      have e9 := Option.some.inj h
      exact q_vret hx hb hr hlocks hK hP hD hS dX0_leaveOrBeLost_42 (by first | rw [← e9] | rfl)
    · have h := q_t c_4 h
      refine lv_aload_n hx hb dX0_leaveOrBeLost_25 rfl (lv_at hl 0 rfl) ?_
      refine lv_iload_n hx hb dX0_leaveOrBeLost_26 rfl (lv_at hl 1 rfl) ?_
      obtain ⟨F_5, hc_6, h⟩ := q_bd_ok h
      refine q_cv (va_runV (As := [.int p1]) (rest := []) ⟨hx, hb, hml, hown, hts⟩ (c_X0_goOff l D y t q _ N F p1 F_5 hc_6) (cwV 1 hts gX0_leaveOrBeLost_X0_goOff rfl rfl rfl eX0_goOff ⟨Nat.le_of_ble_eq_true rfl, Nat.le_of_ble_eq_true rfl⟩) ⟨q_blind, (va_recv hK hP (ci := 0) (q0 := 0) rfl rfl), (q_pre hP hK hZ hD hA hS [0, 1, 2, 3, 4, 5, 6] rfl (by decide))⟩ rfl rfl hl.1 rfl (lv_room (Nat.le_of_ble_eq_true rfl)) dX0_leaveOrBeLost_27 ⟨Nat.zero_le _, Nat.zero_le _⟩) hP hD hA hS [0, 1, 2, 3, 4, 5, 6] rfl (by decide) rfl (fun H locs hP hD hS => ?_)
      have hP : va_P D vwCl (wI y q F_5) H := hP
      have hD : va_D A (wI y q F_5) := hD
      refine lv_aload_n hx hb dX0_leaveOrBeLost_30 rfl (lv_at hl 0 rfl) ?_
      refine lv_dup hx hb dX0_leaveOrBeLost_31 rfl ?_
      refine va_get (D := D) (ci := 0) (v := .int (F_5 0 6)) (C := RX0) (T := TX0) (N := 13) hx hb hts uX0_leaveOrBeLost_X0 hown hK hP 0 rfl rfl 6 (by decide) (hts _ kX0_leaveOrBeLost_1) (fun _ h9 => h9) rfl dX0_leaveOrBeLost_32 ?_
      refine lv_iconst (v := 1) hx hb dX0_leaveOrBeLost_35 (by decide) ?_
      refine lv_iload_n hx hb dX0_leaveOrBeLost_36 rfl (lv_at hl 1 rfl) ?_
      refine lv_ishl hx hb dX0_leaveOrBeLost_37 ?_
      refine lv_ior hx hb dX0_leaveOrBeLost_38 ?_
      obtain ⟨F_7, eF_7, h⟩ := q_let_ok h
      refine va_put (D := D) (ci := 0) (v := .int ((F_5 0 6) ||| ((1 : Int32) <<< (p1 &&& 31)))) (ty := .int) (C := RX0) (T := TX0) (N := 13) hx hb hts uX0_leaveOrBeLost_X0 tyX0 tyX0_ok nmX0 hown hK hP hD hS 0 rfl rfl 6 (by decide) (hts _ kX0_leaveOrBeLost_1) (fun _ h9 => h9) rfl (by decide +kernel) rfl rfl (Nat.le_of_ble_eq_true rfl) dX0_leaveOrBeLost_39 (fun H locs hP hD hS => ?_)
      have hP : va_P D vwCl (wI y q F_7) H := by rw [eF_7]; exact hP
      have hD : va_D A (wI y q F_7) := by rw [eF_7]; exact hD
      have e9 := Option.some.inj h
      exact q_vret hx hb hr hlocks hK hP hD hS dX0_leaveOrBeLost_42 (by first | rw [← e9] | rfl)
  · have h := q_f c_3 h
    refine lv_aload_n hx hb dX0_leaveOrBeLost_8 rfl (lv_at hl 0 rfl) ?_
    refine lv_iload_n hx hb dX0_leaveOrBeLost_9 rfl (lv_at hl 1 rfl) ?_
    obtain ⟨F_8, hc_9, h⟩ := q_bd_ok h
    refine q_cv (va_runV (As := [.int p1]) (rest := []) ⟨hx, hb, hml, hown, hts⟩ (c_X0_goOff l D y t q _ N F p1 F_8 hc_9) (cwV 1 hts gX0_leaveOrBeLost_X0_goOff rfl rfl rfl eX0_goOff ⟨Nat.le_of_ble_eq_true rfl, Nat.le_of_ble_eq_true rfl⟩) ⟨q_blind, (va_recv hK hP (ci := 0) (q0 := 0) rfl rfl), (q_pre hP hK hZ hD hA hS [0, 1, 2, 3, 4, 5, 6] rfl (by decide))⟩ rfl rfl hl.1 rfl (lv_room (Nat.le_of_ble_eq_true rfl)) dX0_leaveOrBeLost_10 ⟨Nat.zero_le _, Nat.zero_le _⟩) hP hD hA hS [0, 1, 2, 3, 4, 5, 6] rfl (by decide) rfl (fun H locs hP hD hS => ?_)
    have hP : va_P D vwCl (wI y q F_8) H := hP
    have hD : va_D A (wI y q F_8) := hD
    refine lv_goto (tgt := 42) hx hb dX0_leaveOrBeLost_13 (by decide) ?_
    have e9 := Option.some.inj h
    exact q_vret hx hb hr hlocks hK hP hD hS dX0_leaveOrBeLost_42 (by first | rw [← e9] | rfl)
theorem eX0_leaveOrBeLost : yX0_leaveOrBeLost.cls = RX0 ∧ yX0_leaveOrBeLost.cls ≠ "java/lang/invoke/MethodHandle" ∧ yX0_leaveOrBeLost.cls ≠ "java/lang/invoke/VarHandle" ∧ (parseMethodDescriptor yX0_leaveOrBeLost.desc).map (fun d => d.parameters.length) = some 1 := by decide +kernel
theorem uX0_passBearing_X0 : ∀ w ∈ u_ws RX0 TX0 13, w ∈ wsX0_passBearing := by decide +kernel
theorem kX0_passBearing_1 : Cond.fieldLink RX0 30 "BeamSeats$Island" "lostSet" "I" ∈ wsX0_passBearing := List.mem_of_getElem? (i := 5) (by decide +kernel)
theorem kX0_passBearing_2 : Cond.fieldLink RX0 15 "BeamSeats$Island" "bearing" "I" ∈ wsX0_passBearing := List.mem_of_getElem? (i := 4) (by decide +kernel)
theorem kX0_passBearing_3 : Cond.fieldLink RX0 37 "BeamSeats$Island" "places" "[I" ∈ wsX0_passBearing := List.mem_of_getElem? (i := 3) (by decide +kernel)
theorem kX0_passBearing_4 : Cond.fieldLink RX0 27 "BeamSeats$Island" "onSet" "I" ∈ wsX0_passBearing := List.mem_of_getElem? (i := 2) (by decide +kernel)
theorem kX0_passBearing_5 : Cond.fieldLink RX0 24 "BeamSeats$Island" "size" "I" ∈ wsX0_passBearing := List.mem_of_getElem? (i := 1) (by decide +kernel)
def f_X0_passBearing_L2 (N : Nat) (v1 : Int32) : Nat → Int32 → (Nat → Nat → Int32) → Option (Int32 × (Nat → Nat → Int32))
  | 0, _, _ => none
  | k + 1, v2, F =>
    if (F 0 4) ≤ v2 then
      some (v2, F)
    else
      q_let ((1 : Int32) <<< (v2 &&& 31)) (fun x_5 =>
      if ((F 0 5) &&& x_5) = 0 then
        q_grd v2 8 (
        if (F 2 v2.toNatClampNeg) = (F 0 1) then
          if ((v1 ||| (F 0 6)) &&& x_5) = 0 then
            q_bd (f_X0_getsOn N F v2) (fun r_12 =>
            if r_12 = 0 then
              q_let (v2 + 1) (fun x_15 =>
              f_X0_passBearing_L2 N v1 k x_15 F)
            else
              q_bd (f_X0_isBorne N F v2) (fun r_16 =>
              if r_16 = 0 then
                q_let (v2 + 1) (fun x_19 =>
                f_X0_passBearing_L2 N v1 k x_19 F)
              else
                q_bd (f_X0_comeOn N F v2) (fun F_20 =>
                q_let (v2 + 1) (fun x_22 =>
                f_X0_passBearing_L2 N v1 k x_22 F_20))))
          else
            q_let (v2 + 1) (fun x_11 =>
            f_X0_passBearing_L2 N v1 k x_11 F)
        else
          q_let (v2 + 1) (fun x_9 =>
          f_X0_passBearing_L2 N v1 k x_9 F))
      else
        q_bd (f_X0_leaveOrBeLost N F v2) (fun F_23 =>
        q_let (v2 + 1) (fun x_25 =>
        f_X0_passBearing_L2 N v1 k x_25 F_23)))
def f_X0_passBearing (N : Nat) (F : Nat → Nat → Int32) (p1 : Int32) : Option ((Nat → Nat → Int32)) :=
  q_bd2 (f_X0_passBearing_L2 N p1 N (0 : Int32) F) (fun x_2 F_3 =>
  some F_3)
set_option maxHeartbeats 4000000 in
set_option maxRecDepth 100000 in
theorem c_X0_passBearing (l : Launch) (D : va_G) (y : Nat → ClassId) (t : Nat → Nat) (q : Nat → Nat) (sz N : Nat) (F : Nat → Nat → Int32) (p1 : Int32) (res : (Nat → Nat → Int32)) (h : f_X0_passBearing N F p1 = some res) : Met l yX0_passBearing wsX0_passBearing ({ frames := 3, cells := 0, slots := 0, locals := 66 } : Room) (pPre D y t [.ref (q 0), .int p1] (wI y q F) sz) (pQv D y (wI y q res) (va_A (wI y q F) sz)) 0 0 (va_A (wI y q F) sz) := by
  refine q_start (Qc := (fun A => pQv D y (wI y q res) A)) (cc := cX0_passBearing) (maxL := 4) (ret := none) (by decide) rfl (Nat.le_of_ble_eq_true rfl) ?_
  intro p e s m below meth c A ls hx hb hr hts hown hlocks hmn hml hP hK hZ hD hA hS hl
  have hl : lv_has ls 4 [(0, .ref (q 0)), (1, .int p1)] := hl
  have hown : s.vm.findClass RX0 = some m.cls := hown
  unfold f_X0_passBearing at h
  refine lv_iconst (v := 0) hx hb dX0_passBearing_0 (by decide) ?_
  refine lv_istore_n (lv' := [(2, .int (0 : Int32)), (0, .ref (q 0)), (1, .int p1)]) hx hb dX0_passBearing_1 rfl hl (by decide) rfl (fun ls hl => ?_)
  obtain ⟨x_2, F_3, hL1, h⟩ := q_bd2_ok h
  have K2_1 : ∀ (H : Heap) (locs : List Loc) (ls : Array Slot), va_P D vwCl (wI y q F_3) H → va_D A (wI y q F_3) → va_S A s.heap H locs → lv_has ls 4 [(0, .ref (q 0)), (1, .int p1), (2, .int x_2)] → W p l e ({ frames := 3, cells := 0, slots := 0, locals := 66 } : Room) s m ([.ref (q 0), .int p1] : List Value).toArray below meth c H locs 0 0 (MQ below (pQv D y (wI y q res) A) ([.ref (q 0), .int p1] : List Value).toArray s 0 0 A) (F0 m 82 ls []) := by
    intro H locs ls hP hD hS hl
    have e9 := Option.some.inj h
    exact q_vret hx hb hr hlocks hK hP hD hS dX0_passBearing_82 (by first | rw [← e9] | rfl)
  have L2_1 : ∀ (v1 : Int32) (k : Nat) (v2 : Int32) (F : Nat → Nat → Int32), (∀ (H : Heap) (locs : List Loc) (ls : Array Slot), va_P D vwCl (wI y q F_3) H → va_D A (wI y q F_3) → va_S A s.heap H locs → lv_has ls 4 [(0, .ref (q 0)), (1, .int v1), (2, .int x_2)] → W p l e ({ frames := 3, cells := 0, slots := 0, locals := 66 } : Room) s m ([.ref (q 0), .int p1] : List Value).toArray below meth c H locs 0 0 (MQ below (pQv D y (wI y q res) A) ([.ref (q 0), .int p1] : List Value).toArray s 0 0 A) (F0 m 82 ls [])) → ∀ (H : Heap) (locs : List Loc) (ls : Array Slot), va_P D vwCl (wI y q F) H → va_D A (wI y q F) → va_S A s.heap H locs → lv_has ls 4 [(0, .ref (q 0)), (1, .int v1), (2, .int v2)] → f_X0_passBearing_L2 N v1 k v2 F = some (x_2, F_3) → W p l e ({ frames := 3, cells := 0, slots := 0, locals := 66 } : Room) s m ([.ref (q 0), .int p1] : List Value).toArray below meth c H locs 0 0 (MQ below (pQv D y (wI y q res) A) ([.ref (q 0), .int p1] : List Value).toArray s 0 0 A) (F0 m 2 ls []) := by
    intro v1 k
    induction k with
    | zero =>
      intro v2 F K2_1 H locs ls hP hD hS hl h
      have h : (none : Option (Int32 × (Nat → Nat → Int32))) = some _ := h
      cases h
    | succ k ih2_1 =>
      intro v2 F K2_1 H locs ls hP hD hS hl h
      rw [f_X0_passBearing_L2] at h
      refine lv_iload_n hx hb dX0_passBearing_2 rfl (lv_at hl 2 rfl) ?_
      refine lv_aload_n hx hb dX0_passBearing_3 rfl (lv_at hl 0 rfl) ?_
      refine va_get (D := D) (ci := 0) (v := .int (F 0 4)) (C := RX0) (T := TX0) (N := 13) hx hb hts uX0_passBearing_X0 hown hK hP 0 rfl rfl 4 (by decide) (hts _ kX0_passBearing_5) (fun _ h9 => h9) rfl dX0_passBearing_4 ?_
      refine lv_icmp_ge (tgt := 82) hx hb dX0_passBearing_7 (by decide) (fun c_4 => ?_) (fun c_4 => ?_)
      · have h := q_t c_4 h
        cases h
        exact K2_1 _ _ _ hP hD hS (lv_sub hl [0, 1, 2] rfl)
      · have h := q_f c_4 h
        refine lv_iconst (v := 1) hx hb dX0_passBearing_10 (by decide) ?_
        refine lv_iload_n hx hb dX0_passBearing_11 rfl (lv_at hl 2 rfl) ?_
        refine lv_ishl hx hb dX0_passBearing_12 ?_
        refine lv_topi (fun x_5 ex_5 => ?_)
        have h := q_let_at ex_5 h
        refine lv_istore_n (lv' := [(3, .int x_5), (0, .ref (q 0)), (1, .int v1), (2, .int v2)]) hx hb dX0_passBearing_13 rfl hl (by decide) rfl (fun ls hl => ?_)
        refine lv_aload_n hx hb dX0_passBearing_14 rfl (lv_at hl 1 rfl) ?_
        refine va_get (D := D) (ci := 0) (v := .int (F 0 5)) (C := RX0) (T := TX0) (N := 13) hx hb hts uX0_passBearing_X0 hown hK hP 0 rfl rfl 5 (by decide) (hts _ kX0_passBearing_4) (fun _ h9 => h9) rfl dX0_passBearing_15 ?_
        refine lv_iload_n hx hb dX0_passBearing_18 rfl (lv_at hl 0 rfl) ?_
        refine lv_iand hx hb dX0_passBearing_19 ?_
        refine lv_if_eq (tgt := 31) hx hb dX0_passBearing_20 (by decide) (fun c_6 => ?_) (fun c_6 => ?_)
        · have h := q_t c_6 h
          refine lv_aload_n hx hb dX0_passBearing_31 rfl (lv_at hl 1 rfl) ?_
          refine va_get (D := D) (ci := 0) (v := .ref (q 2)) (C := RX0) (T := TX0) (N := 13) hx hb hts uX0_passBearing_X0 hown hK hP 0 rfl rfl 8 (by decide) (hts _ kX0_passBearing_3) (fun _ h9 => h9) rfl dX0_passBearing_32 ?_
          refine lv_iload_n hx hb dX0_passBearing_35 rfl (lv_at hl 3 rfl) ?_
          obtain ⟨z_7, h⟩ := q_grd_ok h
          refine va_iald hx hb hK hP 2 0 rfl rfl z_7 dX0_passBearing_36 ?_
          refine lv_aload_n hx hb dX0_passBearing_37 rfl (lv_at hl 1 rfl) ?_
          refine va_get (D := D) (ci := 0) (v := .int (F 0 1)) (C := RX0) (T := TX0) (N := 13) hx hb hts uX0_passBearing_X0 hown hK hP 0 rfl rfl 1 (by decide) (hts _ kX0_passBearing_2) (fun _ h9 => h9) rfl dX0_passBearing_38 ?_
          refine lv_icmp_ne (tgt := 76) hx hb dX0_passBearing_41 (by decide) (fun c_8 => ?_) (fun c_8 => ?_)
          · have h := q_f c_8 h
            obtain ⟨x_9, ex_9, h⟩ := q_let_ok h
            refine lv_iinc (v := x_9) (lv' := [(2, .int x_9), (3, .int x_5), (0, .ref (q 0)), (1, .int v1)]) hx hb dX0_passBearing_76 hl (k := 3) rfl (by rw [ex_9]; rfl) (by decide) rfl (fun ls hl => ?_)
            refine lv_goto (tgt := 2) hx hb dX0_passBearing_79 (by decide) ?_
            exact ih2_1 x_9 F K2_1 _ _ _ hP hD hS (lv_sub hl [2, 3, 0] rfl) h
          · have h := q_t c_8 h
            refine lv_iload_n hx hb dX0_passBearing_44 rfl (lv_at hl 2 rfl) ?_
            refine lv_aload_n hx hb dX0_passBearing_45 rfl (lv_at hl 1 rfl) ?_
            refine va_get (D := D) (ci := 0) (v := .int (F 0 6)) (C := RX0) (T := TX0) (N := 13) hx hb hts uX0_passBearing_X0 hown hK hP 0 rfl rfl 6 (by decide) (hts _ kX0_passBearing_1) (fun _ h9 => h9) rfl dX0_passBearing_46 ?_
            refine lv_ior hx hb dX0_passBearing_49 ?_
            refine lv_iload_n hx hb dX0_passBearing_50 rfl (lv_at hl 0 rfl) ?_
            refine lv_iand hx hb dX0_passBearing_51 ?_
            refine lv_if_ne (tgt := 76) hx hb dX0_passBearing_52 (by decide) (fun c_10 => ?_) (fun c_10 => ?_)
            · have h := q_f c_10 h
              obtain ⟨x_11, ex_11, h⟩ := q_let_ok h
              refine lv_iinc (v := x_11) (lv' := [(2, .int x_11), (3, .int x_5), (0, .ref (q 0)), (1, .int v1)]) hx hb dX0_passBearing_76 hl (k := 3) rfl (by rw [ex_11]; rfl) (by decide) rfl (fun ls hl => ?_)
              refine lv_goto (tgt := 2) hx hb dX0_passBearing_79 (by decide) ?_
              exact ih2_1 x_11 F K2_1 _ _ _ hP hD hS (lv_sub hl [2, 3, 0] rfl) h
            · have h := q_t c_10 h
              refine lv_aload_n hx hb dX0_passBearing_55 rfl (lv_at hl 1 rfl) ?_
              refine lv_iload_n hx hb dX0_passBearing_56 rfl (lv_at hl 3 rfl) ?_
              obtain ⟨r_12, hc_13, h⟩ := q_bd_ok h
              refine q_ci (r := r_12) (va_runV (As := [.int v2]) (rest := []) ⟨hx, hb, hml, hown, hts⟩ (c_X0_getsOn l D y t q _ N F v2 r_12 hc_13) (cwV 1 hts gX0_passBearing_X0_getsOn rfl rfl rfl eX0_getsOn ⟨Nat.le_of_ble_eq_true rfl, Nat.le_of_ble_eq_true rfl⟩) ⟨q_blind, (va_recv hK hP (ci := 0) (q0 := 0) rfl rfl), (q_pre hP hK hZ hD hA hS [0, 1, 2, 3, 4, 5, 6] rfl (by decide))⟩ rfl rfl hl.1 rfl (lv_room (Nat.le_of_ble_eq_true rfl)) dX0_passBearing_57 ⟨Nat.zero_le _, Nat.zero_le _⟩) hP hD hA hS [0, 1, 2, 3, 4, 5, 6] rfl (by decide) rfl (fun H locs hP hD hS => ?_)
              have hP : va_P D vwCl (wI y q F) H := hP
              have hD : va_D A (wI y q F) := hD
              refine lv_if_eq (tgt := 76) hx hb dX0_passBearing_60 (by decide) (fun c_14 => ?_) (fun c_14 => ?_)
              · have h := q_t c_14 h
                obtain ⟨x_15, ex_15, h⟩ := q_let_ok h
                refine lv_iinc (v := x_15) (lv' := [(2, .int x_15), (3, .int x_5), (0, .ref (q 0)), (1, .int v1)]) hx hb dX0_passBearing_76 hl (k := 3) rfl (by rw [ex_15]; rfl) (by decide) rfl (fun ls hl => ?_)
                refine lv_goto (tgt := 2) hx hb dX0_passBearing_79 (by decide) ?_
                exact ih2_1 x_15 F K2_1 _ _ _ hP hD hS (lv_sub hl [2, 3, 0] rfl) h
              · have h := q_f c_14 h
                refine lv_aload_n hx hb dX0_passBearing_63 rfl (lv_at hl 1 rfl) ?_
                refine lv_iload_n hx hb dX0_passBearing_64 rfl (lv_at hl 3 rfl) ?_
                obtain ⟨r_16, hc_17, h⟩ := q_bd_ok h
                refine q_ci (r := r_16) (va_runV (As := [.int v2]) (rest := []) ⟨hx, hb, hml, hown, hts⟩ (c_X0_isBorne l D y t q _ N F v2 r_16 hc_17) (cwV 1 hts gX0_passBearing_X0_isBorne rfl rfl rfl eX0_isBorne ⟨Nat.le_of_ble_eq_true rfl, Nat.le_of_ble_eq_true rfl⟩) ⟨q_blind, (va_recv hK hP (ci := 0) (q0 := 0) rfl rfl), (q_pre hP hK hZ hD hA hS [0, 1, 2, 3, 4, 5, 6] rfl (by decide))⟩ rfl rfl hl.1 rfl (lv_room (Nat.le_of_ble_eq_true rfl)) dX0_passBearing_65 ⟨Nat.zero_le _, Nat.zero_le _⟩) hP hD hA hS [0, 1, 2, 3, 4, 5, 6] rfl (by decide) rfl (fun H locs hP hD hS => ?_)
                have hP : va_P D vwCl (wI y q F) H := hP
                have hD : va_D A (wI y q F) := hD
                refine lv_if_eq (tgt := 76) hx hb dX0_passBearing_68 (by decide) (fun c_18 => ?_) (fun c_18 => ?_)
                · have h := q_t c_18 h
                  obtain ⟨x_19, ex_19, h⟩ := q_let_ok h
                  refine lv_iinc (v := x_19) (lv' := [(2, .int x_19), (3, .int x_5), (0, .ref (q 0)), (1, .int v1)]) hx hb dX0_passBearing_76 hl (k := 3) rfl (by rw [ex_19]; rfl) (by decide) rfl (fun ls hl => ?_)
                  refine lv_goto (tgt := 2) hx hb dX0_passBearing_79 (by decide) ?_
                  exact ih2_1 x_19 F K2_1 _ _ _ hP hD hS (lv_sub hl [2, 3, 0] rfl) h
                · have h := q_f c_18 h
                  refine lv_aload_n hx hb dX0_passBearing_71 rfl (lv_at hl 1 rfl) ?_
                  refine lv_iload_n hx hb dX0_passBearing_72 rfl (lv_at hl 3 rfl) ?_
                  obtain ⟨F_20, hc_21, h⟩ := q_bd_ok h
                  refine q_cv (va_runV (As := [.int v2]) (rest := []) ⟨hx, hb, hml, hown, hts⟩ (c_X0_comeOn l D y t q _ N F v2 F_20 hc_21) (cwV 1 hts gX0_passBearing_X0_comeOn rfl rfl rfl eX0_comeOn ⟨Nat.le_of_ble_eq_true rfl, Nat.le_of_ble_eq_true rfl⟩) ⟨q_blind, (va_recv hK hP (ci := 0) (q0 := 0) rfl rfl), (q_pre hP hK hZ hD hA hS [0, 1, 2, 3, 4, 5, 6] rfl (by decide))⟩ rfl rfl hl.1 rfl (lv_room (Nat.le_of_ble_eq_true rfl)) dX0_passBearing_73 ⟨Nat.zero_le _, Nat.zero_le _⟩) hP hD hA hS [0, 1, 2, 3, 4, 5, 6] rfl (by decide) rfl (fun H locs hP hD hS => ?_)
                  have hP : va_P D vwCl (wI y q F_20) H := hP
                  have hD : va_D A (wI y q F_20) := hD
                  obtain ⟨x_22, ex_22, h⟩ := q_let_ok h
                  refine lv_iinc (v := x_22) (lv' := [(2, .int x_22), (3, .int x_5), (0, .ref (q 0)), (1, .int v1)]) hx hb dX0_passBearing_76 hl (k := 3) rfl (by rw [ex_22]; rfl) (by decide) rfl (fun ls hl => ?_)
                  refine lv_goto (tgt := 2) hx hb dX0_passBearing_79 (by decide) ?_
                  exact ih2_1 x_22 F_20 K2_1 _ _ _ hP hD hS (lv_sub hl [2, 3, 0] rfl) h
        · have h := q_f c_6 h
          refine lv_aload_n hx hb dX0_passBearing_23 rfl (lv_at hl 1 rfl) ?_
          refine lv_iload_n hx hb dX0_passBearing_24 rfl (lv_at hl 3 rfl) ?_
          obtain ⟨F_23, hc_24, h⟩ := q_bd_ok h
          refine q_cv (va_runV (As := [.int v2]) (rest := []) ⟨hx, hb, hml, hown, hts⟩ (c_X0_leaveOrBeLost l D y t q _ N F v2 F_23 hc_24) (cwV 1 hts gX0_passBearing_X0_leaveOrBeLost rfl rfl rfl eX0_leaveOrBeLost ⟨Nat.le_of_ble_eq_true rfl, Nat.le_of_ble_eq_true rfl⟩) ⟨q_blind, (va_recv hK hP (ci := 0) (q0 := 0) rfl rfl), (q_pre hP hK hZ hD hA hS [0, 1, 2, 3, 4, 5, 6] rfl (by decide))⟩ rfl rfl hl.1 rfl (lv_room (Nat.le_of_ble_eq_true rfl)) dX0_passBearing_25 ⟨Nat.zero_le _, Nat.zero_le _⟩) hP hD hA hS [0, 1, 2, 3, 4, 5, 6] rfl (by decide) rfl (fun H locs hP hD hS => ?_)
          have hP : va_P D vwCl (wI y q F_23) H := hP
          have hD : va_D A (wI y q F_23) := hD
          refine lv_goto (tgt := 76) hx hb dX0_passBearing_28 (by decide) ?_
          obtain ⟨x_25, ex_25, h⟩ := q_let_ok h
          refine lv_iinc (v := x_25) (lv' := [(2, .int x_25), (3, .int x_5), (0, .ref (q 0)), (1, .int v1)]) hx hb dX0_passBearing_76 hl (k := 3) rfl (by rw [ex_25]; rfl) (by decide) rfl (fun ls hl => ?_)
          refine lv_goto (tgt := 2) hx hb dX0_passBearing_79 (by decide) ?_
          exact ih2_1 x_25 F_23 K2_1 _ _ _ hP hD hS (lv_sub hl [2, 3, 0] rfl) h
  exact L2_1 p1 N (0 : Int32) F K2_1 _ _ _ hP hD hS (lv_sub hl [1, 2, 0] rfl) hL1
theorem eX0_passBearing : yX0_passBearing.cls = RX0 ∧ yX0_passBearing.cls ≠ "java/lang/invoke/MethodHandle" ∧ yX0_passBearing.cls ≠ "java/lang/invoke/VarHandle" ∧ (parseMethodDescriptor yX0_passBearing.desc).map (fun d => d.parameters.length) = some 1 := by decide +kernel
theorem kX0_dryAndRide_0 : Cond.methodLink RX0 60 Lib.Math.max.name ∈ wsX0_dryAndRide := List.mem_of_getElem? (i := 3) (by decide +kernel)
theorem kX0_dryAndRide_1 : Cond.static Lib.Math.max.name ∈ wsX0_dryAndRide := List.mem_of_getElem? (i := 4) (by decide +kernel)
theorem kX0_dryAndRide_2 : Cond.initialized "java/lang/Math" ∈ wsX0_dryAndRide := List.mem_of_getElem? (i := 5) (by decide +kernel)
theorem kX0_dryAndRide_3 : Cond.code Lib.Math.max.name Lib.Math.max.code 2 (some .int) ∈ wsX0_dryAndRide := List.mem_of_getElem? (i := 6) (by decide +kernel)
theorem uX0_dryAndRide_X0 : ∀ w ∈ u_ws RX0 TX0 13, w ∈ wsX0_dryAndRide := by decide +kernel
theorem kX0_dryAndRide_5 : Cond.fieldLink RX0 15 "BeamSeats$Island" "bearing" "I" ∈ wsX0_dryAndRide := List.mem_of_getElem? (i := 8) (by decide +kernel)
theorem kX0_dryAndRide_6 : Cond.fieldLink RX0 37 "BeamSeats$Island" "places" "[I" ∈ wsX0_dryAndRide := List.mem_of_getElem? (i := 7) (by decide +kernel)
theorem kX0_dryAndRide_7 : Cond.fieldLink RX0 43 "BeamSeats$Island" "wets" "[I" ∈ wsX0_dryAndRide := List.mem_of_getElem? (i := 2) (by decide +kernel)
theorem kX0_dryAndRide_8 : Cond.fieldLink RX0 24 "BeamSeats$Island" "size" "I" ∈ wsX0_dryAndRide := List.mem_of_getElem? (i := 1) (by decide +kernel)
def f_X0_dryAndRide_L2 (N : Nat) : Nat → Int32 → (Nat → Nat → Int32) → Option (Int32 × (Nat → Nat → Int32))
  | 0, _, _ => none
  | k + 1, v1, F =>
    if (F 0 4) ≤ v1 then
      some (v1, F)
    else
      q_bd (f_X0_isOn N F v1) (fun r_5 =>
      if r_5 = 0 then
        q_let (v1 + 1) (fun x_8 =>
        f_X0_dryAndRide_L2 N k x_8 F)
      else
        q_grd v1 8 (
        q_bd (f_X0_dries N F v1) (fun r_10 =>
        q_let (if (0 : Int32) < ((F 4 v1.toNatClampNeg) - r_10) then ((F 4 v1.toNatClampNeg) - r_10) else (0 : Int32)) (fun x_12 =>
        q_grd v1 8 (
        q_let (q_up F 4 v1.toNatClampNeg x_12) (fun F_14 =>
        q_grd v1 8 (
        q_let (q_up F_14 2 v1.toNatClampNeg (F_14 0 1)) (fun F_16 =>
        q_let (v1 + 1) (fun x_17 =>
        f_X0_dryAndRide_L2 N k x_17 F_16)))))))))
def f_X0_dryAndRide (N : Nat) (F : Nat → Nat → Int32) : Option ((Nat → Nat → Int32)) :=
  q_bd2 (f_X0_dryAndRide_L2 N N (0 : Int32) F) (fun x_2 F_3 =>
  some F_3)
set_option maxHeartbeats 4000000 in
set_option maxRecDepth 100000 in
theorem c_X0_dryAndRide (l : Launch) (D : va_G) (y : Nat → ClassId) (t : Nat → Nat) (q : Nat → Nat) (sz N : Nat) (F : Nat → Nat → Int32) (res : (Nat → Nat → Int32)) (h : f_X0_dryAndRide N F = some res) : Met l yX0_dryAndRide wsX0_dryAndRide ({ frames := 1, cells := 0, slots := 0, locals := 22 } : Room) (pPre D y t [.ref (q 0)] (wI y q F) sz) (pQv D y (wI y q res) (va_A (wI y q F) sz)) 0 0 (va_A (wI y q F) sz) := by
  refine q_start (Qc := (fun A => pQv D y (wI y q res) A)) (cc := cX0_dryAndRide) (maxL := 2) (ret := none) (by decide) rfl (Nat.le_of_ble_eq_true rfl) ?_
  intro p e s m below meth c A ls hx hb hr hts hown hlocks hmn hml hP hK hZ hD hA hS hl
  have hl : lv_has ls 2 [(0, .ref (q 0))] := hl
  have hown : s.vm.findClass RX0 = some m.cls := hown
  unfold f_X0_dryAndRide at h
  refine lv_iconst (v := 0) hx hb dX0_dryAndRide_0 (by decide) ?_
  refine lv_istore_n (lv' := [(1, .int (0 : Int32)), (0, .ref (q 0))]) hx hb dX0_dryAndRide_1 rfl hl (by decide) rfl (fun ls hl => ?_)
  obtain ⟨x_2, F_3, hL1, h⟩ := q_bd2_ok h
  have K2_1 : ∀ (H : Heap) (locs : List Loc) (ls : Array Slot), va_P D vwCl (wI y q F_3) H → va_D A (wI y q F_3) → va_S A s.heap H locs → lv_has ls 2 [(0, .ref (q 0)), (1, .int x_2)] → W p l e ({ frames := 1, cells := 0, slots := 0, locals := 22 } : Room) s m ([.ref (q 0)] : List Value).toArray below meth c H locs 0 0 (MQ below (pQv D y (wI y q res) A) ([.ref (q 0)] : List Value).toArray s 0 0 A) (F0 m 56 ls []) := by
    intro H locs ls hP hD hS hl
    have e9 := Option.some.inj h
    exact q_vret hx hb hr hlocks hK hP hD hS dX0_dryAndRide_56 (by first | rw [← e9] | rfl)
  have L2_1 : ∀ (k : Nat) (v1 : Int32) (F : Nat → Nat → Int32), (∀ (H : Heap) (locs : List Loc) (ls : Array Slot), va_P D vwCl (wI y q F_3) H → va_D A (wI y q F_3) → va_S A s.heap H locs → lv_has ls 2 [(0, .ref (q 0)), (1, .int x_2)] → W p l e ({ frames := 1, cells := 0, slots := 0, locals := 22 } : Room) s m ([.ref (q 0)] : List Value).toArray below meth c H locs 0 0 (MQ below (pQv D y (wI y q res) A) ([.ref (q 0)] : List Value).toArray s 0 0 A) (F0 m 56 ls [])) → ∀ (H : Heap) (locs : List Loc) (ls : Array Slot), va_P D vwCl (wI y q F) H → va_D A (wI y q F) → va_S A s.heap H locs → lv_has ls 2 [(0, .ref (q 0)), (1, .int v1)] → f_X0_dryAndRide_L2 N k v1 F = some (x_2, F_3) → W p l e ({ frames := 1, cells := 0, slots := 0, locals := 22 } : Room) s m ([.ref (q 0)] : List Value).toArray below meth c H locs 0 0 (MQ below (pQv D y (wI y q res) A) ([.ref (q 0)] : List Value).toArray s 0 0 A) (F0 m 2 ls []) := by
    intro k
    induction k with
    | zero =>
      intro v1 F K2_1 H locs ls hP hD hS hl h
      have h : (none : Option (Int32 × (Nat → Nat → Int32))) = some _ := h
      cases h
    | succ k ih2_1 =>
      intro v1 F K2_1 H locs ls hP hD hS hl h
      rw [f_X0_dryAndRide_L2] at h
      refine lv_iload_n hx hb dX0_dryAndRide_2 rfl (lv_at hl 1 rfl) ?_
      refine lv_aload_n hx hb dX0_dryAndRide_3 rfl (lv_at hl 0 rfl) ?_
      refine va_get (D := D) (ci := 0) (v := .int (F 0 4)) (C := RX0) (T := TX0) (N := 13) hx hb hts uX0_dryAndRide_X0 hown hK hP 0 rfl rfl 4 (by decide) (hts _ kX0_dryAndRide_8) (fun _ h9 => h9) rfl dX0_dryAndRide_4 ?_
      refine lv_icmp_ge (tgt := 56) hx hb dX0_dryAndRide_7 (by decide) (fun c_4 => ?_) (fun c_4 => ?_)
      · have h := q_t c_4 h
        cases h
        exact K2_1 _ _ _ hP hD hS (lv_sub hl [0, 1] rfl)
      · have h := q_f c_4 h
        refine lv_aload_n hx hb dX0_dryAndRide_10 rfl (lv_at hl 0 rfl) ?_
        refine lv_iload_n hx hb dX0_dryAndRide_11 rfl (lv_at hl 1 rfl) ?_
        obtain ⟨r_5, hc_6, h⟩ := q_bd_ok h
        refine q_ci (r := r_5) (va_runV (As := [.int v1]) (rest := []) ⟨hx, hb, hml, hown, hts⟩ (c_X0_isOn l D y t q _ N F v1 r_5 hc_6) (cwV 1 hts gX0_dryAndRide_X0_isOn rfl rfl rfl eX0_isOn ⟨Nat.le_of_ble_eq_true rfl, Nat.le_of_ble_eq_true rfl⟩) ⟨q_blind, (va_recv hK hP (ci := 0) (q0 := 0) rfl rfl), (q_pre hP hK hZ hD hA hS [0, 1, 2, 3, 4, 5, 6] rfl (by decide))⟩ rfl rfl hl.1 rfl (lv_room (Nat.le_of_ble_eq_true rfl)) dX0_dryAndRide_12 ⟨Nat.zero_le _, Nat.zero_le _⟩) hP hD hA hS [0, 1, 2, 3, 4, 5, 6] rfl (by decide) rfl (fun H locs hP hD hS => ?_)
        have hP : va_P D vwCl (wI y q F) H := hP
        have hD : va_D A (wI y q F) := hD
        refine lv_if_eq (tgt := 50) hx hb dX0_dryAndRide_15 (by decide) (fun c_7 => ?_) (fun c_7 => ?_)
        · have h := q_t c_7 h
          obtain ⟨x_8, ex_8, h⟩ := q_let_ok h
          refine lv_iinc (v := x_8) (lv' := [(1, .int x_8), (0, .ref (q 0))]) hx hb dX0_dryAndRide_50 hl (k := 1) rfl (by rw [ex_8]; rfl) (by decide) rfl (fun ls hl => ?_)
          refine lv_goto (tgt := 2) hx hb dX0_dryAndRide_53 (by decide) ?_
          exact ih2_1 x_8 F K2_1 _ _ _ hP hD hS (lv_sub hl [1, 0] rfl) h
        · have h := q_f c_7 h
          refine lv_aload_n hx hb dX0_dryAndRide_18 rfl (lv_at hl 0 rfl) ?_
          refine va_get (D := D) (ci := 0) (v := .ref (q 4)) (C := RX0) (T := TX0) (N := 13) hx hb hts uX0_dryAndRide_X0 hown hK hP 0 rfl rfl 10 (by decide) (hts _ kX0_dryAndRide_7) (fun _ h9 => h9) rfl dX0_dryAndRide_19 ?_
          refine lv_iload_n hx hb dX0_dryAndRide_22 rfl (lv_at hl 1 rfl) ?_
          refine lv_iconst (v := 0) hx hb dX0_dryAndRide_23 (by decide) ?_
          refine lv_aload_n hx hb dX0_dryAndRide_24 rfl (lv_at hl 0 rfl) ?_
          refine va_get (D := D) (ci := 0) (v := .ref (q 4)) (C := RX0) (T := TX0) (N := 13) hx hb hts uX0_dryAndRide_X0 hown hK hP 0 rfl rfl 10 (by decide) (hts _ kX0_dryAndRide_7) (fun _ h9 => h9) rfl dX0_dryAndRide_25 ?_
          refine lv_iload_n hx hb dX0_dryAndRide_28 rfl (lv_at hl 1 rfl) ?_
          obtain ⟨z_9, h⟩ := q_grd_ok h
          refine va_iald hx hb hK hP 4 0 rfl rfl z_9 dX0_dryAndRide_29 ?_
          refine lv_aload_n hx hb dX0_dryAndRide_30 rfl (lv_at hl 0 rfl) ?_
          refine lv_iload_n hx hb dX0_dryAndRide_31 rfl (lv_at hl 1 rfl) ?_
          obtain ⟨r_10, hc_11, h⟩ := q_bd_ok h
          refine q_ci (r := r_10) (va_runV (As := [.int v1]) (rest := [.int (F 4 v1.toNatClampNeg), .int (0 : Int32), .int v1, .ref (q 4)]) ⟨hx, hb, hml, hown, hts⟩ (c_X0_dries l D y t q _ N F v1 r_10 hc_11) (cwV 1 hts gX0_dryAndRide_X0_dries rfl rfl rfl eX0_dries ⟨Nat.le_of_ble_eq_true rfl, Nat.le_of_ble_eq_true rfl⟩) ⟨q_blind, (va_recv hK hP (ci := 0) (q0 := 0) rfl rfl), (q_pre hP hK hZ hD hA hS [0, 1, 2, 3, 4, 5, 6] rfl (by decide))⟩ rfl rfl hl.1 rfl (lv_room (Nat.le_of_ble_eq_true rfl)) dX0_dryAndRide_32 ⟨Nat.zero_le _, Nat.zero_le _⟩) hP hD hA hS [0, 1, 2, 3, 4, 5, 6] rfl (by decide) rfl (fun H locs hP hD hS => ?_)
          have hP : va_P D vwCl (wI y q F) H := hP
          have hD : va_D A (wI y q F) := hD
          refine lv_isub hx hb dX0_dryAndRide_35 ?_
          refine va_mmax hx hb (hml.trans hl.1.symm) hown (hts _ kX0_dryAndRide_0) (hts _ kX0_dryAndRide_1) (hts _ kX0_dryAndRide_2) (hts _ kX0_dryAndRide_3) (Nat.le_of_ble_eq_true rfl) (Nat.le_of_ble_eq_true rfl) (Nat.zero_le _) (Nat.zero_le _) dX0_dryAndRide_36 ?_
          refine lv_topi (fun x_12 ex_12 => ?_)
          have h := q_let_at ex_12 h
          obtain ⟨z_13, h⟩ := q_grd_ok h
          obtain ⟨F_14, eF_14, h⟩ := q_let_ok h
          refine va_iast hx hb hK hP hD hS 4 0 rfl rfl z_13 dX0_dryAndRide_39 (fun H locs hP hD hS => ?_)
          have hP : va_P D vwCl (wI y q F_14) H := by rw [eF_14]; exact hP
          have hD : va_D A (wI y q F_14) := by rw [eF_14]; exact hD
          refine lv_aload_n hx hb dX0_dryAndRide_40 rfl (lv_at hl 0 rfl) ?_
          refine va_get (D := D) (ci := 0) (v := .ref (q 2)) (C := RX0) (T := TX0) (N := 13) hx hb hts uX0_dryAndRide_X0 hown hK hP 0 rfl rfl 8 (by decide) (hts _ kX0_dryAndRide_6) (fun _ h9 => h9) rfl dX0_dryAndRide_41 ?_
          refine lv_iload_n hx hb dX0_dryAndRide_44 rfl (lv_at hl 1 rfl) ?_
          refine lv_aload_n hx hb dX0_dryAndRide_45 rfl (lv_at hl 0 rfl) ?_
          refine va_get (D := D) (ci := 0) (v := .int (F_14 0 1)) (C := RX0) (T := TX0) (N := 13) hx hb hts uX0_dryAndRide_X0 hown hK hP 0 rfl rfl 1 (by decide) (hts _ kX0_dryAndRide_5) (fun _ h9 => h9) rfl dX0_dryAndRide_46 ?_
          obtain ⟨z_15, h⟩ := q_grd_ok h
          obtain ⟨F_16, eF_16, h⟩ := q_let_ok h
          refine va_iast hx hb hK hP hD hS 2 0 rfl rfl z_15 dX0_dryAndRide_49 (fun H locs hP hD hS => ?_)
          have hP : va_P D vwCl (wI y q F_16) H := by rw [eF_16]; exact hP
          have hD : va_D A (wI y q F_16) := by rw [eF_16]; exact hD
          obtain ⟨x_17, ex_17, h⟩ := q_let_ok h
          refine lv_iinc (v := x_17) (lv' := [(1, .int x_17), (0, .ref (q 0))]) hx hb dX0_dryAndRide_50 hl (k := 1) rfl (by rw [ex_17]; rfl) (by decide) rfl (fun ls hl => ?_)
          refine lv_goto (tgt := 2) hx hb dX0_dryAndRide_53 (by decide) ?_
          exact ih2_1 x_17 F_16 K2_1 _ _ _ hP hD hS (lv_sub hl [1, 0] rfl) h
  exact L2_1 N (0 : Int32) F K2_1 _ _ _ hP hD hS (lv_sub hl [1, 0] rfl) hL1
theorem eX0_dryAndRide : yX0_dryAndRide.cls = RX0 ∧ yX0_dryAndRide.cls ≠ "java/lang/invoke/MethodHandle" ∧ yX0_dryAndRide.cls ≠ "java/lang/invoke/VarHandle" ∧ (parseMethodDescriptor yX0_dryAndRide.desc).map (fun d => d.parameters.length) = some 0 := by decide +kernel
theorem uX0_goSeconds_X0 : ∀ w ∈ u_ws RX0 TX0 13, w ∈ wsX0_goSeconds := by decide +kernel
theorem kX0_goSeconds_1 : Cond.fieldLink RX0 15 "BeamSeats$Island" "bearing" "I" ∈ wsX0_goSeconds := List.mem_of_getElem? (i := 3) (by decide +kernel)
theorem kX0_goSeconds_2 : Cond.fieldLink RX0 18 "BeamSeats$Island" "speed" "I" ∈ wsX0_goSeconds := List.mem_of_getElem? (i := 2) (by decide +kernel)
theorem kX0_goSeconds_3 : Cond.fieldLink RX0 9 "BeamSeats$Island" "second" "I" ∈ wsX0_goSeconds := List.mem_of_getElem? (i := 4) (by decide +kernel)
theorem kX0_goSeconds_4 : Cond.fieldLink RX0 27 "BeamSeats$Island" "onSet" "I" ∈ wsX0_goSeconds := List.mem_of_getElem? (i := 1) (by decide +kernel)
def f_X0_goSeconds_L15 (N : Nat) (v1 : Int32) (v2 : Int32) (v3 : Int32) : Nat → Int32 → (Nat → Nat → Int32) → Option (Int32 × (Nat → Nat → Int32))
  | 0, _, _ => none
  | k + 1, v4, F =>
    if (F 0 2) ≤ v4 then
      some (v4, F)
    else
      if (F 0 1) < (59 : Int32) then
        q_let (q_up F 0 1 ((F 0 1) + (1 : Int32))) (fun F_11 =>
        q_bd (f_X0_passBearing N F_11 v3) (fun F_12 =>
        q_let (v4 + 1) (fun x_14 =>
        f_X0_goSeconds_L15 N v1 v2 v3 k x_14 F_12)))
      else
        q_let (q_up F 0 1 (0 : Int32)) (fun F_15 =>
        q_bd (f_X0_passBearing N F_15 v3) (fun F_16 =>
        q_let (v4 + 1) (fun x_18 =>
        f_X0_goSeconds_L15 N v1 v2 v3 k x_18 F_16)))
def f_X0_goSeconds_L2 (N : Nat) (v1 : Int32) : Nat → Int32 → (Nat → Nat → Int32) → Option (Int32 × (Nat → Nat → Int32))
  | 0, _, _ => none
  | k + 1, v2, F =>
    if v1 ≤ v2 then
      some (v2, F)
    else
      q_let (F 0 5) (fun x_5 =>
      q_bd2 (f_X0_goSeconds_L15 N v1 v2 x_5 N (0 : Int32) F) (fun x_7 F_8 =>
      q_bd (f_X0_dryAndRide N F_8) (fun F_19 =>
      q_let (q_up F_19 0 0 ((F_19 0 0) + (1 : Int32))) (fun F_21 =>
      q_let (v2 + 1) (fun x_22 =>
      f_X0_goSeconds_L2 N v1 k x_22 F_21)))))
def f_X0_goSeconds (N : Nat) (F : Nat → Nat → Int32) (p1 : Int32) : Option ((Nat → Nat → Int32)) :=
  q_bd2 (f_X0_goSeconds_L2 N p1 N (0 : Int32) F) (fun x_2 F_3 =>
  some F_3)
set_option maxHeartbeats 4000000 in
set_option maxRecDepth 100000 in
theorem c_X0_goSeconds (l : Launch) (D : va_G) (y : Nat → ClassId) (t : Nat → Nat) (q : Nat → Nat) (sz N : Nat) (F : Nat → Nat → Int32) (p1 : Int32) (res : (Nat → Nat → Int32)) (h : f_X0_goSeconds N F p1 = some res) : Met l yX0_goSeconds wsX0_goSeconds ({ frames := 4, cells := 0, slots := 0, locals := 89 } : Room) (pPre D y t [.ref (q 0), .int p1] (wI y q F) sz) (pQv D y (wI y q res) (va_A (wI y q F) sz)) 0 0 (va_A (wI y q F) sz) := by
  refine q_start (Qc := (fun A => pQv D y (wI y q res) A)) (cc := cX0_goSeconds) (maxL := 5) (ret := none) (by decide) rfl (Nat.le_of_ble_eq_true rfl) ?_
  intro p e s m below meth c A ls hx hb hr hts hown hlocks hmn hml hP hK hZ hD hA hS hl
  have hl : lv_has ls 5 [(0, .ref (q 0)), (1, .int p1)] := hl
  have hown : s.vm.findClass RX0 = some m.cls := hown
  unfold f_X0_goSeconds at h
  refine lv_iconst (v := 0) hx hb dX0_goSeconds_0 (by decide) ?_
  refine lv_istore_n (lv' := [(2, .int (0 : Int32)), (0, .ref (q 0)), (1, .int p1)]) hx hb dX0_goSeconds_1 rfl hl (by decide) rfl (fun ls hl => ?_)
  obtain ⟨x_2, F_3, hL1, h⟩ := q_bd2_ok h
  have K2_1 : ∀ (H : Heap) (locs : List Loc) (ls : Array Slot), va_P D vwCl (wI y q F_3) H → va_D A (wI y q F_3) → va_S A s.heap H locs → lv_has ls 5 [(0, .ref (q 0)), (1, .int p1), (2, .int x_2)] → W p l e ({ frames := 4, cells := 0, slots := 0, locals := 89 } : Room) s m ([.ref (q 0), .int p1] : List Value).toArray below meth c H locs 0 0 (MQ below (pQv D y (wI y q res) A) ([.ref (q 0), .int p1] : List Value).toArray s 0 0 A) (F0 m 78 ls []) := by
    intro H locs ls hP hD hS hl
    have e9 := Option.some.inj h
    exact q_vret hx hb hr hlocks hK hP hD hS dX0_goSeconds_78 (by first | rw [← e9] | rfl)
  have L2_1 : ∀ (v1 : Int32) (k : Nat) (v2 : Int32) (F : Nat → Nat → Int32), (∀ (H : Heap) (locs : List Loc) (ls : Array Slot), va_P D vwCl (wI y q F_3) H → va_D A (wI y q F_3) → va_S A s.heap H locs → lv_has ls 5 [(0, .ref (q 0)), (1, .int v1), (2, .int x_2)] → W p l e ({ frames := 4, cells := 0, slots := 0, locals := 89 } : Room) s m ([.ref (q 0), .int p1] : List Value).toArray below meth c H locs 0 0 (MQ below (pQv D y (wI y q res) A) ([.ref (q 0), .int p1] : List Value).toArray s 0 0 A) (F0 m 78 ls [])) → ∀ (H : Heap) (locs : List Loc) (ls : Array Slot), va_P D vwCl (wI y q F) H → va_D A (wI y q F) → va_S A s.heap H locs → lv_has ls 5 [(0, .ref (q 0)), (1, .int v1), (2, .int v2)] → f_X0_goSeconds_L2 N v1 k v2 F = some (x_2, F_3) → W p l e ({ frames := 4, cells := 0, slots := 0, locals := 89 } : Room) s m ([.ref (q 0), .int p1] : List Value).toArray below meth c H locs 0 0 (MQ below (pQv D y (wI y q res) A) ([.ref (q 0), .int p1] : List Value).toArray s 0 0 A) (F0 m 2 ls []) := by
    intro v1 k
    induction k with
    | zero =>
      intro v2 F K2_1 H locs ls hP hD hS hl h
      have h : (none : Option (Int32 × (Nat → Nat → Int32))) = some _ := h
      cases h
    | succ k ih2_1 =>
      intro v2 F K2_1 H locs ls hP hD hS hl h
      rw [f_X0_goSeconds_L2] at h
      refine lv_iload_n hx hb dX0_goSeconds_2 rfl (lv_at hl 2 rfl) ?_
      refine lv_iload_n hx hb dX0_goSeconds_3 rfl (lv_at hl 1 rfl) ?_
      refine lv_icmp_ge (tgt := 78) hx hb dX0_goSeconds_4 (by decide) (fun c_4 => ?_) (fun c_4 => ?_)
      · have h := q_t c_4 h
        cases h
        exact K2_1 _ _ _ hP hD hS (lv_sub hl [0, 1, 2] rfl)
      · have h := q_f c_4 h
        refine lv_aload_n hx hb dX0_goSeconds_7 rfl (lv_at hl 0 rfl) ?_
        refine va_get (D := D) (ci := 0) (v := .int (F 0 5)) (C := RX0) (T := TX0) (N := 13) hx hb hts uX0_goSeconds_X0 hown hK hP 0 rfl rfl 5 (by decide) (hts _ kX0_goSeconds_4) (fun _ h9 => h9) rfl dX0_goSeconds_8 ?_
        refine lv_topi (fun x_5 ex_5 => ?_)
        have h := q_let_at ex_5 h
        refine lv_istore_n (lv' := [(3, .int x_5), (0, .ref (q 0)), (1, .int v1), (2, .int v2)]) hx hb dX0_goSeconds_11 rfl hl (by decide) rfl (fun ls hl => ?_)
        refine lv_iconst (v := 0) hx hb dX0_goSeconds_12 (by decide) ?_
        refine lv_istore (lv' := [(4, .int (0 : Int32)), (3, .int x_5), (0, .ref (q 0)), (1, .int v1), (2, .int v2)]) hx hb dX0_goSeconds_13 hl (by decide) rfl (fun ls hl => ?_)
        obtain ⟨x_7, F_8, hL6, h⟩ := q_bd2_ok h
        have K15_6 : ∀ (H : Heap) (locs : List Loc) (ls : Array Slot), va_P D vwCl (wI y q F_8) H → va_D A (wI y q F_8) → va_S A s.heap H locs → lv_has ls 5 [(0, .ref (q 0)), (1, .int v1), (2, .int v2), (3, .int x_5), (4, .int x_7)] → W p l e ({ frames := 4, cells := 0, slots := 0, locals := 89 } : Room) s m ([.ref (q 0), .int p1] : List Value).toArray below meth c H locs 0 0 (MQ below (pQv D y (wI y q res) A) ([.ref (q 0), .int p1] : List Value).toArray s 0 0 A) (F0 m 58 ls []) := by
          intro H locs ls hP hD hS hl
          refine lv_aload_n hx hb dX0_goSeconds_58 rfl (lv_at hl 0 rfl) ?_
          obtain ⟨F_19, hc_20, h⟩ := q_bd_ok h
          refine q_cv (va_runV (As := []) (rest := []) ⟨hx, hb, hml, hown, hts⟩ (c_X0_dryAndRide l D y t q _ N F_8 F_19 hc_20) (cwV 0 hts gX0_goSeconds_X0_dryAndRide rfl rfl rfl eX0_dryAndRide ⟨Nat.le_of_ble_eq_true rfl, Nat.le_of_ble_eq_true rfl⟩) ⟨q_blind, (va_recv hK hP (ci := 0) (q0 := 0) rfl rfl), (q_pre hP hK hZ hD hA hS [0, 1, 2, 3, 4, 5, 6] rfl (by decide))⟩ rfl rfl hl.1 rfl (lv_room (Nat.le_of_ble_eq_true rfl)) dX0_goSeconds_59 ⟨Nat.zero_le _, Nat.zero_le _⟩) hP hD hA hS [0, 1, 2, 3, 4, 5, 6] rfl (by decide) rfl (fun H locs hP hD hS => ?_)
          have hP : va_P D vwCl (wI y q F_19) H := hP
          have hD : va_D A (wI y q F_19) := hD
          refine lv_aload_n hx hb dX0_goSeconds_62 rfl (lv_at hl 0 rfl) ?_
          refine lv_dup hx hb dX0_goSeconds_63 rfl ?_
          refine va_get (D := D) (ci := 0) (v := .int (F_19 0 0)) (C := RX0) (T := TX0) (N := 13) hx hb hts uX0_goSeconds_X0 hown hK hP 0 rfl rfl 0 (by decide) (hts _ kX0_goSeconds_3) (fun _ h9 => h9) rfl dX0_goSeconds_64 ?_
          refine lv_iconst (v := 1) hx hb dX0_goSeconds_67 (by decide) ?_
          refine lv_iadd hx hb dX0_goSeconds_68 ?_
          obtain ⟨F_21, eF_21, h⟩ := q_let_ok h
          refine va_put (D := D) (ci := 0) (v := .int ((F_19 0 0) + (1 : Int32))) (ty := .int) (C := RX0) (T := TX0) (N := 13) hx hb hts uX0_goSeconds_X0 tyX0 tyX0_ok nmX0 hown hK hP hD hS 0 rfl rfl 0 (by decide) (hts _ kX0_goSeconds_3) (fun _ h9 => h9) rfl (by decide +kernel) rfl rfl (Nat.le_of_ble_eq_true rfl) dX0_goSeconds_69 (fun H locs hP hD hS => ?_)
          have hP : va_P D vwCl (wI y q F_21) H := by rw [eF_21]; exact hP
          have hD : va_D A (wI y q F_21) := by rw [eF_21]; exact hD
          obtain ⟨x_22, ex_22, h⟩ := q_let_ok h
          refine lv_iinc (v := x_22) (lv' := [(2, .int x_22), (0, .ref (q 0)), (1, .int v1), (3, .int x_5), (4, .int x_7)]) hx hb dX0_goSeconds_72 hl (k := 2) rfl (by rw [ex_22]; rfl) (by decide) rfl (fun ls hl => ?_)
          refine lv_goto (tgt := 2) hx hb dX0_goSeconds_75 (by decide) ?_
          exact ih2_1 x_22 F_21 K2_1 _ _ _ hP hD hS (lv_sub hl [1, 2, 0] rfl) h
        have L15_6 : ∀ (v1 : Int32) (v2 : Int32) (v3 : Int32) (k : Nat) (v4 : Int32) (F : Nat → Nat → Int32), (∀ (H : Heap) (locs : List Loc) (ls : Array Slot), va_P D vwCl (wI y q F_8) H → va_D A (wI y q F_8) → va_S A s.heap H locs → lv_has ls 5 [(0, .ref (q 0)), (1, .int v1), (2, .int v2), (3, .int v3), (4, .int x_7)] → W p l e ({ frames := 4, cells := 0, slots := 0, locals := 89 } : Room) s m ([.ref (q 0), .int p1] : List Value).toArray below meth c H locs 0 0 (MQ below (pQv D y (wI y q res) A) ([.ref (q 0), .int p1] : List Value).toArray s 0 0 A) (F0 m 58 ls [])) → ∀ (H : Heap) (locs : List Loc) (ls : Array Slot), va_P D vwCl (wI y q F) H → va_D A (wI y q F) → va_S A s.heap H locs → lv_has ls 5 [(0, .ref (q 0)), (1, .int v1), (2, .int v2), (3, .int v3), (4, .int v4)] → f_X0_goSeconds_L15 N v1 v2 v3 k v4 F = some (x_7, F_8) → W p l e ({ frames := 4, cells := 0, slots := 0, locals := 89 } : Room) s m ([.ref (q 0), .int p1] : List Value).toArray below meth c H locs 0 0 (MQ below (pQv D y (wI y q res) A) ([.ref (q 0), .int p1] : List Value).toArray s 0 0 A) (F0 m 15 ls []) := by
          intro v1 v2 v3 k
          induction k with
          | zero =>
            intro v4 F K15_6 H locs ls hP hD hS hl h
            have h : (none : Option (Int32 × (Nat → Nat → Int32))) = some _ := h
            cases h
          | succ k ih15_6 =>
            intro v4 F K15_6 H locs ls hP hD hS hl h
            rw [f_X0_goSeconds_L15] at h
            refine lv_iload hx hb dX0_goSeconds_15 (lv_at hl 4 rfl) ?_
            refine lv_aload_n hx hb dX0_goSeconds_17 rfl (lv_at hl 0 rfl) ?_
            refine va_get (D := D) (ci := 0) (v := .int (F 0 2)) (C := RX0) (T := TX0) (N := 13) hx hb hts uX0_goSeconds_X0 hown hK hP 0 rfl rfl 2 (by decide) (hts _ kX0_goSeconds_2) (fun _ h9 => h9) rfl dX0_goSeconds_18 ?_
            refine lv_icmp_ge (tgt := 58) hx hb dX0_goSeconds_21 (by decide) (fun c_9 => ?_) (fun c_9 => ?_)
            · have h := q_t c_9 h
              cases h
              exact K15_6 _ _ _ hP hD hS (lv_sub hl [0, 1, 2, 3, 4] rfl)
            · have h := q_f c_9 h
              refine lv_aload_n hx hb dX0_goSeconds_24 rfl (lv_at hl 0 rfl) ?_
              refine lv_aload_n hx hb dX0_goSeconds_25 rfl (lv_at hl 0 rfl) ?_
              refine va_get (D := D) (ci := 0) (v := .int (F 0 1)) (C := RX0) (T := TX0) (N := 13) hx hb hts uX0_goSeconds_X0 hown hK hP 0 rfl rfl 1 (by decide) (hts _ kX0_goSeconds_1) (fun _ h9 => h9) rfl dX0_goSeconds_26 ?_
              refine lv_bipush (v := 59) hx hb dX0_goSeconds_29 (by decide) ?_
              refine lv_icmp_lt (tgt := 38) hx hb dX0_goSeconds_31 (by decide) (fun c_10 => ?_) (fun c_10 => ?_)
              · have h := q_t c_10 h
                refine lv_aload_n hx hb dX0_goSeconds_38 rfl (lv_at hl 0 rfl) ?_
                refine va_get (D := D) (ci := 0) (v := .int (F 0 1)) (C := RX0) (T := TX0) (N := 13) hx hb hts uX0_goSeconds_X0 hown hK hP 0 rfl rfl 1 (by decide) (hts _ kX0_goSeconds_1) (fun _ h9 => h9) rfl dX0_goSeconds_39 ?_
                refine lv_iconst (v := 1) hx hb dX0_goSeconds_42 (by decide) ?_
                refine lv_iadd hx hb dX0_goSeconds_43 ?_
                obtain ⟨F_11, eF_11, h⟩ := q_let_ok h
                refine va_put (D := D) (ci := 0) (v := .int ((F 0 1) + (1 : Int32))) (ty := .int) (C := RX0) (T := TX0) (N := 13) hx hb hts uX0_goSeconds_X0 tyX0 tyX0_ok nmX0 hown hK hP hD hS 0 rfl rfl 1 (by decide) (hts _ kX0_goSeconds_1) (fun _ h9 => h9) rfl (by decide +kernel) rfl rfl (Nat.le_of_ble_eq_true rfl) dX0_goSeconds_44 (fun H locs hP hD hS => ?_)
                have hP : va_P D vwCl (wI y q F_11) H := by rw [eF_11]; exact hP
                have hD : va_D A (wI y q F_11) := by rw [eF_11]; exact hD
                refine lv_aload_n hx hb dX0_goSeconds_47 rfl (lv_at hl 0 rfl) ?_
                refine lv_iload_n hx hb dX0_goSeconds_48 rfl (lv_at hl 3 rfl) ?_
                obtain ⟨F_12, hc_13, h⟩ := q_bd_ok h
                refine q_cv (va_runV (As := [.int v3]) (rest := []) ⟨hx, hb, hml, hown, hts⟩ (c_X0_passBearing l D y t q _ N F_11 v3 F_12 hc_13) (cwV 1 hts gX0_goSeconds_X0_passBearing rfl rfl rfl eX0_passBearing ⟨Nat.le_of_ble_eq_true rfl, Nat.le_of_ble_eq_true rfl⟩) ⟨q_blind, (va_recv hK hP (ci := 0) (q0 := 0) rfl rfl), (q_pre hP hK hZ hD hA hS [0, 1, 2, 3, 4, 5, 6] rfl (by decide))⟩ rfl rfl hl.1 rfl (lv_room (Nat.le_of_ble_eq_true rfl)) dX0_goSeconds_49 ⟨Nat.zero_le _, Nat.zero_le _⟩) hP hD hA hS [0, 1, 2, 3, 4, 5, 6] rfl (by decide) rfl (fun H locs hP hD hS => ?_)
                have hP : va_P D vwCl (wI y q F_12) H := hP
                have hD : va_D A (wI y q F_12) := hD
                obtain ⟨x_14, ex_14, h⟩ := q_let_ok h
                refine lv_iinc (v := x_14) (lv' := [(4, .int x_14), (0, .ref (q 0)), (1, .int v1), (2, .int v2), (3, .int v3)]) hx hb dX0_goSeconds_52 hl (k := 4) rfl (by rw [ex_14]; rfl) (by decide) rfl (fun ls hl => ?_)
                refine lv_goto (tgt := 15) hx hb dX0_goSeconds_55 (by decide) ?_
                exact ih15_6 x_14 F_12 K15_6 _ _ _ hP hD hS (lv_sub hl [1, 2, 3, 4, 0] rfl) h
              · have h := q_f c_10 h
                refine lv_iconst (v := 0) hx hb dX0_goSeconds_34 (by decide) ?_
                refine lv_goto (tgt := 44) hx hb dX0_goSeconds_35 (by decide) ?_
                obtain ⟨F_15, eF_15, h⟩ := q_let_ok h
                refine va_put (D := D) (ci := 0) (v := .int (0 : Int32)) (ty := .int) (C := RX0) (T := TX0) (N := 13) hx hb hts uX0_goSeconds_X0 tyX0 tyX0_ok nmX0 hown hK hP hD hS 0 rfl rfl 1 (by decide) (hts _ kX0_goSeconds_1) (fun _ h9 => h9) rfl (by decide +kernel) rfl rfl (Nat.le_of_ble_eq_true rfl) dX0_goSeconds_44 (fun H locs hP hD hS => ?_)
                have hP : va_P D vwCl (wI y q F_15) H := by rw [eF_15]; exact hP
                have hD : va_D A (wI y q F_15) := by rw [eF_15]; exact hD
                refine lv_aload_n hx hb dX0_goSeconds_47 rfl (lv_at hl 0 rfl) ?_
                refine lv_iload_n hx hb dX0_goSeconds_48 rfl (lv_at hl 3 rfl) ?_
                obtain ⟨F_16, hc_17, h⟩ := q_bd_ok h
                refine q_cv (va_runV (As := [.int v3]) (rest := []) ⟨hx, hb, hml, hown, hts⟩ (c_X0_passBearing l D y t q _ N F_15 v3 F_16 hc_17) (cwV 1 hts gX0_goSeconds_X0_passBearing rfl rfl rfl eX0_passBearing ⟨Nat.le_of_ble_eq_true rfl, Nat.le_of_ble_eq_true rfl⟩) ⟨q_blind, (va_recv hK hP (ci := 0) (q0 := 0) rfl rfl), (q_pre hP hK hZ hD hA hS [0, 1, 2, 3, 4, 5, 6] rfl (by decide))⟩ rfl rfl hl.1 rfl (lv_room (Nat.le_of_ble_eq_true rfl)) dX0_goSeconds_49 ⟨Nat.zero_le _, Nat.zero_le _⟩) hP hD hA hS [0, 1, 2, 3, 4, 5, 6] rfl (by decide) rfl (fun H locs hP hD hS => ?_)
                have hP : va_P D vwCl (wI y q F_16) H := hP
                have hD : va_D A (wI y q F_16) := hD
                obtain ⟨x_18, ex_18, h⟩ := q_let_ok h
                refine lv_iinc (v := x_18) (lv' := [(4, .int x_18), (0, .ref (q 0)), (1, .int v1), (2, .int v2), (3, .int v3)]) hx hb dX0_goSeconds_52 hl (k := 4) rfl (by rw [ex_18]; rfl) (by decide) rfl (fun ls hl => ?_)
                refine lv_goto (tgt := 15) hx hb dX0_goSeconds_55 (by decide) ?_
                exact ih15_6 x_18 F_16 K15_6 _ _ _ hP hD hS (lv_sub hl [1, 2, 3, 4, 0] rfl) h
        exact L15_6 v1 v2 x_5 N (0 : Int32) F K15_6 _ _ _ hP hD hS (lv_sub hl [2, 3, 4, 1, 0] rfl) hL6
  exact L2_1 p1 N (0 : Int32) F K2_1 _ _ _ hP hD hS (lv_sub hl [1, 2, 0] rfl) hL1
theorem eX0_goSeconds : yX0_goSeconds.cls = RX0 ∧ yX0_goSeconds.cls ≠ "java/lang/invoke/MethodHandle" ∧ yX0_goSeconds.cls ≠ "java/lang/invoke/VarHandle" ∧ (parseMethodDescriptor yX0_goSeconds.desc).map (fun d => d.parameters.length) = some 1 := by decide +kernel
theorem uX0_isSo_X0 : ∀ w ∈ u_ws RX0 TX0 13, w ∈ wsX0_isSo := by decide +kernel
theorem kX0_isSo_1 : Cond.fieldLink RX0 43 "BeamSeats$Island" "wets" "[I" ∈ wsX0_isSo := List.mem_of_getElem? (i := 1) (by decide +kernel)
theorem kX0_isSo_2 : Cond.fieldLink RX0 46 "BeamSeats$Island" "goals" "[I" ∈ wsX0_isSo := List.mem_of_getElem? (i := 3) (by decide +kernel)
theorem kX0_isSo_3 : Cond.fieldLink RX0 37 "BeamSeats$Island" "places" "[I" ∈ wsX0_isSo := List.mem_of_getElem? (i := 2) (by decide +kernel)
def f_X0_isSo (N : Nat) (F : Nat → Nat → Int32) (p1 : Int32) (p2 : Int32) : Option (Int32) :=
  if p2 = 0 then
    q_bd (f_X0_isOn N F p1) (fun r_2 =>
    q_gb r_2 (some r_2))
  else
    if p2 = 1 then
      q_grd p1 8 (
      if (F 4 p1.toNatClampNeg) = 0 then
        some (1 : Int32)
      else
        some (0 : Int32))
    else
      if p2 = 2 then
        q_bd (f_X0_isLost N F p1) (fun r_8 =>
        q_gb r_8 (some r_8))
      else
        q_grd p1 8 (
        q_grd p1 8 (
        if (F 2 p1.toNatClampNeg) = (F 5 p1.toNatClampNeg) then
          q_bd (f_X0_isOn N F p1) (fun r_13 =>
          if r_13 = 0 then
            some (1 : Int32)
          else
            some (0 : Int32))
        else
          some (0 : Int32)))
set_option maxHeartbeats 4000000 in
set_option maxRecDepth 100000 in
theorem c_X0_isSo (l : Launch) (D : va_G) (y : Nat → ClassId) (t : Nat → Nat) (q : Nat → Nat) (sz N : Nat) (F : Nat → Nat → Int32) (p1 : Int32) (p2 : Int32) (res : Int32) (h : f_X0_isSo N F p1 p2 = some res) : Met l yX0_isSo wsX0_isSo ({ frames := 1, cells := 0, slots := 0, locals := 21 } : Room) (pPre D y t [.ref (q 0), .int p1, .int p2] (wI y q F) sz) (pQi D y res (wI y q F) (va_A (wI y q F) sz)) 0 0 (va_A (wI y q F) sz) := by
  refine q_start (Qc := (fun A => pQi D y res (wI y q F) A)) (cc := cX0_isSo) (maxL := 3) (ret := (some .boolean)) (by decide) rfl (Nat.le_of_ble_eq_true rfl) ?_
  intro p e s m below meth c A ls hx hb hr hts hown hlocks hmn hml hP hK hZ hD hA hS hl
  have hl : lv_has ls 3 [(0, .ref (q 0)), (1, .int p1), (2, .int p2)] := hl
  have hown : s.vm.findClass RX0 = some m.cls := hown
  unfold f_X0_isSo at h
  refine lv_iload_n hx hb dX0_isSo_0 rfl (lv_at hl 2 rfl) ?_
  by_cases c_1 : p2 = 0
  · have h := q_t c_1 h
    refine lv_tableIn (tgt := 28) (off := 27) hx hb dX0_isSo_1 (by rw [c_1]; decide) (by rw [c_1]; decide) (by rw [c_1]; rfl) (by decide) ?_
    refine lv_aload_n hx hb dX0_isSo_28 rfl (lv_at hl 0 rfl) ?_
    refine lv_iload_n hx hb dX0_isSo_29 rfl (lv_at hl 1 rfl) ?_
    obtain ⟨r_2, hc_3, h⟩ := q_bd_ok h
    refine q_ci (r := r_2) (va_runV (As := [.int p1]) (rest := []) ⟨hx, hb, hml, hown, hts⟩ (c_X0_isOn l D y t q _ N F p1 r_2 hc_3) (cwV 1 hts gX0_isSo_X0_isOn rfl rfl rfl eX0_isOn ⟨Nat.le_of_ble_eq_true rfl, Nat.le_of_ble_eq_true rfl⟩) ⟨q_blind, (va_recv hK hP (ci := 0) (q0 := 0) rfl rfl), (q_pre hP hK hZ hD hA hS [0, 1, 2, 3, 4, 5, 6] rfl (by decide))⟩ rfl rfl hl.1 rfl (lv_room (Nat.le_of_ble_eq_true rfl)) dX0_isSo_30 ⟨Nat.zero_le _, Nat.zero_le _⟩) hP hD hA hS [0, 1, 2, 3, 4, 5, 6] rfl (by decide) rfl (fun H locs hP hD hS => ?_)
    have hP : va_P D vwCl (wI y q F) H := hP
    have hD : va_D A (wI y q F) := hD
    obtain ⟨hg9, h⟩ := q_gb_ok h
    have e9 := Option.some.inj h
    exact q_zret hx hb hr hlocks hK hP hD hS dX0_isSo_33 (q_gb_nar hg9) (by first | rw [← e9] | rfl) (by first | rw [← e9] | rfl)
  · have h := q_f c_1 h
    by_cases c_4 : p2 = 1
    · have h := q_t c_4 h
      refine lv_tableIn (tgt := 34) (off := 33) hx hb dX0_isSo_1 (by rw [c_4]; decide) (by rw [c_4]; decide) (by rw [c_4]; rfl) (by decide) ?_
      refine lv_aload_n hx hb dX0_isSo_34 rfl (lv_at hl 0 rfl) ?_
      refine va_get (D := D) (ci := 0) (v := .ref (q 4)) (C := RX0) (T := TX0) (N := 13) hx hb hts uX0_isSo_X0 hown hK hP 0 rfl rfl 10 (by decide) (hts _ kX0_isSo_1) (fun _ h9 => h9) rfl dX0_isSo_35 ?_
      refine lv_iload_n hx hb dX0_isSo_38 rfl (lv_at hl 1 rfl) ?_
      obtain ⟨z_5, h⟩ := q_grd_ok h
      refine va_iald hx hb hK hP 4 0 rfl rfl z_5 dX0_isSo_39 ?_
      refine lv_if_ne (tgt := 47) hx hb dX0_isSo_40 (by decide) (fun c_6 => ?_) (fun c_6 => ?_)
      · have h := q_f c_6 h
        refine lv_iconst (v := 0) hx hb dX0_isSo_47 (by decide) ?_
        have e9 := Option.some.inj h
        exact q_zret hx hb hr hlocks hK hP hD hS dX0_isSo_48 rfl (by first | rw [← e9] | rfl) (by first | rw [← e9] | rfl)
      · have h := q_t c_6 h
        refine lv_iconst (v := 1) hx hb dX0_isSo_43 (by decide) ?_
        refine lv_goto (tgt := 48) hx hb dX0_isSo_44 (by decide) ?_
        have e9 := Option.some.inj h
        exact q_zret hx hb hr hlocks hK hP hD hS dX0_isSo_48 rfl (by first | rw [← e9] | rfl) (by first | rw [← e9] | rfl)
    · have h := q_f c_4 h
      by_cases c_7 : p2 = 2
      · have h := q_t c_7 h
        refine lv_tableIn (tgt := 49) (off := 48) hx hb dX0_isSo_1 (by rw [c_7]; decide) (by rw [c_7]; decide) (by rw [c_7]; rfl) (by decide) ?_
        refine lv_aload_n hx hb dX0_isSo_49 rfl (lv_at hl 0 rfl) ?_
        refine lv_iload_n hx hb dX0_isSo_50 rfl (lv_at hl 1 rfl) ?_
        obtain ⟨r_8, hc_9, h⟩ := q_bd_ok h
        refine q_ci (r := r_8) (va_runV (As := [.int p1]) (rest := []) ⟨hx, hb, hml, hown, hts⟩ (c_X0_isLost l D y t q _ N F p1 r_8 hc_9) (cwV 1 hts gX0_isSo_X0_isLost rfl rfl rfl eX0_isLost ⟨Nat.le_of_ble_eq_true rfl, Nat.le_of_ble_eq_true rfl⟩) ⟨q_blind, (va_recv hK hP (ci := 0) (q0 := 0) rfl rfl), (q_pre hP hK hZ hD hA hS [0, 1, 2, 3, 4, 5, 6] rfl (by decide))⟩ rfl rfl hl.1 rfl (lv_room (Nat.le_of_ble_eq_true rfl)) dX0_isSo_51 ⟨Nat.zero_le _, Nat.zero_le _⟩) hP hD hA hS [0, 1, 2, 3, 4, 5, 6] rfl (by decide) rfl (fun H locs hP hD hS => ?_)
        have hP : va_P D vwCl (wI y q F) H := hP
        have hD : va_D A (wI y q F) := hD
        obtain ⟨hg9, h⟩ := q_gb_ok h
        have e9 := Option.some.inj h
        exact q_zret hx hb hr hlocks hK hP hD hS dX0_isSo_54 (q_gb_nar hg9) (by first | rw [← e9] | rfl) (by first | rw [← e9] | rfl)
      · have h := q_f c_7 h
        have nc_1 := lv_neT c_1 (show ((0 : Int32)).toInt = 0 from by decide)
        have nc_4 := lv_neT c_4 (show ((1 : Int32)).toInt = 1 from by decide)
        have nc_7 := lv_neT c_7 (show ((2 : Int32)).toInt = 2 from by decide)
        refine lv_tableOut (tgt := 55) hx hb dX0_isSo_1 (by omega) (by decide) ?_
        refine lv_aload_n hx hb dX0_isSo_55 rfl (lv_at hl 0 rfl) ?_
        refine va_get (D := D) (ci := 0) (v := .ref (q 2)) (C := RX0) (T := TX0) (N := 13) hx hb hts uX0_isSo_X0 hown hK hP 0 rfl rfl 8 (by decide) (hts _ kX0_isSo_3) (fun _ h9 => h9) rfl dX0_isSo_56 ?_
        refine lv_iload_n hx hb dX0_isSo_59 rfl (lv_at hl 1 rfl) ?_
        obtain ⟨z_10, h⟩ := q_grd_ok h
        refine va_iald hx hb hK hP 2 0 rfl rfl z_10 dX0_isSo_60 ?_
        refine lv_aload_n hx hb dX0_isSo_61 rfl (lv_at hl 0 rfl) ?_
        refine va_get (D := D) (ci := 0) (v := .ref (q 5)) (C := RX0) (T := TX0) (N := 13) hx hb hts uX0_isSo_X0 hown hK hP 0 rfl rfl 11 (by decide) (hts _ kX0_isSo_2) (fun _ h9 => h9) rfl dX0_isSo_62 ?_
        refine lv_iload_n hx hb dX0_isSo_65 rfl (lv_at hl 1 rfl) ?_
        obtain ⟨z_11, h⟩ := q_grd_ok h
        refine va_iald hx hb hK hP 5 0 rfl rfl z_11 dX0_isSo_66 ?_
        refine lv_icmp_ne (tgt := 82) hx hb dX0_isSo_67 (by decide) (fun c_12 => ?_) (fun c_12 => ?_)
        · have h := q_f c_12 h
          refine lv_iconst (v := 0) hx hb dX0_isSo_82 (by decide) ?_
          have e9 := Option.some.inj h
          exact q_zret hx hb hr hlocks hK hP hD hS dX0_isSo_83 rfl (by first | rw [← e9] | rfl) (by first | rw [← e9] | rfl)
        · have h := q_t c_12 h
          refine lv_aload_n hx hb dX0_isSo_70 rfl (lv_at hl 0 rfl) ?_
          refine lv_iload_n hx hb dX0_isSo_71 rfl (lv_at hl 1 rfl) ?_
          obtain ⟨r_13, hc_14, h⟩ := q_bd_ok h
          refine q_ci (r := r_13) (va_runV (As := [.int p1]) (rest := []) ⟨hx, hb, hml, hown, hts⟩ (c_X0_isOn l D y t q _ N F p1 r_13 hc_14) (cwV 1 hts gX0_isSo_X0_isOn rfl rfl rfl eX0_isOn ⟨Nat.le_of_ble_eq_true rfl, Nat.le_of_ble_eq_true rfl⟩) ⟨q_blind, (va_recv hK hP (ci := 0) (q0 := 0) rfl rfl), (q_pre hP hK hZ hD hA hS [0, 1, 2, 3, 4, 5, 6] rfl (by decide))⟩ rfl rfl hl.1 rfl (lv_room (Nat.le_of_ble_eq_true rfl)) dX0_isSo_72 ⟨Nat.zero_le _, Nat.zero_le _⟩) hP hD hA hS [0, 1, 2, 3, 4, 5, 6] rfl (by decide) rfl (fun H locs hP hD hS => ?_)
          have hP : va_P D vwCl (wI y q F) H := hP
          have hD : va_D A (wI y q F) := hD
          refine lv_if_ne (tgt := 82) hx hb dX0_isSo_75 (by decide) (fun c_15 => ?_) (fun c_15 => ?_)
          · have h := q_f c_15 h
            refine lv_iconst (v := 0) hx hb dX0_isSo_82 (by decide) ?_
            have e9 := Option.some.inj h
            exact q_zret hx hb hr hlocks hK hP hD hS dX0_isSo_83 rfl (by first | rw [← e9] | rfl) (by first | rw [← e9] | rfl)
          · have h := q_t c_15 h
            refine lv_iconst (v := 1) hx hb dX0_isSo_78 (by decide) ?_
            refine lv_goto (tgt := 83) hx hb dX0_isSo_79 (by decide) ?_
            have e9 := Option.some.inj h
            exact q_zret hx hb hr hlocks hK hP hD hS dX0_isSo_83 rfl (by first | rw [← e9] | rfl) (by first | rw [← e9] | rfl)
theorem eX0_isSo : yX0_isSo.cls = RX0 ∧ yX0_isSo.cls ≠ "java/lang/invoke/MethodHandle" ∧ yX0_isSo.cls ≠ "java/lang/invoke/VarHandle" ∧ (parseMethodDescriptor yX0_isSo.desc).map (fun d => d.parameters.length) = some 2 := by decide +kernel
