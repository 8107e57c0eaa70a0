def wM (y : Nat → ClassId) (q : Nat → Nat) (F : Nat → Nat → Int32) (G : Nat → Int64) : va_W := [(q 0, .inr (4, [.ref (q 1), .ref (q 2), .ref (q 3), .int (F 0 0), .ref (q 4), .ref (q 5), .int (F 0 1), .int (F 0 2), .int (F 0 3), .int (F 0 4), .int (F 0 5), .int (F 0 6), .ref (q 6), .ref (q 7), .ref (q 8)])), (q 1, .inl (y 0, 69, .inl (F 1))), (q 2, .inl (y 0, 69, .inl (F 2))), (q 3, .inl (y 0, 69, .inl (F 3))), (q 4, .inl (y 0, 7, .inl (F 4))), (q 5, .inl (y 0, 120, .inl (F 5))), (q 6, .inl (y 0, 4, .inl (F 6))), (q 7, .inl (y 0, 4, .inl (F 7))), (q 8, .inl (y 2, 160, .inr (.inl G)))]
def wAA (y : Nat → ClassId) (q : Nat → Nat) (E F : Nat → Int32) : va_W := [(q 0, .inl (y 0, 69, .inl E)), (q 1, .inl (y 0, 69, .inl F))]
theorem kX4_finds_0 : Cond.constant RX4 35 (-1000000001) ∈ wsX4_finds := List.mem_of_getElem? (i := 2) (by decide +kernel)
theorem uX4_finds_X4 : ∀ w ∈ u_ws RX4 TX4 15, w ∈ wsX4_finds := by decide +kernel
theorem kX4_finds_2 : Cond.fieldLink RX4 19 "BeamSeatsModel" "found" "[I" ∈ wsX4_finds := List.mem_of_getElem? (i := 1) (by decide +kernel)
def f_X4_finds (N : Nat) (F : Nat → Nat → Int32) (G : Nat → Int64) (p1 : Int32) : Option (Int32 × (Nat → Nat → Int32)) :=
  q_grd ((-1000000001 : Int32) - p1) 7 (
  q_grd ((-1000000001 : Int32) - p1) 7 (
  q_let (q_up F 4 ((-1000000001 : Int32) - p1).toNatClampNeg ((F 4 ((-1000000001 : Int32) - p1).toNatClampNeg) + (1 : Int32))) (fun F_3 =>
  some (p1, F_3))))
set_option maxHeartbeats 4000000 in
set_option maxRecDepth 100000 in
theorem c_X4_finds (l : Launch) (D : va_G) (y : Nat → ClassId) (t : Nat → Nat) (q : Nat → Nat) (sz N : Nat) (F : Nat → Nat → Int32) (G : Nat → Int64) (p1 : Int32) (res : Int32 × (Nat → Nat → Int32)) (h : f_X4_finds N F G p1 = some res) : Met l yX4_finds wsX4_finds ({ frames := 0, cells := 0, slots := 0, locals := 0 } : Room) (pPre D y t [.ref (q 0), .int p1] (wM y q F G) sz) (pQi D y (res.1) (wM y q (res.2) G) (va_A (wM y q F G) sz)) 0 0 (va_A (wM y q F G) sz) := by
  refine q_start (Qc := (fun A => pQi D y (res.1) (wM y q (res.2) G) A)) (cc := cX4_finds) (maxL := 2) (ret := (some .int)) (by decide) rfl (Nat.le_of_ble_eq_true rfl) ?_
  intro p e s m below meth c A ls hx hb hr hts hown hlocks hmn hml hP hK hZ hD hA hS hl
  have hl : lv_has ls 2 [(0, .ref (q 0)), (1, .int p1)] := hl
  have hown : s.vm.findClass RX4 = some m.cls := hown
  unfold f_X4_finds at h
  refine lv_aload_n hx hb dX4_finds_0 rfl (lv_at hl 0 rfl) ?_
  refine va_get (D := D) (ci := 4) (v := .ref (q 4)) (C := RX4) (T := TX4) (N := 15) hx hb hts uX4_finds_X4 hown hK hP 0 rfl rfl 4 (by decide) (hts _ kX4_finds_2) (fun _ h9 => h9) rfl dX4_finds_1 ?_
  refine lv_ldc (v := -1000000001) hx hb hown (hts _ kX4_finds_0) dX4_finds_4 ?_
  refine lv_iload_n hx hb dX4_finds_6 rfl (lv_at hl 1 rfl) ?_
  refine lv_isub hx hb dX4_finds_7 ?_
  refine lv_dup2_11 hx hb dX4_finds_8 rfl rfl ?_
  obtain ⟨z_1, h⟩ := q_grd_ok h
  refine va_iald hx hb hK hP 4 0 rfl rfl z_1 dX4_finds_9 ?_
  refine lv_iconst (v := 1) hx hb dX4_finds_10 (by decide) ?_
  refine lv_iadd hx hb dX4_finds_11 ?_
  obtain ⟨z_2, h⟩ := q_grd_ok h
  obtain ⟨F_3, eF_3, h⟩ := q_let_ok h
  refine va_iast hx hb hK hP hD hS 4 0 rfl rfl z_2 dX4_finds_12 (fun H locs hP hD hS => ?_)
  have hP : va_P D vwCl (wM y q F_3 G) H := by rw [eF_3]; exact hP
  have hD : va_D A (wM y q F_3 G) := by rw [eF_3]; exact hD
  refine lv_iload_n hx hb dX4_finds_13 rfl (lv_at hl 1 rfl) ?_
  have e9 := Option.some.inj h
  exact q_iret hx hb hr hlocks hK hP hD hS dX4_finds_14 (by first | rw [← e9] | rfl) (by first | rw [← e9] | rfl)
theorem eX4_finds : yX4_finds.cls = RX4 ∧ yX4_finds.cls ≠ "java/lang/invoke/MethodHandle" ∧ yX4_finds.cls ≠ "java/lang/invoke/VarHandle" ∧ (parseMethodDescriptor yX4_finds.desc).map (fun d => d.parameters.length) = some 1 := by decide +kernel
theorem kX4_orNone_0 : Cond.constant RX4 36 (-1000000004) ∈ wsX4_orNone := List.mem_of_getElem? (i := 1) (by decide +kernel)
def f_X4_orNone (N : Nat) (F : Nat → Nat → Int32) (G : Nat → Int64) (p1 : Int32) : Option (Int32 × (Nat → Nat → Int32)) :=
  if 0 ≤ p1 then
    some (p1, F)
  else
    q_bd2 (f_X4_finds N F G (-1000000004 : Int32)) (fun r_2 F_3 =>
    some (r_2, F_3))
set_option maxHeartbeats 4000000 in
set_option maxRecDepth 100000 in
theorem c_X4_orNone (l : Launch) (D : va_G) (y : Nat → ClassId) (t : Nat → Nat) (q : Nat → Nat) (sz N : Nat) (F : Nat → Nat → Int32) (G : Nat → Int64) (p1 : Int32) (res : Int32 × (Nat → Nat → Int32)) (h : f_X4_orNone N F G p1 = some res) : Met l yX4_orNone wsX4_orNone ({ frames := 1, cells := 0, slots := 0, locals := 21 } : Room) (pPre D y t [.ref (q 0), .int p1] (wM y q F G) sz) (pQi D y (res.1) (wM y q (res.2) G) (va_A (wM y q F G) sz)) 0 0 (va_A (wM y q F G) sz) := by
  refine q_start (Qc := (fun A => pQi D y (res.1) (wM y q (res.2) G) A)) (cc := cX4_orNone) (maxL := 2) (ret := (some .int)) (by decide) rfl (Nat.le_of_ble_eq_true rfl) ?_
  intro p e s m below meth c A ls hx hb hr hts hown hlocks hmn hml hP hK hZ hD hA hS hl
  have hl : lv_has ls 2 [(0, .ref (q 0)), (1, .int p1)] := hl
  have hown : s.vm.findClass RX4 = some m.cls := hown
  unfold f_X4_orNone at h
  refine lv_iload_n hx hb dX4_orNone_0 rfl (lv_at hl 1 rfl) ?_
  refine lv_if_ge (tgt := 13) hx hb dX4_orNone_1 (by decide) (fun c_1 => ?_) (fun c_1 => ?_)
  · have h := q_t c_1 h
    refine lv_iload_n hx hb dX4_orNone_13 rfl (lv_at hl 1 rfl) ?_
    have e9 := Option.some.inj h
    exact q_iret hx hb hr hlocks hK hP hD hS dX4_orNone_14 (by first | rw [← e9] | rfl) (by first | rw [← e9] | rfl)
  · have h := q_f c_1 h
    refine lv_aload_n hx hb dX4_orNone_4 rfl (lv_at hl 0 rfl) ?_
    refine lv_ldc (v := -1000000004) hx hb hown (hts _ kX4_orNone_0) dX4_orNone_5 ?_
    obtain ⟨r_2, F_3, hc_4, h⟩ := q_bd2_ok h
    refine q_ci (r := r_2) (va_runV (As := [.int (-1000000004 : Int32)]) (rest := []) ⟨hx, hb, hml, hown, hts⟩ (c_X4_finds l D y t q _ N F G (-1000000004 : Int32) (r_2, F_3) hc_4) (cwV 1 hts gX4_orNone_X4_finds rfl rfl rfl eX4_finds ⟨Nat.le_of_ble_eq_true rfl, Nat.le_of_ble_eq_true rfl⟩) ⟨q_blind, (va_recv hK hP (ci := 4) (q0 := 0) rfl rfl), (q_pre hP hK hZ hD hA hS [0, 1, 2, 3, 4, 5, 6, 7, 8] rfl (by decide))⟩ rfl rfl hl.1 rfl (lv_room (Nat.le_of_ble_eq_true rfl)) dX4_orNone_7 ⟨Nat.zero_le _, Nat.zero_le _⟩) hP hD hA hS [0, 1, 2, 3, 4, 5, 6, 7, 8] rfl (by decide) rfl (fun H locs hP hD hS => ?_)
    have hP : va_P D vwCl (wM y q F_3 G) H := hP
    have hD : va_D A (wM y q F_3 G) := hD
    refine lv_goto (tgt := 14) hx hb dX4_orNone_10 (by decide) ?_
    have e9 := Option.some.inj h
    exact q_iret hx hb hr hlocks hK hP hD hS dX4_orNone_14 (by first | rw [← e9] | rfl) (by first | rw [← e9] | rfl)
theorem eX4_orNone : yX4_orNone.cls = RX4 ∧ yX4_orNone.cls ≠ "java/lang/invoke/MethodHandle" ∧ yX4_orNone.cls ≠ "java/lang/invoke/VarHandle" ∧ (parseMethodDescriptor yX4_orNone.desc).map (fun d => d.parameters.length) = some 1 := by decide +kernel
def f_X4_in (N : Nat) (p1 : Int64) (p2 : Int32) (p3 : Int32) : Option (Int32) :=
  if (lg_cmp p1 (p2.toInt64)) < 0 then
    some (0 : Int32)
  else
    if 0 < (lg_cmp p1 (p3.toInt64)) then
      some (0 : Int32)
    else
      some (1 : Int32)
set_option maxHeartbeats 4000000 in
set_option maxRecDepth 100000 in
theorem c_X4_in (l : Launch) (D : va_G) (y : Nat → ClassId) (t : Nat → Nat) (q : Nat → Nat) (sz N : Nat) (p1 : Int64) (p2 : Int32) (p3 : Int32) (res : Int32) (h : f_X4_in N p1 p2 p3 = some res) : Met l yX4_in wsX4_in ({ frames := 0, cells := 0, slots := 0, locals := 0 } : Room) (pPre D y t [.long p1, .int p2, .int p3] (([] : va_W)) sz) (pQi D y res (([] : va_W)) (va_A (([] : va_W)) sz)) 0 0 (va_A (([] : va_W)) sz) := by
  refine q_start (Qc := (fun A => pQi D y res (([] : va_W)) A)) (cc := cX4_in) (maxL := 4) (ret := (some .boolean)) (by decide) rfl (Nat.le_of_ble_eq_true rfl) ?_
  intro p e s m below meth c A ls hx hb hr hts hown hlocks hmn hml hP hK hZ hD hA hS hl
  have hl : lv_has ls 4 [(0, .long p1), (2, .int p2), (3, .int p3)] := hl
  have hown : s.vm.findClass RX4 = some m.cls := hown
  unfold f_X4_in at h
  refine lv_lload_n hx hb dX4_in_0 rfl (lv_at hl 0 rfl) ?_
  refine lv_iload_n hx hb dX4_in_1 rfl (lv_at hl 1 rfl) ?_
  refine lv_i2l hx hb dX4_in_2 rfl ?_
  refine W.lcmp hx hb dX4_in_3 ?_
  refine lv_if_lt (tgt := 18) hx hb dX4_in_4 (by decide) (fun c_1 => ?_) (fun c_1 => ?_)
  · have h := q_t c_1 h
    refine lv_iconst (v := 0) hx hb dX4_in_18 (by decide) ?_
    have e9 := Option.some.inj h
    exact q_zret hx hb hr hlocks hK hP hD hS dX4_in_19 rfl (by first | rw [← e9] | rfl) (by first | rw [← e9] | rfl)
  · have h := q_f c_1 h
    refine lv_lload_n hx hb dX4_in_7 rfl (lv_at hl 0 rfl) ?_
    refine lv_iload_n hx hb dX4_in_8 rfl (lv_at hl 2 rfl) ?_
    refine lv_i2l hx hb dX4_in_9 rfl ?_
    refine W.lcmp hx hb dX4_in_10 ?_
    refine lv_if_gt (tgt := 18) hx hb dX4_in_11 (by decide) (fun c_2 => ?_) (fun c_2 => ?_)
    · have h := q_t c_2 h
      refine lv_iconst (v := 0) hx hb dX4_in_18 (by decide) ?_
      have e9 := Option.some.inj h
      exact q_zret hx hb hr hlocks hK hP hD hS dX4_in_19 rfl (by first | rw [← e9] | rfl) (by first | rw [← e9] | rfl)
    · have h := q_f c_2 h
      refine lv_iconst (v := 1) hx hb dX4_in_14 (by decide) ?_
      refine lv_goto (tgt := 19) hx hb dX4_in_15 (by decide) ?_
      have e9 := Option.some.inj h
      exact q_zret hx hb hr hlocks hK hP hD hS dX4_in_19 rfl (by first | rw [← e9] | rfl) (by first | rw [← e9] | rfl)
theorem eX4_in : yX4_in.cls ≠ "java/lang/invoke/MethodHandle" ∧ yX4_in.cls ≠ "java/lang/invoke/VarHandle" ∧ (parseMethodDescriptor yX4_in.desc).map (fun d => d.parameters.length) = some 3 := by decide +kernel
def f_X4_held (N : Nat) (p1 : Int32) (p2 : Int32) (p3 : Int32) : Option (Int32) :=
  if p2 ≤ p1 then
    if p1 ≤ p3 then
      some p1
    else
      some p3
  else
    some p2
set_option maxHeartbeats 4000000 in
set_option maxRecDepth 100000 in
theorem c_X4_held (l : Launch) (D : va_G) (y : Nat → ClassId) (t : Nat → Nat) (q : Nat → Nat) (sz N : Nat) (p1 : Int32) (p2 : Int32) (p3 : Int32) (res : Int32) (h : f_X4_held N p1 p2 p3 = some res) : Met l yX4_held wsX4_held ({ frames := 0, cells := 0, slots := 0, locals := 0 } : Room) (pPre D y t [.int p1, .int p2, .int p3] (([] : va_W)) sz) (pQi D y res (([] : va_W)) (va_A (([] : va_W)) sz)) 0 0 (va_A (([] : va_W)) sz) := by
  refine q_start (Qc := (fun A => pQi D y res (([] : va_W)) A)) (cc := cX4_held) (maxL := 3) (ret := (some .int)) (by decide) rfl (Nat.le_of_ble_eq_true rfl) ?_
  intro p e s m below meth c A ls hx hb hr hts hown hlocks hmn hml hP hK hZ hD hA hS hl
  have hl : lv_has ls 3 [(0, .int p1), (1, .int p2), (2, .int p3)] := hl
  have hown : s.vm.findClass RX4 = some m.cls := hown
  unfold f_X4_held at h
  refine lv_iload_n hx hb dX4_held_0 rfl (lv_at hl 0 rfl) ?_
  refine lv_iload_n hx hb dX4_held_1 rfl (lv_at hl 1 rfl) ?_
  refine lv_icmp_ge (tgt := 9) hx hb dX4_held_2 (by decide) (fun c_1 => ?_) (fun c_1 => ?_)
  · have h := q_t c_1 h
    refine lv_iload_n hx hb dX4_held_9 rfl (lv_at hl 0 rfl) ?_
    refine lv_iload_n hx hb dX4_held_10 rfl (lv_at hl 2 rfl) ?_
    refine lv_icmp_le (tgt := 18) hx hb dX4_held_11 (by decide) (fun c_2 => ?_) (fun c_2 => ?_)
    · have h := q_t c_2 h
      refine lv_iload_n hx hb dX4_held_18 rfl (lv_at hl 0 rfl) ?_
      have e9 := Option.some.inj h
      exact q_iret hx hb hr hlocks hK hP hD hS dX4_held_19 (by first | rw [← e9] | rfl) (by first | rw [← e9] | rfl)
    · have h := q_f c_2 h
      refine lv_iload_n hx hb dX4_held_14 rfl (lv_at hl 2 rfl) ?_
      refine lv_goto (tgt := 19) hx hb dX4_held_15 (by decide) ?_
      have e9 := Option.some.inj h
      exact q_iret hx hb hr hlocks hK hP hD hS dX4_held_19 (by first | rw [← e9] | rfl) (by first | rw [← e9] | rfl)
  · have h := q_f c_1 h
    refine lv_iload_n hx hb dX4_held_5 rfl (lv_at hl 1 rfl) ?_
    refine lv_goto (tgt := 19) hx hb dX4_held_6 (by decide) ?_
    have e9 := Option.some.inj h
    exact q_iret hx hb hr hlocks hK hP hD hS dX4_held_19 (by first | rw [← e9] | rfl) (by first | rw [← e9] | rfl)
theorem eX4_held : yX4_held.cls ≠ "java/lang/invoke/MethodHandle" ∧ yX4_held.cls ≠ "java/lang/invoke/VarHandle" ∧ (parseMethodDescriptor yX4_held.desc).map (fun d => d.parameters.length) = some 3 := by decide +kernel
def f_X4_copyAll_L2 (N : Nat) (E : Nat → Int32) : Nat → Int32 → (Nat → Int32) → Option (Int32 × (Nat → Int32))
  | 0, _, _ => none
  | k + 1, v2, F =>
    if (69 : Int32) ≤ v2 then
      some (v2, F)
    else
      q_grd v2 69 (
      q_grd v2 69 (
      q_let (upd F v2.toNatClampNeg (E v2.toNatClampNeg)) (fun F_7 =>
      q_let (v2 + 1) (fun x_8 =>
      f_X4_copyAll_L2 N E k x_8 F_7))))
def f_X4_copyAll (N : Nat) (E : Nat → Int32) (F : Nat → Int32) : Option ((Nat → Int32)) :=
  q_bd2 (f_X4_copyAll_L2 N E N (0 : Int32) F) (fun x_2 F_3 =>
  some F_3)
set_option maxHeartbeats 4000000 in
set_option maxRecDepth 100000 in
theorem c_X4_copyAll (l : Launch) (D : va_G) (y : Nat → ClassId) (t : Nat → Nat) (q : Nat → Nat) (sz N : Nat) (E : Nat → Int32) (F : Nat → Int32) (res : (Nat → Int32)) (h : f_X4_copyAll N E F = some res) : Met l yX4_copyAll wsX4_copyAll ({ frames := 0, cells := 0, slots := 0, locals := 0 } : Room) (pPre D y t [.ref (q 0), .ref (q 1)] (wAA y q E F) sz) (pQv D y (wAA y q E res) (va_A (wAA y q E F) sz)) 0 0 (va_A (wAA y q E F) sz) := by
  refine q_start (Qc := (fun A => pQv D y (wAA y q E res) A)) (cc := cX4_copyAll) (maxL := 3) (ret := none) (by decide) rfl (Nat.le_of_ble_eq_true rfl) ?_
  intro p e s m below meth c A ls hx hb hr hts hown hlocks hmn hml hP hK hZ hD hA hS hl
  have hl : lv_has ls 3 [(0, .ref (q 0)), (1, .ref (q 1))] := hl
  have hown : s.vm.findClass RX4 = some m.cls := hown
  unfold f_X4_copyAll at h
  refine lv_iconst (v := 0) hx hb dX4_copyAll_0 (by decide) ?_
  refine lv_istore_n (lv' := [(2, .int (0 : Int32)), (0, .ref (q 0)), (1, .ref (q 1))]) hx hb dX4_copyAll_1 rfl hl (by decide) rfl (fun ls hl => ?_)
  obtain ⟨x_2, F_3, hL1, h⟩ := q_bd2_ok h
  have K2_1 : ∀ (H : Heap) (locs : List Loc) (ls : Array Slot), va_P D vwCl (wAA y q E F_3) H → va_D A (wAA y q E F_3) → va_S A s.heap H locs → lv_has ls 3 [(0, .ref (q 0)), (1, .ref (q 1)), (2, .int x_2)] → W p l e ({ frames := 0, cells := 0, slots := 0, locals := 0 } : Room) s m ([.ref (q 0), .ref (q 1)] : List Value).toArray below meth c H locs 0 0 (MQ below (pQv D y (wAA y q E res) A) ([.ref (q 0), .ref (q 1)] : List Value).toArray s 0 0 A) (F0 m 20 ls []) := by
    intro H locs ls hP hD hS hl
    have e9 := Option.some.inj h
    exact q_vret hx hb hr hlocks hK hP hD hS dX4_copyAll_20 (by first | rw [← e9] | rfl)
  have L2_1 : ∀ (E : Nat → Int32) (k : Nat) (v2 : Int32) (F : Nat → Int32), (∀ (H : Heap) (locs : List Loc) (ls : Array Slot), va_P D vwCl (wAA y q E F_3) H → va_D A (wAA y q E F_3) → va_S A s.heap H locs → lv_has ls 3 [(0, .ref (q 0)), (1, .ref (q 1)), (2, .int x_2)] → W p l e ({ frames := 0, cells := 0, slots := 0, locals := 0 } : Room) s m ([.ref (q 0), .ref (q 1)] : List Value).toArray below meth c H locs 0 0 (MQ below (pQv D y (wAA y q E res) A) ([.ref (q 0), .ref (q 1)] : List Value).toArray s 0 0 A) (F0 m 20 ls [])) → ∀ (H : Heap) (locs : List Loc) (ls : Array Slot), va_P D vwCl (wAA y q E F) H → va_D A (wAA y q E F) → va_S A s.heap H locs → lv_has ls 3 [(0, .ref (q 0)), (1, .ref (q 1)), (2, .int v2)] → f_X4_copyAll_L2 N E k v2 F = some (x_2, F_3) → W p l e ({ frames := 0, cells := 0, slots := 0, locals := 0 } : Room) s m ([.ref (q 0), .ref (q 1)] : List Value).toArray below meth c H locs 0 0 (MQ below (pQv D y (wAA y q E res) A) ([.ref (q 0), .ref (q 1)] : List Value).toArray s 0 0 A) (F0 m 2 ls []) := by
    intro E k
    induction k with
    | zero =>
      intro v2 F K2_1 H locs ls hP hD hS hl h
      have h : (none : Option (Int32 × (Nat → Int32))) = some _ := h
      cases h
    | succ k ih2_1 =>
      intro v2 F K2_1 H locs ls hP hD hS hl h
      rw [f_X4_copyAll_L2] at h
      refine lv_iload_n hx hb dX4_copyAll_2 rfl (lv_at hl 2 rfl) ?_
      refine lv_bipush (v := 69) hx hb dX4_copyAll_3 (by decide) ?_
      refine lv_icmp_ge (tgt := 20) hx hb dX4_copyAll_5 (by decide) (fun c_4 => ?_) (fun c_4 => ?_)
      · have h := q_t c_4 h
        cases h
        exact K2_1 _ _ _ hP hD hS (lv_sub hl [0, 1, 2] rfl)
      · have h := q_f c_4 h
        refine lv_aload_n hx hb dX4_copyAll_8 rfl (lv_at hl 1 rfl) ?_
        refine lv_iload_n hx hb dX4_copyAll_9 rfl (lv_at hl 2 rfl) ?_
        refine lv_aload_n hx hb dX4_copyAll_10 rfl (lv_at hl 0 rfl) ?_
        refine lv_iload_n hx hb dX4_copyAll_11 rfl (lv_at hl 2 rfl) ?_
        obtain ⟨z_5, h⟩ := q_grd_ok h
        refine va_iald hx hb hK hP 0 0 rfl rfl z_5 dX4_copyAll_12 ?_
        obtain ⟨z_6, h⟩ := q_grd_ok h
        obtain ⟨F_7, eF_7, h⟩ := q_let_ok h
        refine va_iast hx hb hK hP hD hS 1 0 rfl rfl z_6 dX4_copyAll_13 (fun H locs hP hD hS => ?_)
        have hP : va_P D vwCl (wAA y q E F_7) H := by rw [eF_7]; exact hP
        have hD : va_D A (wAA y q E F_7) := by rw [eF_7]; exact hD
        obtain ⟨x_8, ex_8, h⟩ := q_let_ok h
        refine lv_iinc (v := x_8) (lv' := [(2, .int x_8), (0, .ref (q 0)), (1, .ref (q 1))]) hx hb dX4_copyAll_14 hl (k := 2) rfl (by rw [ex_8]; rfl) (by decide) rfl (fun ls hl => ?_)
        refine lv_goto (tgt := 2) hx hb dX4_copyAll_17 (by decide) ?_
        exact ih2_1 x_8 F_7 K2_1 _ _ _ hP hD hS (lv_sub hl [1, 2, 0] rfl) h
  exact L2_1 E N (0 : Int32) F K2_1 _ _ _ hP hD hS (lv_sub hl [1, 2, 0] rfl) hL1
theorem eX4_copyAll : yX4_copyAll.cls ≠ "java/lang/invoke/MethodHandle" ∧ yX4_copyAll.cls ≠ "java/lang/invoke/VarHandle" ∧ (parseMethodDescriptor yX4_copyAll.desc).map (fun d => d.parameters.length) = some 2 := by decide +kernel
def f_X4_bits_L4 (N : Nat) : Nat → Int32 → Int32 → Option (Int32 × Int32)
  | 0, _, _ => none
  | k + 1, v1, v2 =>
    if v2 = 0 then
      some (v1, v2)
    else
      q_let (v1 + 1) (fun x_5 =>
      q_let (v2 &&& (v2 - (1 : Int32))) (fun x_6 =>
      f_X4_bits_L4 N k x_5 x_6))
def f_X4_bits (N : Nat) (p1 : Int32) : Option (Int32) :=
  q_bd2 (f_X4_bits_L4 N N (0 : Int32) p1) (fun x_2 x_3 =>
  some x_2)
set_option maxHeartbeats 4000000 in
set_option maxRecDepth 100000 in
theorem c_X4_bits (l : Launch) (D : va_G) (y : Nat → ClassId) (t : Nat → Nat) (q : Nat → Nat) (sz N : Nat) (p1 : Int32) (res : Int32) (h : f_X4_bits N p1 = some res) : Met l yX4_bits wsX4_bits ({ frames := 0, cells := 0, slots := 0, locals := 0 } : Room) (pPre D y t [.int p1] (([] : va_W)) sz) (pQi D y res (([] : va_W)) (va_A (([] : va_W)) sz)) 0 0 (va_A (([] : va_W)) sz) := by
  refine q_start (Qc := (fun A => pQi D y res (([] : va_W)) A)) (cc := cX4_bits) (maxL := 3) (ret := (some .int)) (by decide) rfl (Nat.le_of_ble_eq_true rfl) ?_
  intro p e s m below meth c A ls hx hb hr hts hown hlocks hmn hml hP hK hZ hD hA hS hl
  have hl : lv_has ls 3 [(0, .int p1)] := hl
  have hown : s.vm.findClass RX4 = some m.cls := hown
  unfold f_X4_bits at h
  refine lv_iconst (v := 0) hx hb dX4_bits_0 (by decide) ?_
  refine lv_istore_n (lv' := [(1, .int (0 : Int32)), (0, .int p1)]) hx hb dX4_bits_1 rfl hl (by decide) rfl (fun ls hl => ?_)
  refine lv_iload_n hx hb dX4_bits_2 rfl (lv_at hl 1 rfl) ?_
  refine lv_istore_n (lv' := [(2, .int p1), (1, .int (0 : Int32)), (0, .int p1)]) hx hb dX4_bits_3 rfl hl (by decide) rfl (fun ls hl => ?_)
  obtain ⟨x_2, x_3, hL1, h⟩ := q_bd2_ok h
  have K4_1 : ∀ (H : Heap) (locs : List Loc) (ls : Array Slot), va_P D vwCl (([] : va_W)) H → va_D A (([] : va_W)) → va_S A s.heap H locs → lv_has ls 3 [(1, .int x_2), (2, .int x_3)] → W p l e ({ frames := 0, cells := 0, slots := 0, locals := 0 } : Room) s m ([.int p1] : List Value).toArray below meth c H locs 0 0 (MQ below (pQi D y res (([] : va_W)) A) ([.int p1] : List Value).toArray s 0 0 A) (F0 m 20 ls []) := by
    intro H locs ls hP hD hS hl
    refine lv_iload_n hx hb dX4_bits_20 rfl (lv_at hl 0 rfl) ?_
    have e9 := Option.some.inj h
    exact q_iret hx hb hr hlocks hK hP hD hS dX4_bits_21 (by first | rw [← e9] | rfl) (by first | rw [← e9] | rfl)
  have L4_1 : ∀ (k : Nat) (v1 : Int32) (v2 : Int32), (∀ (H : Heap) (locs : List Loc) (ls : Array Slot), va_P D vwCl (([] : va_W)) H → va_D A (([] : va_W)) → va_S A s.heap H locs → lv_has ls 3 [(1, .int x_2), (2, .int x_3)] → W p l e ({ frames := 0, cells := 0, slots := 0, locals := 0 } : Room) s m ([.int p1] : List Value).toArray below meth c H locs 0 0 (MQ below (pQi D y res (([] : va_W)) A) ([.int p1] : List Value).toArray s 0 0 A) (F0 m 20 ls [])) → ∀ (H : Heap) (locs : List Loc) (ls : Array Slot), va_P D vwCl (([] : va_W)) H → va_D A (([] : va_W)) → va_S A s.heap H locs → lv_has ls 3 [(1, .int v1), (2, .int v2)] → f_X4_bits_L4 N k v1 v2 = some (x_2, x_3) → W p l e ({ frames := 0, cells := 0, slots := 0, locals := 0 } : Room) s m ([.int p1] : List Value).toArray below meth c H locs 0 0 (MQ below (pQi D y res (([] : va_W)) A) ([.int p1] : List Value).toArray s 0 0 A) (F0 m 4 ls []) := by
    intro k
    induction k with
    | zero =>
      intro v1 v2 K4_1 H locs ls hP hD hS hl h
      have h : (none : Option (Int32 × Int32)) = some _ := h
      cases h
    | succ k ih4_1 =>
      intro v1 v2 K4_1 H locs ls hP hD hS hl h
      rw [f_X4_bits_L4] at h
      refine lv_iload_n hx hb dX4_bits_4 rfl (lv_at hl 1 rfl) ?_
      refine lv_if_eq (tgt := 20) hx hb dX4_bits_5 (by decide) (fun c_4 => ?_) (fun c_4 => ?_)
      · have h := q_t c_4 h
        cases h
        exact K4_1 _ _ _ hP hD hS (lv_sub hl [0, 1] rfl)
      · have h := q_f c_4 h
        obtain ⟨x_5, ex_5, h⟩ := q_let_ok h
        refine lv_iinc (v := x_5) (lv' := [(1, .int x_5), (2, .int v2)]) hx hb dX4_bits_8 hl (k := 0) rfl (by rw [ex_5]; rfl) (by decide) rfl (fun ls hl => ?_)
        refine lv_iload_n hx hb dX4_bits_11 rfl (lv_at hl 1 rfl) ?_
        refine lv_iload_n hx hb dX4_bits_12 rfl (lv_at hl 1 rfl) ?_
        refine lv_iconst (v := 1) hx hb dX4_bits_13 (by decide) ?_
        refine lv_isub hx hb dX4_bits_14 ?_
        refine lv_iand hx hb dX4_bits_15 ?_
        refine lv_topi (fun x_6 ex_6 => ?_)
        have h := q_let_at ex_6 h
        refine lv_istore_n (lv' := [(2, .int x_6), (1, .int x_5)]) hx hb dX4_bits_16 rfl hl (by decide) rfl (fun ls hl => ?_)
        refine lv_goto (tgt := 4) hx hb dX4_bits_17 (by decide) ?_
        exact ih4_1 x_5 x_6 K4_1 _ _ _ hP hD hS (lv_sub hl [1, 0] rfl) h
  exact L4_1 N (0 : Int32) p1 K4_1 _ _ _ hP hD hS (lv_sub hl [1, 0] rfl) hL1
theorem eX4_bits : yX4_bits.cls ≠ "java/lang/invoke/MethodHandle" ∧ yX4_bits.cls ≠ "java/lang/invoke/VarHandle" ∧ (parseMethodDescriptor yX4_bits.desc).map (fun d => d.parameters.length) = some 1 := by decide +kernel
theorem uX4_becomes_X4 : ∀ w ∈ u_ws RX4 TX4 15, w ∈ wsX4_becomes := by decide +kernel
theorem kX4_becomes_1 : Cond.fieldLink RX4 9 "BeamSeatsModel" "m" "[I" ∈ wsX4_becomes := List.mem_of_getElem? (i := 1) (by decide +kernel)
def f_X4_becomes (N : Nat) (F : Nat → Nat → Int32) (G : Nat → Int64) (p1 : Int32) (p2 : Int32) : Option (Int32 × (Nat → Nat → Int32)) :=
  q_grd p1 69 (
  q_let (F 1 p1.toNatClampNeg) (fun x_2 =>
  q_grd p1 69 (
  q_let (q_up F 1 p1.toNatClampNeg p2) (fun F_4 =>
  some (x_2, F_4)))))
set_option maxHeartbeats 4000000 in
set_option maxRecDepth 100000 in
theorem c_X4_becomes (l : Launch) (D : va_G) (y : Nat → ClassId) (t : Nat → Nat) (q : Nat → Nat) (sz N : Nat) (F : Nat → Nat → Int32) (G : Nat → Int64) (p1 : Int32) (p2 : Int32) (res : Int32 × (Nat → Nat → Int32)) (h : f_X4_becomes N F G p1 p2 = some res) : Met l yX4_becomes wsX4_becomes ({ frames := 0, cells := 0, slots := 0, locals := 0 } : Room) (pPre D y t [.ref (q 0), .int p1, .int p2] (wM y q F G) sz) (pQi D y (res.1) (wM y q (res.2) G) (va_A (wM y q F G) sz)) 0 0 (va_A (wM y q F G) sz) := by
  refine q_start (Qc := (fun A => pQi D y (res.1) (wM y q (res.2) G) A)) (cc := cX4_becomes) (maxL := 4) (ret := (some .int)) (by decide) rfl (Nat.le_of_ble_eq_true rfl) ?_
  intro p e s m below meth c A ls hx hb hr hts hown hlocks hmn hml hP hK hZ hD hA hS hl
  have hl : lv_has ls 4 [(0, .ref (q 0)), (1, .int p1), (2, .int p2)] := hl
  have hown : s.vm.findClass RX4 = some m.cls := hown
  unfold f_X4_becomes at h
  refine lv_aload_n hx hb dX4_becomes_0 rfl (lv_at hl 0 rfl) ?_
  refine va_get (D := D) (ci := 4) (v := .ref (q 1)) (C := RX4) (T := TX4) (N := 15) hx hb hts uX4_becomes_X4 hown hK hP 0 rfl rfl 0 (by decide) (hts _ kX4_becomes_1) (fun _ h9 => h9) rfl dX4_becomes_1 ?_
  refine lv_iload_n hx hb dX4_becomes_4 rfl (lv_at hl 1 rfl) ?_
  obtain ⟨z_1, h⟩ := q_grd_ok h
  refine va_iald hx hb hK hP 1 0 rfl rfl z_1 dX4_becomes_5 ?_
  refine lv_topi (fun x_2 ex_2 => ?_)
  have h := q_let_at ex_2 h
  refine lv_istore_n (lv' := [(3, .int x_2), (0, .ref (q 0)), (1, .int p1), (2, .int p2)]) hx hb dX4_becomes_6 rfl hl (by decide) rfl (fun ls hl => ?_)
  refine lv_aload_n hx hb dX4_becomes_7 rfl (lv_at hl 1 rfl) ?_
  refine va_get (D := D) (ci := 4) (v := .ref (q 1)) (C := RX4) (T := TX4) (N := 15) hx hb hts uX4_becomes_X4 hown hK hP 0 rfl rfl 0 (by decide) (hts _ kX4_becomes_1) (fun _ h9 => h9) rfl dX4_becomes_8 ?_
  refine lv_iload_n hx hb dX4_becomes_11 rfl (lv_at hl 2 rfl) ?_
  refine lv_iload_n hx hb dX4_becomes_12 rfl (lv_at hl 3 rfl) ?_
  obtain ⟨z_3, h⟩ := q_grd_ok h
  obtain ⟨F_4, eF_4, h⟩ := q_let_ok h
  refine va_iast hx hb hK hP hD hS 1 0 rfl rfl z_3 dX4_becomes_13 (fun H locs hP hD hS => ?_)
  have hP : va_P D vwCl (wM y q F_4 G) H := by rw [eF_4]; exact hP
  have hD : va_D A (wM y q F_4 G) := by rw [eF_4]; exact hD
  refine lv_iload_n hx hb dX4_becomes_14 rfl (lv_at hl 0 rfl) ?_
  have e9 := Option.some.inj h
  exact q_iret hx hb hr hlocks hK hP hD hS dX4_becomes_15 (by first | rw [← e9] | rfl) (by first | rw [← e9] | rfl)
theorem eX4_becomes : yX4_becomes.cls = RX4 ∧ yX4_becomes.cls ≠ "java/lang/invoke/MethodHandle" ∧ yX4_becomes.cls ≠ "java/lang/invoke/VarHandle" ∧ (parseMethodDescriptor yX4_becomes.desc).map (fun d => d.parameters.length) = some 2 := by decide +kernel
theorem uX4_isThing_X4 : ∀ w ∈ u_ws RX4 TX4 15, w ∈ wsX4_isThing := by decide +kernel
theorem kX4_isThing_1 : Cond.fieldLink RX4 9 "BeamSeatsModel" "m" "[I" ∈ wsX4_isThing := List.mem_of_getElem? (i := 1) (by decide +kernel)
def f_X4_isThing (N : Nat) (F : Nat → Nat → Int32) (G : Nat → Int64) (p1 : Int32) : Option (Int32) :=
  q_grd (4 : Int32) 69 (
  q_bd (f_X4_in N (p1.toInt64) (0 : Int32) ((F 1 (4 : Int32).toNatClampNeg) - (1 : Int32))) (fun r_2 =>
  q_gb r_2 (some r_2)))
set_option maxHeartbeats 4000000 in
set_option maxRecDepth 100000 in
theorem c_X4_isThing (l : Launch) (D : va_G) (y : Nat → ClassId) (t : Nat → Nat) (q : Nat → Nat) (sz N : Nat) (F : Nat → Nat → Int32) (G : Nat → Int64) (p1 : Int32) (res : Int32) (h : f_X4_isThing N F G p1 = some res) : Met l yX4_isThing wsX4_isThing ({ frames := 1, cells := 0, slots := 0, locals := 23 } : Room) (pPre D y t [.ref (q 0), .int p1] (wM y q F G) sz) (pQi D y res (wM y q F G) (va_A (wM y q F G) sz)) 0 0 (va_A (wM y q F G) sz) := by
  refine q_start (Qc := (fun A => pQi D y res (wM y q F G) A)) (cc := cX4_isThing) (maxL := 2) (ret := (some .boolean)) (by decide) rfl (Nat.le_of_ble_eq_true rfl) ?_
  intro p e s m below meth c A ls hx hb hr hts hown hlocks hmn hml hP hK hZ hD hA hS hl
  have hl : lv_has ls 2 [(0, .ref (q 0)), (1, .int p1)] := hl
  have hown : s.vm.findClass RX4 = some m.cls := hown
  unfold f_X4_isThing at h
  refine lv_iload_n hx hb dX4_isThing_0 rfl (lv_at hl 1 rfl) ?_
  refine lv_i2l hx hb dX4_isThing_1 rfl ?_
  refine lv_iconst (v := 0) hx hb dX4_isThing_2 (by decide) ?_
  refine lv_aload_n hx hb dX4_isThing_3 rfl (lv_at hl 0 rfl) ?_
  refine va_get (D := D) (ci := 4) (v := .ref (q 1)) (C := RX4) (T := TX4) (N := 15) hx hb hts uX4_isThing_X4 hown hK hP 0 rfl rfl 0 (by decide) (hts _ kX4_isThing_1) (fun _ h9 => h9) rfl dX4_isThing_4 ?_
  refine lv_iconst (v := 4) hx hb dX4_isThing_7 (by decide) ?_
  obtain ⟨z_1, h⟩ := q_grd_ok h
  refine va_iald hx hb hK hP 1 0 rfl rfl z_1 dX4_isThing_8 ?_
  refine lv_iconst (v := 1) hx hb dX4_isThing_9 (by decide) ?_
  refine lv_isub hx hb dX4_isThing_10 ?_
  obtain ⟨r_2, hc_3, h⟩ := q_bd_ok h
  refine q_ci (r := r_2) (va_runS (As := [.long (p1.toInt64), .int (0 : Int32), .int ((F 1 (4 : Int32).toNatClampNeg) - (1 : Int32))]) (rest := []) ⟨hx, hb, hml, hown, hts⟩ (c_X4_in l D y t q _ N (p1.toInt64) (0 : Int32) ((F 1 (4 : Int32).toNatClampNeg) - (1 : Int32)) r_2 hc_3) (va_cwS 3 hts gX4_isThing_X4_in rfl rfl rfl eX4_in ⟨Nat.le_of_ble_eq_true rfl, Nat.le_of_ble_eq_true rfl⟩) ⟨q_blind, (q_pre hP hK hZ hD hA hS [] rfl (by decide))⟩ rfl rfl hl.1 rfl (lv_room (Nat.le_of_ble_eq_true rfl)) dX4_isThing_11 ⟨Nat.zero_le _, Nat.zero_le _⟩) hP hD hA hS [] rfl (by decide) rfl (fun H locs hP hD hS => ?_)
  have hP : va_P D vwCl (wM y q F G) H := hP
  have hD : va_D A (wM y q F G) := hD
  obtain ⟨hg9, h⟩ := q_gb_ok h
  have e9 := Option.some.inj h
  exact q_zret hx hb hr hlocks hK hP hD hS dX4_isThing_14 (q_gb_nar hg9) (by first | rw [← e9] | rfl) (by first | rw [← e9] | rfl)
theorem eX4_isThing : yX4_isThing.cls = RX4 ∧ yX4_isThing.cls ≠ "java/lang/invoke/MethodHandle" ∧ yX4_isThing.cls ≠ "java/lang/invoke/VarHandle" ∧ (parseMethodDescriptor yX4_isThing.desc).map (fun d => d.parameters.length) = some 1 := by decide +kernel
def f_X4_isBearing (N : Nat) (p1 : Int32) : Option (Int32) :=
  q_bd (f_X4_in N (p1.toInt64) (0 : Int32) (59 : Int32)) (fun r_1 =>
  q_gb r_1 (some r_1))
set_option maxHeartbeats 4000000 in
set_option maxRecDepth 100000 in
theorem c_X4_isBearing (l : Launch) (D : va_G) (y : Nat → ClassId) (t : Nat → Nat) (q : Nat → Nat) (sz N : Nat) (p1 : Int32) (res : Int32) (h : f_X4_isBearing N p1 = some res) : Met l yX4_isBearing wsX4_isBearing ({ frames := 1, cells := 0, slots := 0, locals := 23 } : Room) (pPre D y t [.int p1] (([] : va_W)) sz) (pQi D y res (([] : va_W)) (va_A (([] : va_W)) sz)) 0 0 (va_A (([] : va_W)) sz) := by
  refine q_start (Qc := (fun A => pQi D y res (([] : va_W)) A)) (cc := cX4_isBearing) (maxL := 1) (ret := (some .boolean)) (by decide) rfl (Nat.le_of_ble_eq_true rfl) ?_
  intro p e s m below meth c A ls hx hb hr hts hown hlocks hmn hml hP hK hZ hD hA hS hl
  have hl : lv_has ls 1 [(0, .int p1)] := hl
  have hown : s.vm.findClass RX4 = some m.cls := hown
  unfold f_X4_isBearing at h
  refine lv_iload_n hx hb dX4_isBearing_0 rfl (lv_at hl 0 rfl) ?_
  refine lv_i2l hx hb dX4_isBearing_1 rfl ?_
  refine lv_iconst (v := 0) hx hb dX4_isBearing_2 (by decide) ?_
  refine lv_bipush (v := 59) hx hb dX4_isBearing_3 (by decide) ?_
  obtain ⟨r_1, hc_2, h⟩ := q_bd_ok h
  refine q_ci (r := r_1) (va_runS (As := [.long (p1.toInt64), .int (0 : Int32), .int (59 : Int32)]) (rest := []) ⟨hx, hb, hml, hown, hts⟩ (c_X4_in l D y t q _ N (p1.toInt64) (0 : Int32) (59 : Int32) r_1 hc_2) (va_cwS 3 hts gX4_isBearing_X4_in rfl rfl rfl eX4_in ⟨Nat.le_of_ble_eq_true rfl, Nat.le_of_ble_eq_true rfl⟩) ⟨q_blind, (q_pre hP hK hZ hD hA hS [] rfl (by decide))⟩ rfl rfl hl.1 rfl (lv_room (Nat.le_of_ble_eq_true rfl)) dX4_isBearing_5 ⟨Nat.zero_le _, Nat.zero_le _⟩) hP hD hA hS [] rfl (by decide) rfl (fun H locs hP hD hS => ?_)
  have hP : va_P D vwCl (([] : va_W)) H := hP
  have hD : va_D A (([] : va_W)) := hD
  obtain ⟨hg9, h⟩ := q_gb_ok h
  have e9 := Option.some.inj h
  exact q_zret hx hb hr hlocks hK hP hD hS dX4_isBearing_8 (q_gb_nar hg9) (by first | rw [← e9] | rfl) (by first | rw [← e9] | rfl)
theorem eX4_isBearing : yX4_isBearing.cls ≠ "java/lang/invoke/MethodHandle" ∧ yX4_isBearing.cls ≠ "java/lang/invoke/VarHandle" ∧ (parseMethodDescriptor yX4_isBearing.desc).map (fun d => d.parameters.length) = some 1 := by decide +kernel
theorem uX4_it_X4 : ∀ w ∈ u_ws RX4 TX4 15, w ∈ wsX4_it := by decide +kernel
theorem kX4_it_1 : Cond.fieldLink RX4 9 "BeamSeatsModel" "m" "[I" ∈ wsX4_it := List.mem_of_getElem? (i := 1) (by decide +kernel)
def f_X4_it (N : Nat) (F : Nat → Nat → Int32) (G : Nat → Int64) (p1 : Int32) (p2 : Int32) : Option (Int32) :=
  q_grd (((5 : Int32) + ((8 : Int32) * p1)) + p2) 69 (
  some (F 1 (((5 : Int32) + ((8 : Int32) * p1)) + p2).toNatClampNeg))
set_option maxHeartbeats 4000000 in
set_option maxRecDepth 100000 in
theorem c_X4_it (l : Launch) (D : va_G) (y : Nat → ClassId) (t : Nat → Nat) (q : Nat → Nat) (sz N : Nat) (F : Nat → Nat → Int32) (G : Nat → Int64) (p1 : Int32) (p2 : Int32) (res : Int32) (h : f_X4_it N F G p1 p2 = some res) : Met l yX4_it wsX4_it ({ frames := 0, cells := 0, slots := 0, locals := 0 } : Room) (pPre D y t [.ref (q 0), .int p1, .int p2] (wM y q F G) sz) (pQi D y res (wM y q F G) (va_A (wM y q F G) sz)) 0 0 (va_A (wM y q F G) sz) := by
  refine q_start (Qc := (fun A => pQi D y res (wM y q F G) A)) (cc := cX4_it) (maxL := 3) (ret := (some .int)) (by decide) rfl (Nat.le_of_ble_eq_true rfl) ?_
  intro p e s m below meth c A ls hx hb hr hts hown hlocks hmn hml hP hK hZ hD hA hS hl
  have hl : lv_has ls 3 [(0, .ref (q 0)), (1, .int p1), (2, .int p2)] := hl
  have hown : s.vm.findClass RX4 = some m.cls := hown
  unfold f_X4_it at h
  refine lv_aload_n hx hb dX4_it_0 rfl (lv_at hl 0 rfl) ?_
  refine va_get (D := D) (ci := 4) (v := .ref (q 1)) (C := RX4) (T := TX4) (N := 15) hx hb hts uX4_it_X4 hown hK hP 0 rfl rfl 0 (by decide) (hts _ kX4_it_1) (fun _ h9 => h9) rfl dX4_it_1 ?_
  refine lv_iconst (v := 5) hx hb dX4_it_4 (by decide) ?_
  refine lv_bipush (v := 8) hx hb dX4_it_5 (by decide) ?_
  refine lv_iload_n hx hb dX4_it_7 rfl (lv_at hl 1 rfl) ?_
  refine lv_imul hx hb dX4_it_8 ?_
  refine lv_iadd hx hb dX4_it_9 ?_
  refine lv_iload_n hx hb dX4_it_10 rfl (lv_at hl 2 rfl) ?_
  refine lv_iadd hx hb dX4_it_11 ?_
  obtain ⟨z_1, h⟩ := q_grd_ok h
  refine va_iald hx hb hK hP 1 0 rfl rfl z_1 dX4_it_12 ?_
  have e9 := Option.some.inj h
  exact q_iret hx hb hr hlocks hK hP hD hS dX4_it_13 (by first | rw [← e9] | rfl) (by first | rw [← e9] | rfl)
theorem eX4_it : yX4_it.cls = RX4 ∧ yX4_it.cls ≠ "java/lang/invoke/MethodHandle" ∧ yX4_it.cls ≠ "java/lang/invoke/VarHandle" ∧ (parseMethodDescriptor yX4_it.desc).map (fun d => d.parameters.length) = some 2 := by decide +kernel
theorem uX4_put_X4 : ∀ w ∈ u_ws RX4 TX4 15, w ∈ wsX4_put := by decide +kernel
theorem kX4_put_1 : Cond.fieldLink RX4 9 "BeamSeatsModel" "m" "[I" ∈ wsX4_put := List.mem_of_getElem? (i := 1) (by decide +kernel)
def f_X4_put (N : Nat) (F : Nat → Nat → Int32) (G : Nat → Int64) (p1 : Int32) (p2 : Int32) (p3 : Int32) : Option ((Nat → Nat → Int32)) :=
  q_grd (((5 : Int32) + ((8 : Int32) * p1)) + p2) 69 (
  q_let (q_up F 1 (((5 : Int32) + ((8 : Int32) * p1)) + p2).toNatClampNeg p3) (fun F_2 =>
  some F_2))
set_option maxHeartbeats 4000000 in
set_option maxRecDepth 100000 in
theorem c_X4_put (l : Launch) (D : va_G) (y : Nat → ClassId) (t : Nat → Nat) (q : Nat → Nat) (sz N : Nat) (F : Nat → Nat → Int32) (G : Nat → Int64) (p1 : Int32) (p2 : Int32) (p3 : Int32) (res : (Nat → Nat → Int32)) (h : f_X4_put N F G p1 p2 p3 = some res) : Met l yX4_put wsX4_put ({ frames := 0, cells := 0, slots := 0, locals := 0 } : Room) (pPre D y t [.ref (q 0), .int p1, .int p2, .int p3] (wM y q F G) sz) (pQv D y (wM y q res G) (va_A (wM y q F G) sz)) 0 0 (va_A (wM y q F G) sz) := by
  refine q_start (Qc := (fun A => pQv D y (wM y q res G) A)) (cc := cX4_put) (maxL := 4) (ret := none) (by decide) rfl (Nat.le_of_ble_eq_true rfl) ?_
  intro p e s m below meth c A ls hx hb hr hts hown hlocks hmn hml hP hK hZ hD hA hS hl
  have hl : lv_has ls 4 [(0, .ref (q 0)), (1, .int p1), (2, .int p2), (3, .int p3)] := hl
  have hown : s.vm.findClass RX4 = some m.cls := hown
  unfold f_X4_put at h
  refine lv_aload_n hx hb dX4_put_0 rfl (lv_at hl 0 rfl) ?_
  refine va_get (D := D) (ci := 4) (v := .ref (q 1)) (C := RX4) (T := TX4) (N := 15) hx hb hts uX4_put_X4 hown hK hP 0 rfl rfl 0 (by decide) (hts _ kX4_put_1) (fun _ h9 => h9) rfl dX4_put_1 ?_
  refine lv_iconst (v := 5) hx hb dX4_put_4 (by decide) ?_
  refine lv_bipush (v := 8) hx hb dX4_put_5 (by decide) ?_
  refine lv_iload_n hx hb dX4_put_7 rfl (lv_at hl 1 rfl) ?_
  refine lv_imul hx hb dX4_put_8 ?_
  refine lv_iadd hx hb dX4_put_9 ?_
  refine lv_iload_n hx hb dX4_put_10 rfl (lv_at hl 2 rfl) ?_
  refine lv_iadd hx hb dX4_put_11 ?_
  refine lv_iload_n hx hb dX4_put_12 rfl (lv_at hl 3 rfl) ?_
  obtain ⟨z_1, h⟩ := q_grd_ok h
  obtain ⟨F_2, eF_2, h⟩ := q_let_ok h
  refine va_iast hx hb hK hP hD hS 1 0 rfl rfl z_1 dX4_put_13 (fun H locs hP hD hS => ?_)
  have hP : va_P D vwCl (wM y q F_2 G) H := by rw [eF_2]; exact hP
  have hD : va_D A (wM y q F_2 G) := by rw [eF_2]; exact hD
  have e9 := Option.some.inj h
  exact q_vret hx hb hr hlocks hK hP hD hS dX4_put_14 (by first | rw [← e9] | rfl)
theorem eX4_put : yX4_put.cls = RX4 ∧ yX4_put.cls ≠ "java/lang/invoke/MethodHandle" ∧ yX4_put.cls ≠ "java/lang/invoke/VarHandle" ∧ (parseMethodDescriptor yX4_put.desc).map (fun d => d.parameters.length) = some 3 := by decide +kernel
def f_X4_isOn (N : Nat) (F : Nat → Nat → Int32) (G : Nat → Int64) (p1 : Int32) : Option (Int32) :=
  q_bd (f_X4_it N F G p1 (3 : Int32)) (fun r_1 =>
  if r_1 = (1 : Int32) then
    some (1 : Int32)
  else
    some (0 : Int32))
set_option maxHeartbeats 4000000 in
set_option maxRecDepth 100000 in
theorem c_X4_isOn (l : Launch) (D : va_G) (y : Nat → ClassId) (t : Nat → Nat) (q : Nat → Nat) (sz N : Nat) (F : Nat → Nat → Int32) (G : Nat → Int64) (p1 : Int32) (res : Int32) (h : f_X4_isOn N F G p1 = some res) : Met l yX4_isOn wsX4_isOn ({ frames := 1, cells := 0, slots := 0, locals := 22 } : Room) (pPre D y t [.ref (q 0), .int p1] (wM y q F G) sz) (pQi D y res (wM y q F G) (va_A (wM y q F G) sz)) 0 0 (va_A (wM y q F G) sz) := by
  refine q_start (Qc := (fun A => pQi D y res (wM y q F G) A)) (cc := cX4_isOn) (maxL := 2) (ret := (some .boolean)) (by decide) rfl (Nat.le_of_ble_eq_true rfl) ?_
  intro p e s m below meth c A ls hx hb hr hts hown hlocks hmn hml hP hK hZ hD hA hS hl
  have hl : lv_has ls 2 [(0, .ref (q 0)), (1, .int p1)] := hl
  have hown : s.vm.findClass RX4 = some m.cls := hown
  unfold f_X4_isOn at h
  refine lv_aload_n hx hb dX4_isOn_0 rfl (lv_at hl 0 rfl) ?_
  refine lv_iload_n hx hb dX4_isOn_1 rfl (lv_at hl 1 rfl) ?_
  refine lv_iconst (v := 3) hx hb dX4_isOn_2 (by decide) ?_
  obtain ⟨r_1, hc_2, h⟩ := q_bd_ok h
  refine q_ci (r := r_1) (va_runV (As := [.int p1, .int (3 : Int32)]) (rest := []) ⟨hx, hb, hml, hown, hts⟩ (c_X4_it l D y t q _ N F G p1 (3 : Int32) r_1 hc_2) (cwV 2 hts gX4_isOn_X4_it rfl rfl rfl eX4_it ⟨Nat.le_of_ble_eq_true rfl, Nat.le_of_ble_eq_true rfl⟩) ⟨q_blind, (va_recv hK hP (ci := 4) (q0 := 0) rfl rfl), (q_pre hP hK hZ hD hA hS [0, 1, 2, 3, 4, 5, 6, 7, 8] rfl (by decide))⟩ rfl rfl hl.1 rfl (lv_room (Nat.le_of_ble_eq_true rfl)) dX4_isOn_3 ⟨Nat.zero_le _, Nat.zero_le _⟩) hP hD hA hS [0, 1, 2, 3, 4, 5, 6, 7, 8] rfl (by decide) rfl (fun H locs hP hD hS => ?_)
  have hP : va_P D vwCl (wM y q F G) H := hP
  have hD : va_D A (wM y q F G) := hD
  refine lv_iconst (v := 1) hx hb dX4_isOn_6 (by decide) ?_
  refine lv_icmp_ne (tgt := 14) hx hb dX4_isOn_7 (by decide) (fun c_3 => ?_) (fun c_3 => ?_)
  · have h := q_f c_3 h
    refine lv_iconst (v := 0) hx hb dX4_isOn_14 (by decide) ?_
    have e9 := Option.some.inj h
    exact q_zret hx hb hr hlocks hK hP hD hS dX4_isOn_15 rfl (by first | rw [← e9] | rfl) (by first | rw [← e9] | rfl)
  · have h := q_t c_3 h
    refine lv_iconst (v := 1) hx hb dX4_isOn_10 (by decide) ?_
    refine lv_goto (tgt := 15) hx hb dX4_isOn_11 (by decide) ?_
    have e9 := Option.some.inj h
    exact q_zret hx hb hr hlocks hK hP hD hS dX4_isOn_15 rfl (by first | rw [← e9] | rfl) (by first | rw [← e9] | rfl)
theorem eX4_isOn : yX4_isOn.cls = RX4 ∧ yX4_isOn.cls ≠ "java/lang/invoke/MethodHandle" ∧ yX4_isOn.cls ≠ "java/lang/invoke/VarHandle" ∧ (parseMethodDescriptor yX4_isOn.desc).map (fun d => d.parameters.length) = some 1 := by decide +kernel
theorem uX4_setOf_X4 : ∀ w ∈ u_ws RX4 TX4 15, w ∈ wsX4_setOf := by decide +kernel
theorem kX4_setOf_1 : Cond.fieldLink RX4 9 "BeamSeatsModel" "m" "[I" ∈ wsX4_setOf := List.mem_of_getElem? (i := 1) (by decide +kernel)
def f_X4_setOf_L4 (N : Nat) (F : Nat → Nat → Int32) (G : Nat → Int64) (v1 : Int32) : Nat → Int32 → Int32 → Option (Int32 × Int32)
  | 0, _, _ => none
  | k + 1, v2, v3 =>
    q_grd (4 : Int32) 69 (
    if (F 1 (4 : Int32).toNatClampNeg) ≤ v3 then
      some (v2, v3)
    else
      q_bd (f_X4_it N F G v3 v1) (fun r_6 =>
      q_let (v2 ||| (r_6 <<< (v3 &&& 31))) (fun x_8 =>
      q_let (v3 + 1) (fun x_9 =>
      f_X4_setOf_L4 N F G v1 k x_8 x_9))))
def f_X4_setOf (N : Nat) (F : Nat → Nat → Int32) (G : Nat → Int64) (p1 : Int32) : Option (Int32) :=
  q_bd2 (f_X4_setOf_L4 N F G p1 N (0 : Int32) (0 : Int32)) (fun x_2 x_3 =>
  some x_2)
set_option maxHeartbeats 4000000 in
set_option maxRecDepth 100000 in
theorem c_X4_setOf (l : Launch) (D : va_G) (y : Nat → ClassId) (t : Nat → Nat) (q : Nat → Nat) (sz N : Nat) (F : Nat → Nat → Int32) (G : Nat → Int64) (p1 : Int32) (res : Int32) (h : f_X4_setOf N F G p1 = some res) : Met l yX4_setOf wsX4_setOf ({ frames := 1, cells := 0, slots := 0, locals := 22 } : Room) (pPre D y t [.ref (q 0), .int p1] (wM y q F G) sz) (pQi D y res (wM y q F G) (va_A (wM y q F G) sz)) 0 0 (va_A (wM y q F G) sz) := by
  refine q_start (Qc := (fun A => pQi D y res (wM y q F G) A)) (cc := cX4_setOf) (maxL := 4) (ret := (some .int)) (by decide) rfl (Nat.le_of_ble_eq_true rfl) ?_
  intro p e s m below meth c A ls hx hb hr hts hown hlocks hmn hml hP hK hZ hD hA hS hl
  have hl : lv_has ls 4 [(0, .ref (q 0)), (1, .int p1)] := hl
  have hown : s.vm.findClass RX4 = some m.cls := hown
  unfold f_X4_setOf at h
  refine lv_iconst (v := 0) hx hb dX4_setOf_0 (by decide) ?_
  refine lv_istore_n (lv' := [(2, .int (0 : Int32)), (0, .ref (q 0)), (1, .int p1)]) hx hb dX4_setOf_1 rfl hl (by decide) rfl (fun ls hl => ?_)
  refine lv_iconst (v := 0) hx hb dX4_setOf_2 (by decide) ?_
  refine lv_istore_n (lv' := [(3, .int (0 : Int32)), (2, .int (0 : Int32)), (0, .ref (q 0)), (1, .int p1)]) hx hb dX4_setOf_3 rfl hl (by decide) rfl (fun ls hl => ?_)
  obtain ⟨x_2, x_3, hL1, h⟩ := q_bd2_ok h
  have K4_1 : ∀ (H : Heap) (locs : List Loc) (ls : Array Slot), va_P D vwCl (wM y q F G) H → va_D A (wM y q F G) → va_S A s.heap H locs → lv_has ls 4 [(0, .ref (q 0)), (1, .int p1), (2, .int x_2), (3, .int x_3)] → W p l e ({ frames := 1, cells := 0, slots := 0, locals := 22 } : Room) s m ([.ref (q 0), .int p1] : List Value).toArray below meth c H locs 0 0 (MQ below (pQi D y res (wM y q F G) A) ([.ref (q 0), .int p1] : List Value).toArray s 0 0 A) (F0 m 31 ls []) := by
    intro H locs ls hP hD hS hl
    refine lv_iload_n hx hb dX4_setOf_31 rfl (lv_at hl 2 rfl) ?_
    have e9 := Option.some.inj h
    exact q_iret hx hb hr hlocks hK hP hD hS dX4_setOf_32 (by first | rw [← e9] | rfl) (by first | rw [← e9] | rfl)
  have L4_1 : ∀ (F : Nat → Nat → Int32) (G : Nat → Int64) (v1 : Int32) (k : Nat) (v2 : Int32) (v3 : Int32), (∀ (H : Heap) (locs : List Loc) (ls : Array Slot), va_P D vwCl (wM y q F G) H → va_D A (wM y q F G) → va_S A s.heap H locs → lv_has ls 4 [(0, .ref (q 0)), (1, .int v1), (2, .int x_2), (3, .int x_3)] → W p l e ({ frames := 1, cells := 0, slots := 0, locals := 22 } : Room) s m ([.ref (q 0), .int p1] : List Value).toArray below meth c H locs 0 0 (MQ below (pQi D y res (wM y q F G) A) ([.ref (q 0), .int p1] : List Value).toArray s 0 0 A) (F0 m 31 ls [])) → ∀ (H : Heap) (locs : List Loc) (ls : Array Slot), va_P D vwCl (wM y q F G) H → va_D A (wM y q F G) → va_S A s.heap H locs → lv_has ls 4 [(0, .ref (q 0)), (1, .int v1), (2, .int v2), (3, .int v3)] → f_X4_setOf_L4 N F G v1 k v2 v3 = some (x_2, x_3) → W p l e ({ frames := 1, cells := 0, slots := 0, locals := 22 } : Room) s m ([.ref (q 0), .int p1] : List Value).toArray below meth c H locs 0 0 (MQ below (pQi D y res (wM y q F G) A) ([.ref (q 0), .int p1] : List Value).toArray s 0 0 A) (F0 m 4 ls []) := by
    intro F G v1 k
    induction k with
    | zero =>
      intro v2 v3 K4_1 H locs ls hP hD hS hl h
      have h : (none : Option (Int32 × Int32)) = some _ := h
      cases h
    | succ k ih4_1 =>
      intro v2 v3 K4_1 H locs ls hP hD hS hl h
      rw [f_X4_setOf_L4] at h
      refine lv_iload_n hx hb dX4_setOf_4 rfl (lv_at hl 3 rfl) ?_
      refine lv_aload_n hx hb dX4_setOf_5 rfl (lv_at hl 0 rfl) ?_
      refine va_get (D := D) (ci := 4) (v := .ref (q 1)) (C := RX4) (T := TX4) (N := 15) hx hb hts uX4_setOf_X4 hown hK hP 0 rfl rfl 0 (by decide) (hts _ kX4_setOf_1) (fun _ h9 => h9) rfl dX4_setOf_6 ?_
      refine lv_iconst (v := 4) hx hb dX4_setOf_9 (by decide) ?_
      obtain ⟨z_4, h⟩ := q_grd_ok h
      refine va_iald hx hb hK hP 1 0 rfl rfl z_4 dX4_setOf_10 ?_
      refine lv_icmp_ge (tgt := 31) hx hb dX4_setOf_11 (by decide) (fun c_5 => ?_) (fun c_5 => ?_)
      · have h := q_t c_5 h
        cases h
        exact K4_1 _ _ _ hP hD hS (lv_sub hl [0, 1, 2, 3] rfl)
      · have h := q_f c_5 h
        refine lv_iload_n hx hb dX4_setOf_14 rfl (lv_at hl 2 rfl) ?_
        refine lv_aload_n hx hb dX4_setOf_15 rfl (lv_at hl 0 rfl) ?_
        refine lv_iload_n hx hb dX4_setOf_16 rfl (lv_at hl 3 rfl) ?_
        refine lv_iload_n hx hb dX4_setOf_17 rfl (lv_at hl 1 rfl) ?_
        obtain ⟨r_6, hc_7, h⟩ := q_bd_ok h
        refine q_ci (r := r_6) (va_runV (As := [.int v3, .int v1]) (rest := [.int v2]) ⟨hx, hb, hml, hown, hts⟩ (c_X4_it l D y t q _ N F G v3 v1 r_6 hc_7) (cwV 2 hts gX4_setOf_X4_it rfl rfl rfl eX4_it ⟨Nat.le_of_ble_eq_true rfl, Nat.le_of_ble_eq_true rfl⟩) ⟨q_blind, (va_recv hK hP (ci := 4) (q0 := 0) rfl rfl), (q_pre hP hK hZ hD hA hS [0, 1, 2, 3, 4, 5, 6, 7, 8] rfl (by decide))⟩ rfl rfl hl.1 rfl (lv_room (Nat.le_of_ble_eq_true rfl)) dX4_setOf_18 ⟨Nat.zero_le _, Nat.zero_le _⟩) hP hD hA hS [0, 1, 2, 3, 4, 5, 6, 7, 8] rfl (by decide) rfl (fun H locs hP hD hS => ?_)
        have hP : va_P D vwCl (wM y q F G) H := hP
        have hD : va_D A (wM y q F G) := hD
        refine lv_iload_n hx hb dX4_setOf_21 rfl (lv_at hl 3 rfl) ?_
        refine lv_ishl hx hb dX4_setOf_22 ?_
        refine lv_ior hx hb dX4_setOf_23 ?_
        refine lv_topi (fun x_8 ex_8 => ?_)
        have h := q_let_at ex_8 h
        refine lv_istore_n (lv' := [(2, .int x_8), (0, .ref (q 0)), (1, .int v1), (3, .int v3)]) hx hb dX4_setOf_24 rfl hl (by decide) rfl (fun ls hl => ?_)
        obtain ⟨x_9, ex_9, h⟩ := q_let_ok h
        refine lv_iinc (v := x_9) (lv' := [(3, .int x_9), (2, .int x_8), (0, .ref (q 0)), (1, .int v1)]) hx hb dX4_setOf_25 hl (k := 3) rfl (by rw [ex_9]; rfl) (by decide) rfl (fun ls hl => ?_)
        refine lv_goto (tgt := 4) hx hb dX4_setOf_28 (by decide) ?_
        exact ih4_1 x_8 x_9 K4_1 _ _ _ hP hD hS (lv_sub hl [2, 3, 1, 0] rfl) h
  exact L4_1 F G p1 N (0 : Int32) (0 : Int32) K4_1 _ _ _ hP hD hS (lv_sub hl [2, 3, 1, 0] rfl) hL1
theorem eX4_setOf : yX4_setOf.cls = RX4 ∧ yX4_setOf.cls ≠ "java/lang/invoke/MethodHandle" ∧ yX4_setOf.cls ≠ "java/lang/invoke/VarHandle" ∧ (parseMethodDescriptor yX4_setOf.desc).map (fun d => d.parameters.length) = some 1 := by decide +kernel
def f_X4_others (N : Nat) (F : Nat → Nat → Int32) (G : Nat → Int64) (p1 : Int32) : Option (Int32) :=
  q_bd (f_X4_setOf N F G (3 : Int32)) (fun r_1 =>
  q_bd (f_X4_bits N (r_1 &&& (((1 : Int32) <<< (p1 &&& 31)) ^^^ (-1 : Int32)))) (fun r_3 =>
  some r_3))
set_option maxHeartbeats 4000000 in
set_option maxRecDepth 100000 in
theorem c_X4_others (l : Launch) (D : va_G) (y : Nat → ClassId) (t : Nat → Nat) (q : Nat → Nat) (sz N : Nat) (F : Nat → Nat → Int32) (G : Nat → Int64) (p1 : Int32) (res : Int32) (h : f_X4_others N F G p1 = some res) : Met l yX4_others wsX4_others ({ frames := 2, cells := 0, slots := 0, locals := 45 } : Room) (pPre D y t [.ref (q 0), .int p1] (wM y q F G) sz) (pQi D y res (wM y q F G) (va_A (wM y q F G) sz)) 0 0 (va_A (wM y q F G) sz) := by
  refine q_start (Qc := (fun A => pQi D y res (wM y q F G) A)) (cc := cX4_others) (maxL := 2) (ret := (some .int)) (by decide) rfl (Nat.le_of_ble_eq_true rfl) ?_
  intro p e s m below meth c A ls hx hb hr hts hown hlocks hmn hml hP hK hZ hD hA hS hl
  have hl : lv_has ls 2 [(0, .ref (q 0)), (1, .int p1)] := hl
  have hown : s.vm.findClass RX4 = some m.cls := hown
  unfold f_X4_others at h
  refine lv_aload_n hx hb dX4_others_0 rfl (lv_at hl 0 rfl) ?_
  refine lv_iconst (v := 3) hx hb dX4_others_1 (by decide) ?_
  obtain ⟨r_1, hc_2, h⟩ := q_bd_ok h
  refine q_ci (r := r_1) (va_runV (As := [.int (3 : Int32)]) (rest := []) ⟨hx, hb, hml, hown, hts⟩ (c_X4_setOf l D y t q _ N F G (3 : Int32) r_1 hc_2) (cwV 1 hts gX4_others_X4_setOf rfl rfl rfl eX4_setOf ⟨Nat.le_of_ble_eq_true rfl, Nat.le_of_ble_eq_true rfl⟩) ⟨q_blind, (va_recv hK hP (ci := 4) (q0 := 0) rfl rfl), (q_pre hP hK hZ hD hA hS [0, 1, 2, 3, 4, 5, 6, 7, 8] rfl (by decide))⟩ rfl rfl hl.1 rfl (lv_room (Nat.le_of_ble_eq_true rfl)) dX4_others_2 ⟨Nat.zero_le _, Nat.zero_le _⟩) hP hD hA hS [0, 1, 2, 3, 4, 5, 6, 7, 8] rfl (by decide) rfl (fun H locs hP hD hS => ?_)
  have hP : va_P D vwCl (wM y q F G) H := hP
  have hD : va_D A (wM y q F G) := hD
  refine lv_iconst (v := 1) hx hb dX4_others_5 (by decide) ?_
  refine lv_iload_n hx hb dX4_others_6 rfl (lv_at hl 1 rfl) ?_
  refine lv_ishl hx hb dX4_others_7 ?_
  refine lv_iconst (v := -1) hx hb dX4_others_8 (by decide) ?_
  refine lv_ixor hx hb dX4_others_9 ?_
  refine lv_iand hx hb dX4_others_10 ?_
  obtain ⟨r_3, hc_4, h⟩ := q_bd_ok h
  refine q_ci (r := r_3) (va_runS (As := [.int (r_1 &&& (((1 : Int32) <<< (p1 &&& 31)) ^^^ (-1 : Int32)))]) (rest := []) ⟨hx, hb, hml, hown, hts⟩ (c_X4_bits l D y t q _ N (r_1 &&& (((1 : Int32) <<< (p1 &&& 31)) ^^^ (-1 : Int32))) r_3 hc_4) (va_cwS 1 hts gX4_others_X4_bits rfl rfl rfl eX4_bits ⟨Nat.le_of_ble_eq_true rfl, Nat.le_of_ble_eq_true rfl⟩) ⟨q_blind, (q_pre hP hK hZ hD hA hS [] rfl (by decide))⟩ rfl rfl hl.1 rfl (lv_room (Nat.le_of_ble_eq_true rfl)) dX4_others_11 ⟨Nat.zero_le _, Nat.zero_le _⟩) hP hD hA hS [] rfl (by decide) rfl (fun H locs hP hD hS => ?_)
  have hP : va_P D vwCl (wM y q F G) H := hP
  have hD : va_D A (wM y q F G) := hD
  have e9 := Option.some.inj h
  exact q_iret hx hb hr hlocks hK hP hD hS dX4_others_14 (by first | rw [← e9] | rfl) (by first | rw [← e9] | rfl)
theorem eX4_others : yX4_others.cls = RX4 ∧ yX4_others.cls ≠ "java/lang/invoke/MethodHandle" ∧ yX4_others.cls ≠ "java/lang/invoke/VarHandle" ∧ (parseMethodDescriptor yX4_others.desc).map (fun d => d.parameters.length) = some 1 := by decide +kernel
def f_X4_weighs (N : Nat) (F : Nat → Nat → Int32) (G : Nat → Int64) (p1 : Int32) : Option (Int32) :=
  q_bd (f_X4_it N F G p1 (4 : Int32)) (fun r_1 =>
  q_let ((1 : Int32) + (r_1 / (25 : Int32))) (fun x_3 =>
  q_bd (f_X4_it N F G p1 (0 : Int32)) (fun r_4 =>
  if r_4 = 1 then
    some x_3
  else
    if r_4 = 2 then
      some (4 : Int32)
    else
      if r_4 = 3 then
        some (5 : Int32)
      else
        if r_4 = 4 then
          some (x_3 + (1 : Int32))
        else
          if r_4 = 5 then
            some (2 : Int32)
          else
            some (3 : Int32))))
set_option maxHeartbeats 4000000 in
set_option maxRecDepth 100000 in
theorem c_X4_weighs (l : Launch) (D : va_G) (y : Nat → ClassId) (t : Nat → Nat) (q : Nat → Nat) (sz N : Nat) (F : Nat → Nat → Int32) (G : Nat → Int64) (p1 : Int32) (res : Int32) (h : f_X4_weighs N F G p1 = some res) : Met l yX4_weighs wsX4_weighs ({ frames := 1, cells := 0, slots := 0, locals := 22 } : Room) (pPre D y t [.ref (q 0), .int p1] (wM y q F G) sz) (pQi D y res (wM y q F G) (va_A (wM y q F G) sz)) 0 0 (va_A (wM y q F G) sz) := by
  refine q_start (Qc := (fun A => pQi D y res (wM y q F G) A)) (cc := cX4_weighs) (maxL := 3) (ret := (some .int)) (by decide) rfl (Nat.le_of_ble_eq_true rfl) ?_
  intro p e s m below meth c A ls hx hb hr hts hown hlocks hmn hml hP hK hZ hD hA hS hl
  have hl : lv_has ls 3 [(0, .ref (q 0)), (1, .int p1)] := hl
  have hown : s.vm.findClass RX4 = some m.cls := hown
  unfold f_X4_weighs at h
  refine lv_iconst (v := 1) hx hb dX4_weighs_0 (by decide) ?_
  refine lv_aload_n hx hb dX4_weighs_1 rfl (lv_at hl 0 rfl) ?_
  refine lv_iload_n hx hb dX4_weighs_2 rfl (lv_at hl 1 rfl) ?_
  refine lv_iconst (v := 4) hx hb dX4_weighs_3 (by decide) ?_
  obtain ⟨r_1, hc_2, h⟩ := q_bd_ok h
  refine q_ci (r := r_1) (va_runV (As := [.int p1, .int (4 : Int32)]) (rest := [.int (1 : Int32)]) ⟨hx, hb, hml, hown, hts⟩ (c_X4_it l D y t q _ N F G p1 (4 : Int32) r_1 hc_2) (cwV 2 hts gX4_weighs_X4_it rfl rfl rfl eX4_it ⟨Nat.le_of_ble_eq_true rfl, Nat.le_of_ble_eq_true rfl⟩) ⟨q_blind, (va_recv hK hP (ci := 4) (q0 := 0) rfl rfl), (q_pre hP hK hZ hD hA hS [0, 1, 2, 3, 4, 5, 6, 7, 8] rfl (by decide))⟩ rfl rfl hl.1 rfl (lv_room (Nat.le_of_ble_eq_true rfl)) dX4_weighs_4 ⟨Nat.zero_le _, Nat.zero_le _⟩) hP hD hA hS [0, 1, 2, 3, 4, 5, 6, 7, 8] rfl (by decide) rfl (fun H locs hP hD hS => ?_)
  have hP : va_P D vwCl (wM y q F G) H := hP
  have hD : va_D A (wM y q F G) := hD
  refine lv_bipush (v := 25) hx hb dX4_weighs_7 (by decide) ?_
  refine lv_idiv hx hb dX4_weighs_9 (by decide) ?_
  refine lv_iadd hx hb dX4_weighs_10 ?_
  refine lv_topi (fun x_3 ex_3 => ?_)
  have h := q_let_at ex_3 h
  refine lv_istore_n (lv' := [(2, .int x_3), (0, .ref (q 0)), (1, .int p1)]) hx hb dX4_weighs_11 rfl hl (by decide) rfl (fun ls hl => ?_)
  refine lv_aload_n hx hb dX4_weighs_12 rfl (lv_at hl 1 rfl) ?_
  refine lv_iload_n hx hb dX4_weighs_13 rfl (lv_at hl 2 rfl) ?_
  refine lv_iconst (v := 0) hx hb dX4_weighs_14 (by decide) ?_
  obtain ⟨r_4, hc_5, h⟩ := q_bd_ok h
  refine q_ci (r := r_4) (va_runV (As := [.int p1, .int (0 : Int32)]) (rest := []) ⟨hx, hb, hml, hown, hts⟩ (c_X4_it l D y t q _ N F G p1 (0 : Int32) r_4 hc_5) (cwV 2 hts gX4_weighs_X4_it rfl rfl rfl eX4_it ⟨Nat.le_of_ble_eq_true rfl, Nat.le_of_ble_eq_true rfl⟩) ⟨q_blind, (va_recv hK hP (ci := 4) (q0 := 0) rfl rfl), (q_pre hP hK hZ hD hA hS [0, 1, 2, 3, 4, 5, 6, 7, 8] rfl (by decide))⟩ rfl rfl hl.1 rfl (lv_room (Nat.le_of_ble_eq_true rfl)) dX4_weighs_15 ⟨Nat.zero_le _, Nat.zero_le _⟩) hP hD hA hS [0, 1, 2, 3, 4, 5, 6, 7, 8] rfl (by decide) rfl (fun H locs hP hD hS => ?_)
  have hP : va_P D vwCl (wM y q F G) H := hP
  have hD : va_D A (wM y q F G) := hD
  by_cases c_6 : r_4 = 1
  · have h := q_t c_6 h
    refine lv_tableIn (tgt := 52) (off := 34) hx hb dX4_weighs_18 (by rw [c_6]; decide) (by rw [c_6]; decide) (by rw [c_6]; rfl) (by decide) ?_
    refine lv_iload_n hx hb dX4_weighs_52 rfl (lv_at hl 0 rfl) ?_
    have e9 := Option.some.inj h
    exact q_iret hx hb hr hlocks hK hP hD hS dX4_weighs_53 (by first | rw [← e9] | rfl) (by first | rw [← e9] | rfl)
  · have h := q_f c_6 h
    by_cases c_7 : r_4 = 2
    · have h := q_t c_7 h
      refine lv_tableIn (tgt := 54) (off := 36) hx hb dX4_weighs_18 (by rw [c_7]; decide) (by rw [c_7]; decide) (by rw [c_7]; rfl) (by decide) ?_
      refine lv_iconst (v := 4) hx hb dX4_weighs_54 (by decide) ?_
      have e9 := Option.some.inj h
      exact q_iret hx hb hr hlocks hK hP hD hS dX4_weighs_55 (by first | rw [← e9] | rfl) (by first | rw [← e9] | rfl)
    · have h := q_f c_7 h
      by_cases c_8 : r_4 = 3
      · have h := q_t c_8 h
        refine lv_tableIn (tgt := 56) (off := 38) hx hb dX4_weighs_18 (by rw [c_8]; decide) (by rw [c_8]; decide) (by rw [c_8]; rfl) (by decide) ?_
        refine lv_iconst (v := 5) hx hb dX4_weighs_56 (by decide) ?_
        have e9 := Option.some.inj h
        exact q_iret hx hb hr hlocks hK hP hD hS dX4_weighs_57 (by first | rw [← e9] | rfl) (by first | rw [← e9] | rfl)
      · have h := q_f c_8 h
        by_cases c_9 : r_4 = 4
        · have h := q_t c_9 h
          refine lv_tableIn (tgt := 58) (off := 40) hx hb dX4_weighs_18 (by rw [c_9]; decide) (by rw [c_9]; decide) (by rw [c_9]; rfl) (by decide) ?_
          refine lv_iload_n hx hb dX4_weighs_58 rfl (lv_at hl 0 rfl) ?_
          refine lv_iconst (v := 1) hx hb dX4_weighs_59 (by decide) ?_
          refine lv_iadd hx hb dX4_weighs_60 ?_
          have e9 := Option.some.inj h
          exact q_iret hx hb hr hlocks hK hP hD hS dX4_weighs_61 (by first | rw [← e9] | rfl) (by first | rw [← e9] | rfl)
        · have h := q_f c_9 h
          by_cases c_10 : r_4 = 5
          · have h := q_t c_10 h
            refine lv_tableIn (tgt := 62) (off := 44) hx hb dX4_weighs_18 (by rw [c_10]; decide) (by rw [c_10]; decide) (by rw [c_10]; rfl) (by decide) ?_
            refine lv_iconst (v := 2) hx hb dX4_weighs_62 (by decide) ?_
            have e9 := Option.some.inj h
            exact q_iret hx hb hr hlocks hK hP hD hS dX4_weighs_63 (by first | rw [← e9] | rfl) (by first | rw [← e9] | rfl)
          · have h := q_f c_10 h
            have nc_6 := lv_neT c_6 (show ((1 : Int32)).toInt = 1 from by decide)
            have nc_7 := lv_neT c_7 (show ((2 : Int32)).toInt = 2 from by decide)
            have nc_8 := lv_neT c_8 (show ((3 : Int32)).toInt = 3 from by decide)
            have nc_9 := lv_neT c_9 (show ((4 : Int32)).toInt = 4 from by decide)
            have nc_10 := lv_neT c_10 (show ((5 : Int32)).toInt = 5 from by decide)
            refine lv_tableOut (tgt := 64) hx hb dX4_weighs_18 (by omega) (by decide) ?_
            refine lv_iconst (v := 3) hx hb dX4_weighs_64 (by decide) ?_
            have e9 := Option.some.inj h
            exact q_iret hx hb hr hlocks hK hP hD hS dX4_weighs_65 (by first | rw [← e9] | rfl) (by first | rw [← e9] | rfl)
theorem eX4_weighs : yX4_weighs.cls = RX4 ∧ yX4_weighs.cls ≠ "java/lang/invoke/MethodHandle" ∧ yX4_weighs.cls ≠ "java/lang/invoke/VarHandle" ∧ (parseMethodDescriptor yX4_weighs.desc).map (fun d => d.parameters.length) = some 1 := by decide +kernel
theorem uX4_dries_X4 : ∀ w ∈ u_ws RX4 TX4 15, w ∈ wsX4_dries := by decide +kernel
theorem kX4_dries_1 : Cond.fieldLink RX4 9 "BeamSeatsModel" "m" "[I" ∈ wsX4_dries := List.mem_of_getElem? (i := 1) (by decide +kernel)
def f_X4_dries (N : Nat) (F : Nat → Nat → Int32) (G : Nat → Int64) (p1 : Int32) : Option (Int32) :=
  q_bd (f_X4_it N F G p1 (2 : Int32)) (fun r_1 =>
  q_let ((3 : Int32) + (r_1 / (3 : Int32))) (fun x_3 =>
  q_bd (f_X4_it N F G p1 (0 : Int32)) (fun r_4 =>
  if r_4 = 1 then
    some x_3
  else
    if r_4 = 2 then
      some (1 : Int32)
    else
      if r_4 = 3 then
        some (0 : Int32)
      else
        if r_4 = 4 then
          q_grd (2 : Int32) 69 (
          some (x_3 + ((F 1 (2 : Int32).toNatClampNeg) / (2 : Int32))))
        else
          some (1 : Int32))))
set_option maxHeartbeats 4000000 in
set_option maxRecDepth 100000 in
theorem c_X4_dries (l : Launch) (D : va_G) (y : Nat → ClassId) (t : Nat → Nat) (q : Nat → Nat) (sz N : Nat) (F : Nat → Nat → Int32) (G : Nat → Int64) (p1 : Int32) (res : Int32) (h : f_X4_dries N F G p1 = some res) : Met l yX4_dries wsX4_dries ({ frames := 1, cells := 0, slots := 0, locals := 22 } : Room) (pPre D y t [.ref (q 0), .int p1] (wM y q F G) sz) (pQi D y res (wM y q F G) (va_A (wM y q F G) sz)) 0 0 (va_A (wM y q F G) sz) := by
  refine q_start (Qc := (fun A => pQi D y res (wM y q F G) A)) (cc := cX4_dries) (maxL := 3) (ret := (some .int)) (by decide) rfl (Nat.le_of_ble_eq_true rfl) ?_
  intro p e s m below meth c A ls hx hb hr hts hown hlocks hmn hml hP hK hZ hD hA hS hl
  have hl : lv_has ls 3 [(0, .ref (q 0)), (1, .int p1)] := hl
  have hown : s.vm.findClass RX4 = some m.cls := hown
  unfold f_X4_dries at h
  refine lv_iconst (v := 3) hx hb dX4_dries_0 (by decide) ?_
  refine lv_aload_n hx hb dX4_dries_1 rfl (lv_at hl 0 rfl) ?_
  refine lv_iload_n hx hb dX4_dries_2 rfl (lv_at hl 1 rfl) ?_
  refine lv_iconst (v := 2) hx hb dX4_dries_3 (by decide) ?_
  obtain ⟨r_1, hc_2, h⟩ := q_bd_ok h
  refine q_ci (r := r_1) (va_runV (As := [.int p1, .int (2 : Int32)]) (rest := [.int (3 : Int32)]) ⟨hx, hb, hml, hown, hts⟩ (c_X4_it l D y t q _ N F G p1 (2 : Int32) r_1 hc_2) (cwV 2 hts gX4_dries_X4_it rfl rfl rfl eX4_it ⟨Nat.le_of_ble_eq_true rfl, Nat.le_of_ble_eq_true rfl⟩) ⟨q_blind, (va_recv hK hP (ci := 4) (q0 := 0) rfl rfl), (q_pre hP hK hZ hD hA hS [0, 1, 2, 3, 4, 5, 6, 7, 8] rfl (by decide))⟩ rfl rfl hl.1 rfl (lv_room (Nat.le_of_ble_eq_true rfl)) dX4_dries_4 ⟨Nat.zero_le _, Nat.zero_le _⟩) hP hD hA hS [0, 1, 2, 3, 4, 5, 6, 7, 8] rfl (by decide) rfl (fun H locs hP hD hS => ?_)
  have hP : va_P D vwCl (wM y q F G) H := hP
  have hD : va_D A (wM y q F G) := hD
  refine lv_iconst (v := 3) hx hb dX4_dries_7 (by decide) ?_
  refine lv_idiv hx hb dX4_dries_8 (by decide) ?_
  refine lv_iadd hx hb dX4_dries_9 ?_
  refine lv_topi (fun x_3 ex_3 => ?_)
  have h := q_let_at ex_3 h
  refine lv_istore_n (lv' := [(2, .int x_3), (0, .ref (q 0)), (1, .int p1)]) hx hb dX4_dries_10 rfl hl (by decide) rfl (fun ls hl => ?_)
  refine lv_aload_n hx hb dX4_dries_11 rfl (lv_at hl 1 rfl) ?_
  refine lv_iload_n hx hb dX4_dries_12 rfl (lv_at hl 2 rfl) ?_
  refine lv_iconst (v := 0) hx hb dX4_dries_13 (by decide) ?_
  obtain ⟨r_4, hc_5, h⟩ := q_bd_ok h
  refine q_ci (r := r_4) (va_runV (As := [.int p1, .int (0 : Int32)]) (rest := []) ⟨hx, hb, hml, hown, hts⟩ (c_X4_it l D y t q _ N F G p1 (0 : Int32) r_4 hc_5) (cwV 2 hts gX4_dries_X4_it rfl rfl rfl eX4_it ⟨Nat.le_of_ble_eq_true rfl, Nat.le_of_ble_eq_true rfl⟩) ⟨q_blind, (va_recv hK hP (ci := 4) (q0 := 0) rfl rfl), (q_pre hP hK hZ hD hA hS [0, 1, 2, 3, 4, 5, 6, 7, 8] rfl (by decide))⟩ rfl rfl hl.1 rfl (lv_room (Nat.le_of_ble_eq_true rfl)) dX4_dries_14 ⟨Nat.zero_le _, Nat.zero_le _⟩) hP hD hA hS [0, 1, 2, 3, 4, 5, 6, 7, 8] rfl (by decide) rfl (fun H locs hP hD hS => ?_)
  have hP : va_P D vwCl (wM y q F G) H := hP
  have hD : va_D A (wM y q F G) := hD
  by_cases c_6 : r_4 = 1
  · have h := q_t c_6 h
    refine lv_tableIn (tgt := 48) (off := 31) hx hb dX4_dries_17 (by rw [c_6]; decide) (by rw [c_6]; decide) (by rw [c_6]; rfl) (by decide) ?_
    refine lv_iload_n hx hb dX4_dries_48 rfl (lv_at hl 0 rfl) ?_
    have e9 := Option.some.inj h
    exact q_iret hx hb hr hlocks hK hP hD hS dX4_dries_49 (by first | rw [← e9] | rfl) (by first | rw [← e9] | rfl)
  · have h := q_f c_6 h
    by_cases c_7 : r_4 = 2
    · have h := q_t c_7 h
      refine lv_tableIn (tgt := 63) (off := 46) hx hb dX4_dries_17 (by rw [c_7]; decide) (by rw [c_7]; decide) (by rw [c_7]; rfl) (by decide) ?_
      refine lv_iconst (v := 1) hx hb dX4_dries_63 (by decide) ?_
      have e9 := Option.some.inj h
      exact q_iret hx hb hr hlocks hK hP hD hS dX4_dries_64 (by first | rw [← e9] | rfl) (by first | rw [← e9] | rfl)
    · have h := q_f c_7 h
      by_cases c_8 : r_4 = 3
      · have h := q_t c_8 h
        refine lv_tableIn (tgt := 50) (off := 33) hx hb dX4_dries_17 (by rw [c_8]; decide) (by rw [c_8]; decide) (by rw [c_8]; rfl) (by decide) ?_
        refine lv_iconst (v := 0) hx hb dX4_dries_50 (by decide) ?_
        have e9 := Option.some.inj h
        exact q_iret hx hb hr hlocks hK hP hD hS dX4_dries_51 (by first | rw [← e9] | rfl) (by first | rw [← e9] | rfl)
      · have h := q_f c_8 h
        by_cases c_9 : r_4 = 4
        · have h := q_t c_9 h
          refine lv_tableIn (tgt := 52) (off := 35) hx hb dX4_dries_17 (by rw [c_9]; decide) (by rw [c_9]; decide) (by rw [c_9]; rfl) (by decide) ?_
          refine lv_iload_n hx hb dX4_dries_52 rfl (lv_at hl 0 rfl) ?_
          refine lv_aload_n hx hb dX4_dries_53 rfl (lv_at hl 1 rfl) ?_
          refine va_get (D := D) (ci := 4) (v := .ref (q 1)) (C := RX4) (T := TX4) (N := 15) hx hb hts uX4_dries_X4 hown hK hP 0 rfl rfl 0 (by decide) (hts _ kX4_dries_1) (fun _ h9 => h9) rfl dX4_dries_54 ?_
          refine lv_iconst (v := 2) hx hb dX4_dries_57 (by decide) ?_
          obtain ⟨z_10, h⟩ := q_grd_ok h
          refine va_iald hx hb hK hP 1 0 rfl rfl z_10 dX4_dries_58 ?_
          refine lv_iconst (v := 2) hx hb dX4_dries_59 (by decide) ?_
          refine lv_idiv hx hb dX4_dries_60 (by decide) ?_
          refine lv_iadd hx hb dX4_dries_61 ?_
          have e9 := Option.some.inj h
          exact q_iret hx hb hr hlocks hK hP hD hS dX4_dries_62 (by first | rw [← e9] | rfl) (by first | rw [← e9] | rfl)
        · have h := q_f c_9 h
          have nc_6 := lv_neT c_6 (show ((1 : Int32)).toInt = 1 from by decide)
          have nc_7 := lv_neT c_7 (show ((2 : Int32)).toInt = 2 from by decide)
          have nc_8 := lv_neT c_8 (show ((3 : Int32)).toInt = 3 from by decide)
          have nc_9 := lv_neT c_9 (show ((4 : Int32)).toInt = 4 from by decide)
          refine lv_tableOut (tgt := 63) hx hb dX4_dries_17 (by omega) (by decide) ?_
          refine lv_iconst (v := 1) hx hb dX4_dries_63 (by decide) ?_
          have e9 := Option.some.inj h
          exact q_iret hx hb hr hlocks hK hP hD hS dX4_dries_64 (by first | rw [← e9] | rfl) (by first | rw [← e9] | rfl)
theorem eX4_dries : yX4_dries.cls = RX4 ∧ yX4_dries.cls ≠ "java/lang/invoke/MethodHandle" ∧ yX4_dries.cls ≠ "java/lang/invoke/VarHandle" ∧ (parseMethodDescriptor yX4_dries.desc).map (fun d => d.parameters.length) = some 1 := by decide +kernel
theorem uX4_getsOn_X4 : ∀ w ∈ u_ws RX4 TX4 15, w ∈ wsX4_getsOn := by decide +kernel
theorem kX4_getsOn_1 : Cond.fieldLink RX4 9 "BeamSeatsModel" "m" "[I" ∈ wsX4_getsOn := List.mem_of_getElem? (i := 1) (by decide +kernel)
def f_X4_getsOn (N : Nat) (F : Nat → Nat → Int32) (G : Nat → Int64) (p1 : Int32) : Option (Int32) :=
  q_bd (f_X4_it N F G p1 (0 : Int32)) (fun r_1 =>
  if r_1 = 1 then
    q_bd (f_X4_it N F G p1 (4 : Int32)) (fun r_4 =>
    if r_4 ≤ 0 then
      some (0 : Int32)
    else
      some (1 : Int32))
  else
    if r_1 = 2 then
      q_bd (f_X4_it N F G p1 (1 : Int32)) (fun r_8 =>
      q_bd (f_X4_it N F G p1 (5 : Int32)) (fun r_10 =>
      if r_8 = r_10 then
        some (0 : Int32)
      else
        some (1 : Int32)))
    else
      if r_1 = 3 then
        q_bd (f_X4_others N F G p1) (fun r_14 =>
        if (3 : Int32) ≤ r_14 then
          some (0 : Int32)
        else
          some (1 : Int32))
      else
        if r_1 = 4 then
          q_bd (f_X4_it N F G p1 (4 : Int32)) (fun r_18 =>
          if r_18 ≤ 0 then
            some (0 : Int32)
          else
            q_grd (2 : Int32) 69 (
            if (5 : Int32) < (F 1 (2 : Int32).toNatClampNeg) then
              some (0 : Int32)
            else
              some (1 : Int32)))
        else
          if r_1 = 5 then
            q_bd (f_X4_it N F G p1 (1 : Int32)) (fun r_24 =>
            q_bd (f_X4_it N F G p1 (5 : Int32)) (fun r_26 =>
            if r_24 = r_26 then
              some (0 : Int32)
            else
              q_bd (f_X4_others N F G p1) (fun r_29 =>
              if r_29 ≤ 0 then
                some (0 : Int32)
              else
                some (1 : Int32))))
          else
            some (0 : Int32))
set_option maxHeartbeats 4000000 in
set_option maxRecDepth 100000 in
theorem c_X4_getsOn (l : Launch) (D : va_G) (y : Nat → ClassId) (t : Nat → Nat) (q : Nat → Nat) (sz N : Nat) (F : Nat → Nat → Int32) (G : Nat → Int64) (p1 : Int32) (res : Int32) (h : f_X4_getsOn N F G p1 = some res) : Met l yX4_getsOn wsX4_getsOn ({ frames := 3, cells := 0, slots := 0, locals := 66 } : Room) (pPre D y t [.ref (q 0), .int p1] (wM y q F G) sz) (pQi D y res (wM y q F G) (va_A (wM y q F G) sz)) 0 0 (va_A (wM y q F G) sz) := by
  refine q_start (Qc := (fun A => pQi D y res (wM y q F G) A)) (cc := cX4_getsOn) (maxL := 2) (ret := (some .boolean)) (by decide) rfl (Nat.le_of_ble_eq_true rfl) ?_
  intro p e s m below meth c A ls hx hb hr hts hown hlocks hmn hml hP hK hZ hD hA hS hl
  have hl : lv_has ls 2 [(0, .ref (q 0)), (1, .int p1)] := hl
  have hown : s.vm.findClass RX4 = some m.cls := hown
  unfold f_X4_getsOn at h
  refine lv_aload_n hx hb dX4_getsOn_0 rfl (lv_at hl 0 rfl) ?_
  refine lv_iload_n hx hb dX4_getsOn_1 rfl (lv_at hl 1 rfl) ?_
  refine lv_iconst (v := 0) hx hb dX4_getsOn_2 (by decide) ?_
  obtain ⟨r_1, hc_2, h⟩ := q_bd_ok h
  refine q_ci (r := r_1) (va_runV (As := [.int p1, .int (0 : Int32)]) (rest := []) ⟨hx, hb, hml, hown, hts⟩ (c_X4_it l D y t q _ N F G p1 (0 : Int32) r_1 hc_2) (cwV 2 hts gX4_getsOn_X4_it rfl rfl rfl eX4_it ⟨Nat.le_of_ble_eq_true rfl, Nat.le_of_ble_eq_true rfl⟩) ⟨q_blind, (va_recv hK hP (ci := 4) (q0 := 0) rfl rfl), (q_pre hP hK hZ hD hA hS [0, 1, 2, 3, 4, 5, 6, 7, 8] rfl (by decide))⟩ rfl rfl hl.1 rfl (lv_room (Nat.le_of_ble_eq_true rfl)) dX4_getsOn_3 ⟨Nat.zero_le _, Nat.zero_le _⟩) hP hD hA hS [0, 1, 2, 3, 4, 5, 6, 7, 8] rfl (by decide) rfl (fun H locs hP hD hS => ?_)
  have hP : va_P D vwCl (wM y q F G) H := hP
  have hD : va_D A (wM y q F G) := hD
  by_cases c_3 : r_1 = 1
  · have h := q_t c_3 h
    refine lv_tableIn (tgt := 40) (off := 34) hx hb dX4_getsOn_6 (by rw [c_3]; decide) (by rw [c_3]; decide) (by rw [c_3]; rfl) (by decide) ?_
    refine lv_aload_n hx hb dX4_getsOn_40 rfl (lv_at hl 0 rfl) ?_
    refine lv_iload_n hx hb dX4_getsOn_41 rfl (lv_at hl 1 rfl) ?_
    refine lv_iconst (v := 4) hx hb dX4_getsOn_42 (by decide) ?_
    obtain ⟨r_4, hc_5, h⟩ := q_bd_ok h
    refine q_ci (r := r_4) (va_runV (As := [.int p1, .int (4 : Int32)]) (rest := []) ⟨hx, hb, hml, hown, hts⟩ (c_X4_it l D y t q _ N F G p1 (4 : Int32) r_4 hc_5) (cwV 2 hts gX4_getsOn_X4_it rfl rfl rfl eX4_it ⟨Nat.le_of_ble_eq_true rfl, Nat.le_of_ble_eq_true rfl⟩) ⟨q_blind, (va_recv hK hP (ci := 4) (q0 := 0) rfl rfl), (q_pre hP hK hZ hD hA hS [0, 1, 2, 3, 4, 5, 6, 7, 8] rfl (by decide))⟩ rfl rfl hl.1 rfl (lv_room (Nat.le_of_ble_eq_true rfl)) dX4_getsOn_43 ⟨Nat.zero_le _, Nat.zero_le _⟩) hP hD hA hS [0, 1, 2, 3, 4, 5, 6, 7, 8] rfl (by decide) rfl (fun H locs hP hD hS => ?_)
    have hP : va_P D vwCl (wM y q F G) H := hP
    have hD : va_D A (wM y q F G) := hD
    refine lv_if_le (tgt := 53) hx hb dX4_getsOn_46 (by decide) (fun c_6 => ?_) (fun c_6 => ?_)
    · have h := q_t c_6 h
      refine lv_iconst (v := 0) hx hb dX4_getsOn_53 (by decide) ?_
      have e9 := Option.some.inj h
      exact q_zret hx hb hr hlocks hK hP hD hS dX4_getsOn_54 rfl (by first | rw [← e9] | rfl) (by first | rw [← e9] | rfl)
    · have h := q_f c_6 h
      refine lv_iconst (v := 1) hx hb dX4_getsOn_49 (by decide) ?_
      refine lv_goto (tgt := 54) hx hb dX4_getsOn_50 (by decide) ?_
      have e9 := Option.some.inj h
      exact q_zret hx hb hr hlocks hK hP hD hS dX4_getsOn_54 rfl (by first | rw [← e9] | rfl) (by first | rw [← e9] | rfl)
  · have h := q_f c_3 h
    by_cases c_7 : r_1 = 2
    · have h := q_t c_7 h
      refine lv_tableIn (tgt := 55) (off := 49) hx hb dX4_getsOn_6 (by rw [c_7]; decide) (by rw [c_7]; decide) (by rw [c_7]; rfl) (by decide) ?_
      refine lv_aload_n hx hb dX4_getsOn_55 rfl (lv_at hl 0 rfl) ?_
      refine lv_iload_n hx hb dX4_getsOn_56 rfl (lv_at hl 1 rfl) ?_
      refine lv_iconst (v := 1) hx hb dX4_getsOn_57 (by decide) ?_
      obtain ⟨r_8, hc_9, h⟩ := q_bd_ok h
      refine q_ci (r := r_8) (va_runV (As := [.int p1, .int (1 : Int32)]) (rest := []) ⟨hx, hb, hml, hown, hts⟩ (c_X4_it l D y t q _ N F G p1 (1 : Int32) r_8 hc_9) (cwV 2 hts gX4_getsOn_X4_it rfl rfl rfl eX4_it ⟨Nat.le_of_ble_eq_true rfl, Nat.le_of_ble_eq_true rfl⟩) ⟨q_blind, (va_recv hK hP (ci := 4) (q0 := 0) rfl rfl), (q_pre hP hK hZ hD hA hS [0, 1, 2, 3, 4, 5, 6, 7, 8] rfl (by decide))⟩ rfl rfl hl.1 rfl (lv_room (Nat.le_of_ble_eq_true rfl)) dX4_getsOn_58 ⟨Nat.zero_le _, Nat.zero_le _⟩) hP hD hA hS [0, 1, 2, 3, 4, 5, 6, 7, 8] rfl (by decide) rfl (fun H locs hP hD hS => ?_)
      have hP : va_P D vwCl (wM y q F G) H := hP
      have hD : va_D A (wM y q F G) := hD
      refine lv_aload_n hx hb dX4_getsOn_61 rfl (lv_at hl 0 rfl) ?_
      refine lv_iload_n hx hb dX4_getsOn_62 rfl (lv_at hl 1 rfl) ?_
      refine lv_iconst (v := 5) hx hb dX4_getsOn_63 (by decide) ?_
      obtain ⟨r_10, hc_11, h⟩ := q_bd_ok h
      refine q_ci (r := r_10) (va_runV (As := [.int p1, .int (5 : Int32)]) (rest := [.int r_8]) ⟨hx, hb, hml, hown, hts⟩ (c_X4_it l D y t q _ N F G p1 (5 : Int32) r_10 hc_11) (cwV 2 hts gX4_getsOn_X4_it rfl rfl rfl eX4_it ⟨Nat.le_of_ble_eq_true rfl, Nat.le_of_ble_eq_true rfl⟩) ⟨q_blind, (va_recv hK hP (ci := 4) (q0 := 0) rfl rfl), (q_pre hP hK hZ hD hA hS [0, 1, 2, 3, 4, 5, 6, 7, 8] rfl (by decide))⟩ rfl rfl hl.1 rfl (lv_room (Nat.le_of_ble_eq_true rfl)) dX4_getsOn_64 ⟨Nat.zero_le _, Nat.zero_le _⟩) hP hD hA hS [0, 1, 2, 3, 4, 5, 6, 7, 8] rfl (by decide) rfl (fun H locs hP hD hS => ?_)
      have hP : va_P D vwCl (wM y q F G) H := hP
      have hD : va_D A (wM y q F G) := hD
      refine lv_icmp_eq (tgt := 74) hx hb dX4_getsOn_67 (by decide) (fun c_12 => ?_) (fun c_12 => ?_)
      · have h := q_t c_12 h
        refine lv_iconst (v := 0) hx hb dX4_getsOn_74 (by decide) ?_
        have e9 := Option.some.inj h
        exact q_zret hx hb hr hlocks hK hP hD hS dX4_getsOn_75 rfl (by first | rw [← e9] | rfl) (by first | rw [← e9] | rfl)
      · have h := q_f c_12 h
        refine lv_iconst (v := 1) hx hb dX4_getsOn_70 (by decide) ?_
        refine lv_goto (tgt := 75) hx hb dX4_getsOn_71 (by decide) ?_
        have e9 := Option.some.inj h
        exact q_zret hx hb hr hlocks hK hP hD hS dX4_getsOn_75 rfl (by first | rw [← e9] | rfl) (by first | rw [← e9] | rfl)
    · have h := q_f c_7 h
      by_cases c_13 : r_1 = 3
      · have h := q_t c_13 h
        refine lv_tableIn (tgt := 76) (off := 70) hx hb dX4_getsOn_6 (by rw [c_13]; decide) (by rw [c_13]; decide) (by rw [c_13]; rfl) (by decide) ?_
        refine lv_aload_n hx hb dX4_getsOn_76 rfl (lv_at hl 0 rfl) ?_
        refine lv_iload_n hx hb dX4_getsOn_77 rfl (lv_at hl 1 rfl) ?_
        obtain ⟨r_14, hc_15, h⟩ := q_bd_ok h
        refine q_ci (r := r_14) (va_runV (As := [.int p1]) (rest := []) ⟨hx, hb, hml, hown, hts⟩ (c_X4_others l D y t q _ N F G p1 r_14 hc_15) (cwV 1 hts gX4_getsOn_X4_others rfl rfl rfl eX4_others ⟨Nat.le_of_ble_eq_true rfl, Nat.le_of_ble_eq_true rfl⟩) ⟨q_blind, (va_recv hK hP (ci := 4) (q0 := 0) rfl rfl), (q_pre hP hK hZ hD hA hS [0, 1, 2, 3, 4, 5, 6, 7, 8] rfl (by decide))⟩ rfl rfl hl.1 rfl (lv_room (Nat.le_of_ble_eq_true rfl)) dX4_getsOn_78 ⟨Nat.zero_le _, Nat.zero_le _⟩) hP hD hA hS [0, 1, 2, 3, 4, 5, 6, 7, 8] rfl (by decide) rfl (fun H locs hP hD hS => ?_)
        have hP : va_P D vwCl (wM y q F G) H := hP
        have hD : va_D A (wM y q F G) := hD
        refine lv_iconst (v := 3) hx hb dX4_getsOn_81 (by decide) ?_
        refine lv_icmp_ge (tgt := 89) hx hb dX4_getsOn_82 (by decide) (fun c_16 => ?_) (fun c_16 => ?_)
        · have h := q_t c_16 h
          refine lv_iconst (v := 0) hx hb dX4_getsOn_89 (by decide) ?_
          have e9 := Option.some.inj h
          exact q_zret hx hb hr hlocks hK hP hD hS dX4_getsOn_90 rfl (by first | rw [← e9] | rfl) (by first | rw [← e9] | rfl)
        · have h := q_f c_16 h
          refine lv_iconst (v := 1) hx hb dX4_getsOn_85 (by decide) ?_
          refine lv_goto (tgt := 90) hx hb dX4_getsOn_86 (by decide) ?_
          have e9 := Option.some.inj h
          exact q_zret hx hb hr hlocks hK hP hD hS dX4_getsOn_90 rfl (by first | rw [← e9] | rfl) (by first | rw [← e9] | rfl)
      · have h := q_f c_13 h
        by_cases c_17 : r_1 = 4
        · have h := q_t c_17 h
          refine lv_tableIn (tgt := 91) (off := 85) hx hb dX4_getsOn_6 (by rw [c_17]; decide) (by rw [c_17]; decide) (by rw [c_17]; rfl) (by decide) ?_
          refine lv_aload_n hx hb dX4_getsOn_91 rfl (lv_at hl 0 rfl) ?_
          refine lv_iload_n hx hb dX4_getsOn_92 rfl (lv_at hl 1 rfl) ?_
          refine lv_iconst (v := 4) hx hb dX4_getsOn_93 (by decide) ?_
          obtain ⟨r_18, hc_19, h⟩ := q_bd_ok h
          refine q_ci (r := r_18) (va_runV (As := [.int p1, .int (4 : Int32)]) (rest := []) ⟨hx, hb, hml, hown, hts⟩ (c_X4_it l D y t q _ N F G p1 (4 : Int32) r_18 hc_19) (cwV 2 hts gX4_getsOn_X4_it rfl rfl rfl eX4_it ⟨Nat.le_of_ble_eq_true rfl, Nat.le_of_ble_eq_true rfl⟩) ⟨q_blind, (va_recv hK hP (ci := 4) (q0 := 0) rfl rfl), (q_pre hP hK hZ hD hA hS [0, 1, 2, 3, 4, 5, 6, 7, 8] rfl (by decide))⟩ rfl rfl hl.1 rfl (lv_room (Nat.le_of_ble_eq_true rfl)) dX4_getsOn_94 ⟨Nat.zero_le _, Nat.zero_le _⟩) hP hD hA hS [0, 1, 2, 3, 4, 5, 6, 7, 8] rfl (by decide) rfl (fun H locs hP hD hS => ?_)
          have hP : va_P D vwCl (wM y q F G) H := hP
          have hD : va_D A (wM y q F G) := hD
          refine lv_if_le (tgt := 114) hx hb dX4_getsOn_97 (by decide) (fun c_20 => ?_) (fun c_20 => ?_)
          · have h := q_t c_20 h
            refine lv_iconst (v := 0) hx hb dX4_getsOn_114 (by decide) ?_
            have e9 := Option.some.inj h
            exact q_zret hx hb hr hlocks hK hP hD hS dX4_getsOn_115 rfl (by first | rw [← e9] | rfl) (by first | rw [← e9] | rfl)
          · have h := q_f c_20 h
            refine lv_aload_n hx hb dX4_getsOn_100 rfl (lv_at hl 0 rfl) ?_
            refine va_get (D := D) (ci := 4) (v := .ref (q 1)) (C := RX4) (T := TX4) (N := 15) hx hb hts uX4_getsOn_X4 hown hK hP 0 rfl rfl 0 (by decide) (hts _ kX4_getsOn_1) (fun _ h9 => h9) rfl dX4_getsOn_101 ?_
            refine lv_iconst (v := 2) hx hb dX4_getsOn_104 (by decide) ?_
            obtain ⟨z_21, h⟩ := q_grd_ok h
            refine va_iald hx hb hK hP 1 0 rfl rfl z_21 dX4_getsOn_105 ?_
            refine lv_iconst (v := 5) hx hb dX4_getsOn_106 (by decide) ?_
            refine lv_icmp_gt (tgt := 114) hx hb dX4_getsOn_107 (by decide) (fun c_22 => ?_) (fun c_22 => ?_)
            · have h := q_t c_22 h
              refine lv_iconst (v := 0) hx hb dX4_getsOn_114 (by decide) ?_
              have e9 := Option.some.inj h
              exact q_zret hx hb hr hlocks hK hP hD hS dX4_getsOn_115 rfl (by first | rw [← e9] | rfl) (by first | rw [← e9] | rfl)
            · have h := q_f c_22 h
              refine lv_iconst (v := 1) hx hb dX4_getsOn_110 (by decide) ?_
              refine lv_goto (tgt := 115) hx hb dX4_getsOn_111 (by decide) ?_
              have e9 := Option.some.inj h
              exact q_zret hx hb hr hlocks hK hP hD hS dX4_getsOn_115 rfl (by first | rw [← e9] | rfl) (by first | rw [← e9] | rfl)
        · have h := q_f c_17 h
          by_cases c_23 : r_1 = 5
          · have h := q_t c_23 h
            refine lv_tableIn (tgt := 116) (off := 110) hx hb dX4_getsOn_6 (by rw [c_23]; decide) (by rw [c_23]; decide) (by rw [c_23]; rfl) (by decide) ?_
            refine lv_aload_n hx hb dX4_getsOn_116 rfl (lv_at hl 0 rfl) ?_
            refine lv_iload_n hx hb dX4_getsOn_117 rfl (lv_at hl 1 rfl) ?_
            refine lv_iconst (v := 1) hx hb dX4_getsOn_118 (by decide) ?_
            obtain ⟨r_24, hc_25, h⟩ := q_bd_ok h
            refine q_ci (r := r_24) (va_runV (As := [.int p1, .int (1 : Int32)]) (rest := []) ⟨hx, hb, hml, hown, hts⟩ (c_X4_it l D y t q _ N F G p1 (1 : Int32) r_24 hc_25) (cwV 2 hts gX4_getsOn_X4_it rfl rfl rfl eX4_it ⟨Nat.le_of_ble_eq_true rfl, Nat.le_of_ble_eq_true rfl⟩) ⟨q_blind, (va_recv hK hP (ci := 4) (q0 := 0) rfl rfl), (q_pre hP hK hZ hD hA hS [0, 1, 2, 3, 4, 5, 6, 7, 8] rfl (by decide))⟩ rfl rfl hl.1 rfl (lv_room (Nat.le_of_ble_eq_true rfl)) dX4_getsOn_119 ⟨Nat.zero_le _, Nat.zero_le _⟩) hP hD hA hS [0, 1, 2, 3, 4, 5, 6, 7, 8] rfl (by decide) rfl (fun H locs hP hD hS => ?_)
            have hP : va_P D vwCl (wM y q F G) H := hP
            have hD : va_D A (wM y q F G) := hD
            refine lv_aload_n hx hb dX4_getsOn_122 rfl (lv_at hl 0 rfl) ?_
            refine lv_iload_n hx hb dX4_getsOn_123 rfl (lv_at hl 1 rfl) ?_
            refine lv_iconst (v := 5) hx hb dX4_getsOn_124 (by decide) ?_
            obtain ⟨r_26, hc_27, h⟩ := q_bd_ok h
            refine q_ci (r := r_26) (va_runV (As := [.int p1, .int (5 : Int32)]) (rest := [.int r_24]) ⟨hx, hb, hml, hown, hts⟩ (c_X4_it l D y t q _ N F G p1 (5 : Int32) r_26 hc_27) (cwV 2 hts gX4_getsOn_X4_it rfl rfl rfl eX4_it ⟨Nat.le_of_ble_eq_true rfl, Nat.le_of_ble_eq_true rfl⟩) ⟨q_blind, (va_recv hK hP (ci := 4) (q0 := 0) rfl rfl), (q_pre hP hK hZ hD hA hS [0, 1, 2, 3, 4, 5, 6, 7, 8] rfl (by decide))⟩ rfl rfl hl.1 rfl (lv_room (Nat.le_of_ble_eq_true rfl)) dX4_getsOn_125 ⟨Nat.zero_le _, Nat.zero_le _⟩) hP hD hA hS [0, 1, 2, 3, 4, 5, 6, 7, 8] rfl (by decide) rfl (fun H locs hP hD hS => ?_)
            have hP : va_P D vwCl (wM y q F G) H := hP
            have hD : va_D A (wM y q F G) := hD
            refine lv_icmp_eq (tgt := 143) hx hb dX4_getsOn_128 (by decide) (fun c_28 => ?_) (fun c_28 => ?_)
            · have h := q_t c_28 h
              refine lv_iconst (v := 0) hx hb dX4_getsOn_143 (by decide) ?_
              have e9 := Option.some.inj h
              exact q_zret hx hb hr hlocks hK hP hD hS dX4_getsOn_144 rfl (by first | rw [← e9] | rfl) (by first | rw [← e9] | rfl)
            · have h := q_f c_28 h
              refine lv_aload_n hx hb dX4_getsOn_131 rfl (lv_at hl 0 rfl) ?_
              refine lv_iload_n hx hb dX4_getsOn_132 rfl (lv_at hl 1 rfl) ?_
              obtain ⟨r_29, hc_30, h⟩ := q_bd_ok h
              refine q_ci (r := r_29) (va_runV (As := [.int p1]) (rest := []) ⟨hx, hb, hml, hown, hts⟩ (c_X4_others l D y t q _ N F G p1 r_29 hc_30) (cwV 1 hts gX4_getsOn_X4_others rfl rfl rfl eX4_others ⟨Nat.le_of_ble_eq_true rfl, Nat.le_of_ble_eq_true rfl⟩) ⟨q_blind, (va_recv hK hP (ci := 4) (q0 := 0) rfl rfl), (q_pre hP hK hZ hD hA hS [0, 1, 2, 3, 4, 5, 6, 7, 8] rfl (by decide))⟩ rfl rfl hl.1 rfl (lv_room (Nat.le_of_ble_eq_true rfl)) dX4_getsOn_133 ⟨Nat.zero_le _, Nat.zero_le _⟩) hP hD hA hS [0, 1, 2, 3, 4, 5, 6, 7, 8] rfl (by decide) rfl (fun H locs hP hD hS => ?_)
              have hP : va_P D vwCl (wM y q F G) H := hP
              have hD : va_D A (wM y q F G) := hD
              refine lv_if_le (tgt := 143) hx hb dX4_getsOn_136 (by decide) (fun c_31 => ?_) (fun c_31 => ?_)
              · have h := q_t c_31 h
                refine lv_iconst (v := 0) hx hb dX4_getsOn_143 (by decide) ?_
                have e9 := Option.some.inj h
                exact q_zret hx hb hr hlocks hK hP hD hS dX4_getsOn_144 rfl (by first | rw [← e9] | rfl) (by first | rw [← e9] | rfl)
              · have h := q_f c_31 h
                refine lv_iconst (v := 1) hx hb dX4_getsOn_139 (by decide) ?_
                refine lv_goto (tgt := 144) hx hb dX4_getsOn_140 (by decide) ?_
                have e9 := Option.some.inj h
                exact q_zret hx hb hr hlocks hK hP hD hS dX4_getsOn_144 rfl (by first | rw [← e9] | rfl) (by first | rw [← e9] | rfl)
          · have h := q_f c_23 h
            have nc_3 := lv_neT c_3 (show ((1 : Int32)).toInt = 1 from by decide)
            have nc_7 := lv_neT c_7 (show ((2 : Int32)).toInt = 2 from by decide)
            have nc_13 := lv_neT c_13 (show ((3 : Int32)).toInt = 3 from by decide)
            have nc_17 := lv_neT c_17 (show ((4 : Int32)).toInt = 4 from by decide)
            have nc_23 := lv_neT c_23 (show ((5 : Int32)).toInt = 5 from by decide)
            refine lv_tableOut (tgt := 145) hx hb dX4_getsOn_6 (by omega) (by decide) ?_
            refine lv_iconst (v := 0) hx hb dX4_getsOn_145 (by decide) ?_
            have e9 := Option.some.inj h
            exact q_zret hx hb hr hlocks hK hP hD hS dX4_getsOn_146 rfl (by first | rw [← e9] | rfl) (by first | rw [← e9] | rfl)
theorem eX4_getsOn : yX4_getsOn.cls = RX4 ∧ yX4_getsOn.cls ≠ "java/lang/invoke/MethodHandle" ∧ yX4_getsOn.cls ≠ "java/lang/invoke/VarHandle" ∧ (parseMethodDescriptor yX4_getsOn.desc).map (fun d => d.parameters.length) = some 1 := by decide +kernel
def f_X4_getsOff (N : Nat) (F : Nat → Nat → Int32) (G : Nat → Int64) (p1 : Int32) (p2 : Int32) : Option (Int32) :=
  q_bd (f_X4_it N F G p1 (0 : Int32)) (fun r_1 =>
  if r_1 = 1 then
    q_bd (f_X4_it N F G p1 (4 : Int32)) (fun r_4 =>
    if r_4 = 0 then
      some (1 : Int32)
    else
      some (0 : Int32))
  else
    if r_1 = 2 then
      q_bd (f_X4_it N F G p1 (5 : Int32)) (fun r_8 =>
      if p2 = r_8 then
        some (1 : Int32)
      else
        some (0 : Int32))
    else
      if r_1 = 3 then
        if p2 = (38 : Int32) then
          some (1 : Int32)
        else
          if p2 = (39 : Int32) then
            some (1 : Int32)
          else
            some (0 : Int32)
      else
        if r_1 = 4 then
          q_bd (f_X4_it N F G p1 (4 : Int32)) (fun r_15 =>
          if r_15 = 0 then
            some (1 : Int32)
          else
            if p2 < (35 : Int32) then
              some (0 : Int32)
            else
              some (1 : Int32))
        else
          if r_1 = 5 then
            q_bd (f_X4_it N F G p1 (5 : Int32)) (fun r_20 =>
            if p2 = r_20 then
              some (1 : Int32)
            else
              q_bd (f_X4_others N F G p1) (fun r_23 =>
              if r_23 = 0 then
                some (1 : Int32)
              else
                some (0 : Int32)))
          else
            some (0 : Int32))
set_option maxHeartbeats 4000000 in
set_option maxRecDepth 100000 in
theorem c_X4_getsOff (l : Launch) (D : va_G) (y : Nat → ClassId) (t : Nat → Nat) (q : Nat → Nat) (sz N : Nat) (F : Nat → Nat → Int32) (G : Nat → Int64) (p1 : Int32) (p2 : Int32) (res : Int32) (h : f_X4_getsOff N F G p1 p2 = some res) : Met l yX4_getsOff wsX4_getsOff ({ frames := 3, cells := 0, slots := 0, locals := 66 } : Room) (pPre D y t [.ref (q 0), .int p1, .int p2] (wM y q F G) sz) (pQi D y res (wM y q F G) (va_A (wM y q F G) sz)) 0 0 (va_A (wM y q F G) sz) := by
  refine q_start (Qc := (fun A => pQi D y res (wM y q F G) A)) (cc := cX4_getsOff) (maxL := 3) (ret := (some .boolean)) (by decide) rfl (Nat.le_of_ble_eq_true rfl) ?_
  intro p e s m below meth c A ls hx hb hr hts hown hlocks hmn hml hP hK hZ hD hA hS hl
  have hl : lv_has ls 3 [(0, .ref (q 0)), (1, .int p1), (2, .int p2)] := hl
  have hown : s.vm.findClass RX4 = some m.cls := hown
  unfold f_X4_getsOff at h
  refine lv_aload_n hx hb dX4_getsOff_0 rfl (lv_at hl 0 rfl) ?_
  refine lv_iload_n hx hb dX4_getsOff_1 rfl (lv_at hl 1 rfl) ?_
  refine lv_iconst (v := 0) hx hb dX4_getsOff_2 (by decide) ?_
  obtain ⟨r_1, hc_2, h⟩ := q_bd_ok h
  refine q_ci (r := r_1) (va_runV (As := [.int p1, .int (0 : Int32)]) (rest := []) ⟨hx, hb, hml, hown, hts⟩ (c_X4_it l D y t q _ N F G p1 (0 : Int32) r_1 hc_2) (cwV 2 hts gX4_getsOff_X4_it rfl rfl rfl eX4_it ⟨Nat.le_of_ble_eq_true rfl, Nat.le_of_ble_eq_true rfl⟩) ⟨q_blind, (va_recv hK hP (ci := 4) (q0 := 0) rfl rfl), (q_pre hP hK hZ hD hA hS [0, 1, 2, 3, 4, 5, 6, 7, 8] rfl (by decide))⟩ rfl rfl hl.1 rfl (lv_room (Nat.le_of_ble_eq_true rfl)) dX4_getsOff_3 ⟨Nat.zero_le _, Nat.zero_le _⟩) hP hD hA hS [0, 1, 2, 3, 4, 5, 6, 7, 8] rfl (by decide) rfl (fun H locs hP hD hS => ?_)
  have hP : va_P D vwCl (wM y q F G) H := hP
  have hD : va_D A (wM y q F G) := hD
  by_cases c_3 : r_1 = 1
  · have h := q_t c_3 h
    refine lv_tableIn (tgt := 40) (off := 34) hx hb dX4_getsOff_6 (by rw [c_3]; decide) (by rw [c_3]; decide) (by rw [c_3]; rfl) (by decide) ?_
    refine lv_aload_n hx hb dX4_getsOff_40 rfl (lv_at hl 0 rfl) ?_
    refine lv_iload_n hx hb dX4_getsOff_41 rfl (lv_at hl 1 rfl) ?_
    refine lv_iconst (v := 4) hx hb dX4_getsOff_42 (by decide) ?_
    obtain ⟨r_4, hc_5, h⟩ := q_bd_ok h
    refine q_ci (r := r_4) (va_runV (As := [.int p1, .int (4 : Int32)]) (rest := []) ⟨hx, hb, hml, hown, hts⟩ (c_X4_it l D y t q _ N F G p1 (4 : Int32) r_4 hc_5) (cwV 2 hts gX4_getsOff_X4_it rfl rfl rfl eX4_it ⟨Nat.le_of_ble_eq_true rfl, Nat.le_of_ble_eq_true rfl⟩) ⟨q_blind, (va_recv hK hP (ci := 4) (q0 := 0) rfl rfl), (q_pre hP hK hZ hD hA hS [0, 1, 2, 3, 4, 5, 6, 7, 8] rfl (by decide))⟩ rfl rfl hl.1 rfl (lv_room (Nat.le_of_ble_eq_true rfl)) dX4_getsOff_43 ⟨Nat.zero_le _, Nat.zero_le _⟩) hP hD hA hS [0, 1, 2, 3, 4, 5, 6, 7, 8] rfl (by decide) rfl (fun H locs hP hD hS => ?_)
    have hP : va_P D vwCl (wM y q F G) H := hP
    have hD : va_D A (wM y q F G) := hD
    refine lv_if_ne (tgt := 53) hx hb dX4_getsOff_46 (by decide) (fun c_6 => ?_) (fun c_6 => ?_)
    · have h := q_f c_6 h
      refine lv_iconst (v := 0) hx hb dX4_getsOff_53 (by decide) ?_
      have e9 := Option.some.inj h
      exact q_zret hx hb hr hlocks hK hP hD hS dX4_getsOff_54 rfl (by first | rw [← e9] | rfl) (by first | rw [← e9] | rfl)
    · have h := q_t c_6 h
      refine lv_iconst (v := 1) hx hb dX4_getsOff_49 (by decide) ?_
      refine lv_goto (tgt := 54) hx hb dX4_getsOff_50 (by decide) ?_
      have e9 := Option.some.inj h
      exact q_zret hx hb hr hlocks hK hP hD hS dX4_getsOff_54 rfl (by first | rw [← e9] | rfl) (by first | rw [← e9] | rfl)
  · have h := q_f c_3 h
    by_cases c_7 : r_1 = 2
    · have h := q_t c_7 h
      refine lv_tableIn (tgt := 55) (off := 49) hx hb dX4_getsOff_6 (by rw [c_7]; decide) (by rw [c_7]; decide) (by rw [c_7]; rfl) (by decide) ?_
      refine lv_iload_n hx hb dX4_getsOff_55 rfl (lv_at hl 2 rfl) ?_
      refine lv_aload_n hx hb dX4_getsOff_56 rfl (lv_at hl 0 rfl) ?_
      refine lv_iload_n hx hb dX4_getsOff_57 rfl (lv_at hl 1 rfl) ?_
      refine lv_iconst (v := 5) hx hb dX4_getsOff_58 (by decide) ?_
      obtain ⟨r_8, hc_9, h⟩ := q_bd_ok h
      refine q_ci (r := r_8) (va_runV (As := [.int p1, .int (5 : Int32)]) (rest := [.int p2]) ⟨hx, hb, hml, hown, hts⟩ (c_X4_it l D y t q _ N F G p1 (5 : Int32) r_8 hc_9) (cwV 2 hts gX4_getsOff_X4_it rfl rfl rfl eX4_it ⟨Nat.le_of_ble_eq_true rfl, Nat.le_of_ble_eq_true rfl⟩) ⟨q_blind, (va_recv hK hP (ci := 4) (q0 := 0) rfl rfl), (q_pre hP hK hZ hD hA hS [0, 1, 2, 3, 4, 5, 6, 7, 8] rfl (by decide))⟩ rfl rfl hl.1 rfl (lv_room (Nat.le_of_ble_eq_true rfl)) dX4_getsOff_59 ⟨Nat.zero_le _, Nat.zero_le _⟩) hP hD hA hS [0, 1, 2, 3, 4, 5, 6, 7, 8] rfl (by decide) rfl (fun H locs hP hD hS => ?_)
      have hP : va_P D vwCl (wM y q F G) H := hP
      have hD : va_D A (wM y q F G) := hD
      refine lv_icmp_ne (tgt := 69) hx hb dX4_getsOff_62 (by decide) (fun c_10 => ?_) (fun c_10 => ?_)
      · have h := q_f c_10 h
        refine lv_iconst (v := 0) hx hb dX4_getsOff_69 (by decide) ?_
        have e9 := Option.some.inj h
        exact q_zret hx hb hr hlocks hK hP hD hS dX4_getsOff_70 rfl (by first | rw [← e9] | rfl) (by first | rw [← e9] | rfl)
      · have h := q_t c_10 h
        refine lv_iconst (v := 1) hx hb dX4_getsOff_65 (by decide) ?_
        refine lv_goto (tgt := 70) hx hb dX4_getsOff_66 (by decide) ?_
        have e9 := Option.some.inj h
        exact q_zret hx hb hr hlocks hK hP hD hS dX4_getsOff_70 rfl (by first | rw [← e9] | rfl) (by first | rw [← e9] | rfl)
    · have h := q_f c_7 h
      by_cases c_11 : r_1 = 3
      · have h := q_t c_11 h
        refine lv_tableIn (tgt := 71) (off := 65) hx hb dX4_getsOff_6 (by rw [c_11]; decide) (by rw [c_11]; decide) (by rw [c_11]; rfl) (by decide) ?_
        refine lv_iload_n hx hb dX4_getsOff_71 rfl (lv_at hl 2 rfl) ?_
        refine lv_bipush (v := 38) hx hb dX4_getsOff_72 (by decide) ?_
        refine lv_icmp_eq (tgt := 83) hx hb dX4_getsOff_74 (by decide) (fun c_12 => ?_) (fun c_12 => ?_)
        · have h := q_t c_12 h
          refine lv_iconst (v := 1) hx hb dX4_getsOff_83 (by decide) ?_
          refine lv_goto (tgt := 88) hx hb dX4_getsOff_84 (by decide) ?_
          have e9 := Option.some.inj h
          exact q_zret hx hb hr hlocks hK hP hD hS dX4_getsOff_88 rfl (by first | rw [← e9] | rfl) (by first | rw [← e9] | rfl)
        · have h := q_f c_12 h
          refine lv_iload_n hx hb dX4_getsOff_77 rfl (lv_at hl 2 rfl) ?_
          refine lv_bipush (v := 39) hx hb dX4_getsOff_78 (by decide) ?_
          refine lv_icmp_ne (tgt := 87) hx hb dX4_getsOff_80 (by decide) (fun c_13 => ?_) (fun c_13 => ?_)
          · have h := q_f c_13 h
            refine lv_iconst (v := 0) hx hb dX4_getsOff_87 (by decide) ?_
            have e9 := Option.some.inj h
            exact q_zret hx hb hr hlocks hK hP hD hS dX4_getsOff_88 rfl (by first | rw [← e9] | rfl) (by first | rw [← e9] | rfl)
          · have h := q_t c_13 h
            refine lv_iconst (v := 1) hx hb dX4_getsOff_83 (by decide) ?_
            refine lv_goto (tgt := 88) hx hb dX4_getsOff_84 (by decide) ?_
            have e9 := Option.some.inj h
            exact q_zret hx hb hr hlocks hK hP hD hS dX4_getsOff_88 rfl (by first | rw [← e9] | rfl) (by first | rw [← e9] | rfl)
      · have h := q_f c_11 h
        by_cases c_14 : r_1 = 4
        · have h := q_t c_14 h
          refine lv_tableIn (tgt := 89) (off := 83) hx hb dX4_getsOff_6 (by rw [c_14]; decide) (by rw [c_14]; decide) (by rw [c_14]; rfl) (by decide) ?_
          refine lv_aload_n hx hb dX4_getsOff_89 rfl (lv_at hl 0 rfl) ?_
          refine lv_iload_n hx hb dX4_getsOff_90 rfl (lv_at hl 1 rfl) ?_
          refine lv_iconst (v := 4) hx hb dX4_getsOff_91 (by decide) ?_
          obtain ⟨r_15, hc_16, h⟩ := q_bd_ok h
          refine q_ci (r := r_15) (va_runV (As := [.int p1, .int (4 : Int32)]) (rest := []) ⟨hx, hb, hml, hown, hts⟩ (c_X4_it l D y t q _ N F G p1 (4 : Int32) r_15 hc_16) (cwV 2 hts gX4_getsOff_X4_it rfl rfl rfl eX4_it ⟨Nat.le_of_ble_eq_true rfl, Nat.le_of_ble_eq_true rfl⟩) ⟨q_blind, (va_recv hK hP (ci := 4) (q0 := 0) rfl rfl), (q_pre hP hK hZ hD hA hS [0, 1, 2, 3, 4, 5, 6, 7, 8] rfl (by decide))⟩ rfl rfl hl.1 rfl (lv_room (Nat.le_of_ble_eq_true rfl)) dX4_getsOff_92 ⟨Nat.zero_le _, Nat.zero_le _⟩) hP hD hA hS [0, 1, 2, 3, 4, 5, 6, 7, 8] rfl (by decide) rfl (fun H locs hP hD hS => ?_)
          have hP : va_P D vwCl (wM y q F G) H := hP
          have hD : va_D A (wM y q F G) := hD
          refine lv_if_eq (tgt := 104) hx hb dX4_getsOff_95 (by decide) (fun c_17 => ?_) (fun c_17 => ?_)
          · have h := q_t c_17 h
            refine lv_iconst (v := 1) hx hb dX4_getsOff_104 (by decide) ?_
            refine lv_goto (tgt := 109) hx hb dX4_getsOff_105 (by decide) ?_
            have e9 := Option.some.inj h
            exact q_zret hx hb hr hlocks hK hP hD hS dX4_getsOff_109 rfl (by first | rw [← e9] | rfl) (by first | rw [← e9] | rfl)
          · have h := q_f c_17 h
            refine lv_iload_n hx hb dX4_getsOff_98 rfl (lv_at hl 2 rfl) ?_
            refine lv_bipush (v := 35) hx hb dX4_getsOff_99 (by decide) ?_
            refine lv_icmp_lt (tgt := 108) hx hb dX4_getsOff_101 (by decide) (fun c_18 => ?_) (fun c_18 => ?_)
            · have h := q_t c_18 h
              refine lv_iconst (v := 0) hx hb dX4_getsOff_108 (by decide) ?_
              have e9 := Option.some.inj h
              exact q_zret hx hb hr hlocks hK hP hD hS dX4_getsOff_109 rfl (by first | rw [← e9] | rfl) (by first | rw [← e9] | rfl)
            · have h := q_f c_18 h
              refine lv_iconst (v := 1) hx hb dX4_getsOff_104 (by decide) ?_
              refine lv_goto (tgt := 109) hx hb dX4_getsOff_105 (by decide) ?_
              have e9 := Option.some.inj h
              exact q_zret hx hb hr hlocks hK hP hD hS dX4_getsOff_109 rfl (by first | rw [← e9] | rfl) (by first | rw [← e9] | rfl)
        · have h := q_f c_14 h
          by_cases c_19 : r_1 = 5
          · have h := q_t c_19 h
            refine lv_tableIn (tgt := 110) (off := 104) hx hb dX4_getsOff_6 (by rw [c_19]; decide) (by rw [c_19]; decide) (by rw [c_19]; rfl) (by decide) ?_
            refine lv_iload_n hx hb dX4_getsOff_110 rfl (lv_at hl 2 rfl) ?_
            refine lv_aload_n hx hb dX4_getsOff_111 rfl (lv_at hl 0 rfl) ?_
            refine lv_iload_n hx hb dX4_getsOff_112 rfl (lv_at hl 1 rfl) ?_
            refine lv_iconst (v := 5) hx hb dX4_getsOff_113 (by decide) ?_
            obtain ⟨r_20, hc_21, h⟩ := q_bd_ok h
            refine q_ci (r := r_20) (va_runV (As := [.int p1, .int (5 : Int32)]) (rest := [.int p2]) ⟨hx, hb, hml, hown, hts⟩ (c_X4_it l D y t q _ N F G p1 (5 : Int32) r_20 hc_21) (cwV 2 hts gX4_getsOff_X4_it rfl rfl rfl eX4_it ⟨Nat.le_of_ble_eq_true rfl, Nat.le_of_ble_eq_true rfl⟩) ⟨q_blind, (va_recv hK hP (ci := 4) (q0 := 0) rfl rfl), (q_pre hP hK hZ hD hA hS [0, 1, 2, 3, 4, 5, 6, 7, 8] rfl (by decide))⟩ rfl rfl hl.1 rfl (lv_room (Nat.le_of_ble_eq_true rfl)) dX4_getsOff_114 ⟨Nat.zero_le _, Nat.zero_le _⟩) hP hD hA hS [0, 1, 2, 3, 4, 5, 6, 7, 8] rfl (by decide) rfl (fun H locs hP hD hS => ?_)
            have hP : va_P D vwCl (wM y q F G) H := hP
            have hD : va_D A (wM y q F G) := hD
            refine lv_icmp_eq (tgt := 128) hx hb dX4_getsOff_117 (by decide) (fun c_22 => ?_) (fun c_22 => ?_)
            · have h := q_t c_22 h
              refine lv_iconst (v := 1) hx hb dX4_getsOff_128 (by decide) ?_
              refine lv_goto (tgt := 133) hx hb dX4_getsOff_129 (by decide) ?_
              have e9 := Option.some.inj h
              exact q_zret hx hb hr hlocks hK hP hD hS dX4_getsOff_133 rfl (by first | rw [← e9] | rfl) (by first | rw [← e9] | rfl)
            · have h := q_f c_22 h
              refine lv_aload_n hx hb dX4_getsOff_120 rfl (lv_at hl 0 rfl) ?_
              refine lv_iload_n hx hb dX4_getsOff_121 rfl (lv_at hl 1 rfl) ?_
              obtain ⟨r_23, hc_24, h⟩ := q_bd_ok h
              refine q_ci (r := r_23) (va_runV (As := [.int p1]) (rest := []) ⟨hx, hb, hml, hown, hts⟩ (c_X4_others l D y t q _ N F G p1 r_23 hc_24) (cwV 1 hts gX4_getsOff_X4_others rfl rfl rfl eX4_others ⟨Nat.le_of_ble_eq_true rfl, Nat.le_of_ble_eq_true rfl⟩) ⟨q_blind, (va_recv hK hP (ci := 4) (q0 := 0) rfl rfl), (q_pre hP hK hZ hD hA hS [0, 1, 2, 3, 4, 5, 6, 7, 8] rfl (by decide))⟩ rfl rfl hl.1 rfl (lv_room (Nat.le_of_ble_eq_true rfl)) dX4_getsOff_122 ⟨Nat.zero_le _, Nat.zero_le _⟩) hP hD hA hS [0, 1, 2, 3, 4, 5, 6, 7, 8] rfl (by decide) rfl (fun H locs hP hD hS => ?_)
              have hP : va_P D vwCl (wM y q F G) H := hP
              have hD : va_D A (wM y q F G) := hD
              refine lv_if_ne (tgt := 132) hx hb dX4_getsOff_125 (by decide) (fun c_25 => ?_) (fun c_25 => ?_)
              · have h := q_f c_25 h
                refine lv_iconst (v := 0) hx hb dX4_getsOff_132 (by decide) ?_
                have e9 := Option.some.inj h
                exact q_zret hx hb hr hlocks hK hP hD hS dX4_getsOff_133 rfl (by first | rw [← e9] | rfl) (by first | rw [← e9] | rfl)
              · have h := q_t c_25 h
                refine lv_iconst (v := 1) hx hb dX4_getsOff_128 (by decide) ?_
                refine lv_goto (tgt := 133) hx hb dX4_getsOff_129 (by decide) ?_
                have e9 := Option.some.inj h
                exact q_zret hx hb hr hlocks hK hP hD hS dX4_getsOff_133 rfl (by first | rw [← e9] | rfl) (by first | rw [← e9] | rfl)
          · have h := q_f c_19 h
            have nc_3 := lv_neT c_3 (show ((1 : Int32)).toInt = 1 from by decide)
            have nc_7 := lv_neT c_7 (show ((2 : Int32)).toInt = 2 from by decide)
            have nc_11 := lv_neT c_11 (show ((3 : Int32)).toInt = 3 from by decide)
            have nc_14 := lv_neT c_14 (show ((4 : Int32)).toInt = 4 from by decide)
            have nc_19 := lv_neT c_19 (show ((5 : Int32)).toInt = 5 from by decide)
            refine lv_tableOut (tgt := 134) hx hb dX4_getsOff_6 (by omega) (by decide) ?_
            refine lv_iconst (v := 0) hx hb dX4_getsOff_134 (by decide) ?_
            have e9 := Option.some.inj h
            exact q_zret hx hb hr hlocks hK hP hD hS dX4_getsOff_135 rfl (by first | rw [← e9] | rfl) (by first | rw [← e9] | rfl)
theorem eX4_getsOff : yX4_getsOff.cls = RX4 ∧ yX4_getsOff.cls ≠ "java/lang/invoke/MethodHandle" ∧ yX4_getsOff.cls ≠ "java/lang/invoke/VarHandle" ∧ (parseMethodDescriptor yX4_getsOff.desc).map (fun d => d.parameters.length) = some 2 := by decide +kernel
theorem uX4_bears_X4 : ∀ w ∈ u_ws RX4 TX4 15, w ∈ wsX4_bears := by decide +kernel
theorem kX4_bears_1 : Cond.fieldLink RX4 9 "BeamSeatsModel" "m" "[I" ∈ wsX4_bears := List.mem_of_getElem? (i := 1) (by decide +kernel)
def f_X4_bears (N : Nat) (F : Nat → Nat → Int32) (G : Nat → Int64) (p1 : Int32) : Option (Int32) :=
  q_grd (3 : Int32) 69 (
  q_bd (f_X4_held N ((F 1 (3 : Int32).toNatClampNeg) - ((2 : Int32) * p1)) (0 : Int32) (40 : Int32)) (fun r_2 =>
  some r_2))
set_option maxHeartbeats 4000000 in
set_option maxRecDepth 100000 in
theorem c_X4_bears (l : Launch) (D : va_G) (y : Nat → ClassId) (t : Nat → Nat) (q : Nat → Nat) (sz N : Nat) (F : Nat → Nat → Int32) (G : Nat → Int64) (p1 : Int32) (res : Int32) (h : f_X4_bears N F G p1 = some res) : Met l yX4_bears wsX4_bears ({ frames := 1, cells := 0, slots := 0, locals := 22 } : Room) (pPre D y t [.ref (q 0), .int p1] (wM y q F G) sz) (pQi D y res (wM y q F G) (va_A (wM y q F G) sz)) 0 0 (va_A (wM y q F G) sz) := by
  refine q_start (Qc := (fun A => pQi D y res (wM y q F G) A)) (cc := cX4_bears) (maxL := 2) (ret := (some .int)) (by decide) rfl (Nat.le_of_ble_eq_true rfl) ?_
  intro p e s m below meth c A ls hx hb hr hts hown hlocks hmn hml hP hK hZ hD hA hS hl
  have hl : lv_has ls 2 [(0, .ref (q 0)), (1, .int p1)] := hl
  have hown : s.vm.findClass RX4 = some m.cls := hown
  unfold f_X4_bears at h
  refine lv_aload_n hx hb dX4_bears_0 rfl (lv_at hl 0 rfl) ?_
  refine va_get (D := D) (ci := 4) (v := .ref (q 1)) (C := RX4) (T := TX4) (N := 15) hx hb hts uX4_bears_X4 hown hK hP 0 rfl rfl 0 (by decide) (hts _ kX4_bears_1) (fun _ h9 => h9) rfl dX4_bears_1 ?_
  refine lv_iconst (v := 3) hx hb dX4_bears_4 (by decide) ?_
  obtain ⟨z_1, h⟩ := q_grd_ok h
  refine va_iald hx hb hK hP 1 0 rfl rfl z_1 dX4_bears_5 ?_
  refine lv_iconst (v := 2) hx hb dX4_bears_6 (by decide) ?_
  refine lv_iload_n hx hb dX4_bears_7 rfl (lv_at hl 1 rfl) ?_
  refine lv_imul hx hb dX4_bears_8 ?_
  refine lv_isub hx hb dX4_bears_9 ?_
  refine lv_iconst (v := 0) hx hb dX4_bears_10 (by decide) ?_
  refine lv_bipush (v := 40) hx hb dX4_bears_11 (by decide) ?_
  obtain ⟨r_2, hc_3, h⟩ := q_bd_ok h
  refine q_ci (r := r_2) (va_runS (As := [.int ((F 1 (3 : Int32).toNatClampNeg) - ((2 : Int32) * p1)), .int (0 : Int32), .int (40 : Int32)]) (rest := []) ⟨hx, hb, hml, hown, hts⟩ (c_X4_held l D y t q _ N ((F 1 (3 : Int32).toNatClampNeg) - ((2 : Int32) * p1)) (0 : Int32) (40 : Int32) r_2 hc_3) (va_cwS 3 hts gX4_bears_X4_held rfl rfl rfl eX4_held ⟨Nat.le_of_ble_eq_true rfl, Nat.le_of_ble_eq_true rfl⟩) ⟨q_blind, (q_pre hP hK hZ hD hA hS [] rfl (by decide))⟩ rfl rfl hl.1 rfl (lv_room (Nat.le_of_ble_eq_true rfl)) dX4_bears_13 ⟨Nat.zero_le _, Nat.zero_le _⟩) hP hD hA hS [] rfl (by decide) rfl (fun H locs hP hD hS => ?_)
  have hP : va_P D vwCl (wM y q F G) H := hP
  have hD : va_D A (wM y q F G) := hD
  have e9 := Option.some.inj h
  exact q_iret hx hb hr hlocks hK hP hD hS dX4_bears_16 (by first | rw [← e9] | rfl) (by first | rw [← e9] | rfl)
theorem eX4_bears : yX4_bears.cls = RX4 ∧ yX4_bears.cls ≠ "java/lang/invoke/MethodHandle" ∧ yX4_bears.cls ≠ "java/lang/invoke/VarHandle" ∧ (parseMethodDescriptor yX4_bears.desc).map (fun d => d.parameters.length) = some 1 := by decide +kernel
theorem uX4_loadAt_X4 : ∀ w ∈ u_ws RX4 TX4 15, w ∈ wsX4_loadAt := by decide +kernel
theorem kX4_loadAt_1 : Cond.fieldLink RX4 9 "BeamSeatsModel" "m" "[I" ∈ wsX4_loadAt := List.mem_of_getElem? (i := 1) (by decide +kernel)
def f_X4_loadAt_L4 (N : Nat) (F : Nat → Nat → Int32) (G : Nat → Int64) (v1 : Int32) : Nat → Int32 → Int32 → Option (Int32 × Int32)
  | 0, _, _ => none
  | k + 1, v2, v3 =>
    q_grd (4 : Int32) 69 (
    if (F 1 (4 : Int32).toNatClampNeg) ≤ v3 then
      some (v2, v3)
    else
      q_bd (f_X4_isOn N F G v3) (fun r_6 =>
      if r_6 = 0 then
        q_let (v2 + (0 : Int32)) (fun x_9 =>
        q_let (v3 + 1) (fun x_10 =>
        f_X4_loadAt_L4 N F G v1 k x_9 x_10))
      else
        q_bd (f_X4_it N F G v3 (2 : Int32)) (fun r_11 =>
        if r_11 = v1 then
          q_bd (f_X4_weighs N F G v3) (fun r_16 =>
          q_let (v2 + r_16) (fun x_18 =>
          q_let (v3 + 1) (fun x_19 =>
          f_X4_loadAt_L4 N F G v1 k x_18 x_19)))
        else
          q_let (v2 + (0 : Int32)) (fun x_14 =>
          q_let (v3 + 1) (fun x_15 =>
          f_X4_loadAt_L4 N F G v1 k x_14 x_15)))))
def f_X4_loadAt (N : Nat) (F : Nat → Nat → Int32) (G : Nat → Int64) (p1 : Int32) : Option (Int32) :=
  q_bd2 (f_X4_loadAt_L4 N F G p1 N (0 : Int32) (0 : Int32)) (fun x_2 x_3 =>
  some x_2)
set_option maxHeartbeats 4000000 in
set_option maxRecDepth 100000 in
theorem c_X4_loadAt (l : Launch) (D : va_G) (y : Nat → ClassId) (t : Nat → Nat) (q : Nat → Nat) (sz N : Nat) (F : Nat → Nat → Int32) (G : Nat → Int64) (p1 : Int32) (res : Int32) (h : f_X4_loadAt N F G p1 = some res) : Met l yX4_loadAt wsX4_loadAt ({ frames := 2, cells := 0, slots := 0, locals := 44 } : Room) (pPre D y t [.ref (q 0), .int p1] (wM y q F G) sz) (pQi D y res (wM y q F G) (va_A (wM y q F G) sz)) 0 0 (va_A (wM y q F G) sz) := by
  refine q_start (Qc := (fun A => pQi D y res (wM y q F G) A)) (cc := cX4_loadAt) (maxL := 4) (ret := (some .int)) (by decide) rfl (Nat.le_of_ble_eq_true rfl) ?_
  intro p e s m below meth c A ls hx hb hr hts hown hlocks hmn hml hP hK hZ hD hA hS hl
  have hl : lv_has ls 4 [(0, .ref (q 0)), (1, .int p1)] := hl
  have hown : s.vm.findClass RX4 = some m.cls := hown
  unfold f_X4_loadAt at h
  refine lv_iconst (v := 0) hx hb dX4_loadAt_0 (by decide) ?_
  refine lv_istore_n (lv' := [(2, .int (0 : Int32)), (0, .ref (q 0)), (1, .int p1)]) hx hb dX4_loadAt_1 rfl hl (by decide) rfl (fun ls hl => ?_)
  refine lv_iconst (v := 0) hx hb dX4_loadAt_2 (by decide) ?_
  refine lv_istore_n (lv' := [(3, .int (0 : Int32)), (2, .int (0 : Int32)), (0, .ref (q 0)), (1, .int p1)]) hx hb dX4_loadAt_3 rfl hl (by decide) rfl (fun ls hl => ?_)
  obtain ⟨x_2, x_3, hL1, h⟩ := q_bd2_ok h
  have K4_1 : ∀ (H : Heap) (locs : List Loc) (ls : Array Slot), va_P D vwCl (wM y q F G) H → va_D A (wM y q F G) → va_S A s.heap H locs → lv_has ls 4 [(0, .ref (q 0)), (1, .int p1), (2, .int x_2), (3, .int x_3)] → W p l e ({ frames := 2, cells := 0, slots := 0, locals := 44 } : Room) s m ([.ref (q 0), .int p1] : List Value).toArray below meth c H locs 0 0 (MQ below (pQi D y res (wM y q F G) A) ([.ref (q 0), .int p1] : List Value).toArray s 0 0 A) (F0 m 50 ls []) := by
    intro H locs ls hP hD hS hl
    refine lv_iload_n hx hb dX4_loadAt_50 rfl (lv_at hl 2 rfl) ?_
    have e9 := Option.some.inj h
    exact q_iret hx hb hr hlocks hK hP hD hS dX4_loadAt_51 (by first | rw [← e9] | rfl) (by first | rw [← e9] | rfl)
  have L4_1 : ∀ (F : Nat → Nat → Int32) (G : Nat → Int64) (v1 : Int32) (k : Nat) (v2 : Int32) (v3 : Int32), (∀ (H : Heap) (locs : List Loc) (ls : Array Slot), va_P D vwCl (wM y q F G) H → va_D A (wM y q F G) → va_S A s.heap H locs → lv_has ls 4 [(0, .ref (q 0)), (1, .int v1), (2, .int x_2), (3, .int x_3)] → W p l e ({ frames := 2, cells := 0, slots := 0, locals := 44 } : Room) s m ([.ref (q 0), .int p1] : List Value).toArray below meth c H locs 0 0 (MQ below (pQi D y res (wM y q F G) A) ([.ref (q 0), .int p1] : List Value).toArray s 0 0 A) (F0 m 50 ls [])) → ∀ (H : Heap) (locs : List Loc) (ls : Array Slot), va_P D vwCl (wM y q F G) H → va_D A (wM y q F G) → va_S A s.heap H locs → lv_has ls 4 [(0, .ref (q 0)), (1, .int v1), (2, .int v2), (3, .int v3)] → f_X4_loadAt_L4 N F G v1 k v2 v3 = some (x_2, x_3) → W p l e ({ frames := 2, cells := 0, slots := 0, locals := 44 } : Room) s m ([.ref (q 0), .int p1] : List Value).toArray below meth c H locs 0 0 (MQ below (pQi D y res (wM y q F G) A) ([.ref (q 0), .int p1] : List Value).toArray s 0 0 A) (F0 m 4 ls []) := by
    intro F G v1 k
    induction k with
    | zero =>
      intro v2 v3 K4_1 H locs ls hP hD hS hl h
      have h : (none : Option (Int32 × Int32)) = some _ := h
      cases h
    | succ k ih4_1 =>
      intro v2 v3 K4_1 H locs ls hP hD hS hl h
      rw [f_X4_loadAt_L4] at h
      refine lv_iload_n hx hb dX4_loadAt_4 rfl (lv_at hl 3 rfl) ?_
      refine lv_aload_n hx hb dX4_loadAt_5 rfl (lv_at hl 0 rfl) ?_
      refine va_get (D := D) (ci := 4) (v := .ref (q 1)) (C := RX4) (T := TX4) (N := 15) hx hb hts uX4_loadAt_X4 hown hK hP 0 rfl rfl 0 (by decide) (hts _ kX4_loadAt_1) (fun _ h9 => h9) rfl dX4_loadAt_6 ?_
      refine lv_iconst (v := 4) hx hb dX4_loadAt_9 (by decide) ?_
      obtain ⟨z_4, h⟩ := q_grd_ok h
      refine va_iald hx hb hK hP 1 0 rfl rfl z_4 dX4_loadAt_10 ?_
      refine lv_icmp_ge (tgt := 50) hx hb dX4_loadAt_11 (by decide) (fun c_5 => ?_) (fun c_5 => ?_)
      · have h := q_t c_5 h
        cases h
        exact K4_1 _ _ _ hP hD hS (lv_sub hl [0, 1, 2, 3] rfl)
      · have h := q_f c_5 h
        refine lv_iload_n hx hb dX4_loadAt_14 rfl (lv_at hl 2 rfl) ?_
        refine lv_aload_n hx hb dX4_loadAt_15 rfl (lv_at hl 0 rfl) ?_
        refine lv_iload_n hx hb dX4_loadAt_16 rfl (lv_at hl 3 rfl) ?_
        obtain ⟨r_6, hc_7, h⟩ := q_bd_ok h
        refine q_ci (r := r_6) (va_runV (As := [.int v3]) (rest := [.int v2]) ⟨hx, hb, hml, hown, hts⟩ (c_X4_isOn l D y t q _ N F G v3 r_6 hc_7) (cwV 1 hts gX4_loadAt_X4_isOn rfl rfl rfl eX4_isOn ⟨Nat.le_of_ble_eq_true rfl, Nat.le_of_ble_eq_true rfl⟩) ⟨q_blind, (va_recv hK hP (ci := 4) (q0 := 0) rfl rfl), (q_pre hP hK hZ hD hA hS [0, 1, 2, 3, 4, 5, 6, 7, 8] rfl (by decide))⟩ rfl rfl hl.1 rfl (lv_room (Nat.le_of_ble_eq_true rfl)) dX4_loadAt_17 ⟨Nat.zero_le _, Nat.zero_le _⟩) hP hD hA hS [0, 1, 2, 3, 4, 5, 6, 7, 8] rfl (by decide) rfl (fun H locs hP hD hS => ?_)
        have hP : va_P D vwCl (wM y q F G) H := hP
        have hD : va_D A (wM y q F G) := hD
        refine lv_if_eq (tgt := 41) hx hb dX4_loadAt_20 (by decide) (fun c_8 => ?_) (fun c_8 => ?_)
        · have h := q_t c_8 h
          refine lv_iconst (v := 0) hx hb dX4_loadAt_41 (by decide) ?_
          refine lv_iadd hx hb dX4_loadAt_42 ?_
          refine lv_topi (fun x_9 ex_9 => ?_)
          have h := q_let_at ex_9 h
          refine lv_istore_n (lv' := [(2, .int x_9), (0, .ref (q 0)), (1, .int v1), (3, .int v3)]) hx hb dX4_loadAt_43 rfl hl (by decide) rfl (fun ls hl => ?_)
          obtain ⟨x_10, ex_10, h⟩ := q_let_ok h
          refine lv_iinc (v := x_10) (lv' := [(3, .int x_10), (2, .int x_9), (0, .ref (q 0)), (1, .int v1)]) hx hb dX4_loadAt_44 hl (k := 3) rfl (by rw [ex_10]; rfl) (by decide) rfl (fun ls hl => ?_)
          refine lv_goto (tgt := 4) hx hb dX4_loadAt_47 (by decide) ?_
          exact ih4_1 x_9 x_10 K4_1 _ _ _ hP hD hS (lv_sub hl [2, 3, 1, 0] rfl) h
        · have h := q_f c_8 h
          refine lv_aload_n hx hb dX4_loadAt_23 rfl (lv_at hl 0 rfl) ?_
          refine lv_iload_n hx hb dX4_loadAt_24 rfl (lv_at hl 3 rfl) ?_
          refine lv_iconst (v := 2) hx hb dX4_loadAt_25 (by decide) ?_
          obtain ⟨r_11, hc_12, h⟩ := q_bd_ok h
          refine q_ci (r := r_11) (va_runV (As := [.int v3, .int (2 : Int32)]) (rest := [.int v2]) ⟨hx, hb, hml, hown, hts⟩ (c_X4_it l D y t q _ N F G v3 (2 : Int32) r_11 hc_12) (cwV 2 hts gX4_loadAt_X4_it rfl rfl rfl eX4_it ⟨Nat.le_of_ble_eq_true rfl, Nat.le_of_ble_eq_true rfl⟩) ⟨q_blind, (va_recv hK hP (ci := 4) (q0 := 0) rfl rfl), (q_pre hP hK hZ hD hA hS [0, 1, 2, 3, 4, 5, 6, 7, 8] rfl (by decide))⟩ rfl rfl hl.1 rfl (lv_room (Nat.le_of_ble_eq_true rfl)) dX4_loadAt_26 ⟨Nat.zero_le _, Nat.zero_le _⟩) hP hD hA hS [0, 1, 2, 3, 4, 5, 6, 7, 8] rfl (by decide) rfl (fun H locs hP hD hS => ?_)
          have hP : va_P D vwCl (wM y q F G) H := hP
          have hD : va_D A (wM y q F G) := hD
          refine lv_iload_n hx hb dX4_loadAt_29 rfl (lv_at hl 1 rfl) ?_
          refine lv_icmp_ne (tgt := 41) hx hb dX4_loadAt_30 (by decide) (fun c_13 => ?_) (fun c_13 => ?_)
          · have h := q_f c_13 h
            refine lv_iconst (v := 0) hx hb dX4_loadAt_41 (by decide) ?_
            refine lv_iadd hx hb dX4_loadAt_42 ?_
            refine lv_topi (fun x_14 ex_14 => ?_)
            have h := q_let_at ex_14 h
            refine lv_istore_n (lv' := [(2, .int x_14), (0, .ref (q 0)), (1, .int v1), (3, .int v3)]) hx hb dX4_loadAt_43 rfl hl (by decide) rfl (fun ls hl => ?_)
            obtain ⟨x_15, ex_15, h⟩ := q_let_ok h
            refine lv_iinc (v := x_15) (lv' := [(3, .int x_15), (2, .int x_14), (0, .ref (q 0)), (1, .int v1)]) hx hb dX4_loadAt_44 hl (k := 3) rfl (by rw [ex_15]; rfl) (by decide) rfl (fun ls hl => ?_)
            refine lv_goto (tgt := 4) hx hb dX4_loadAt_47 (by decide) ?_
            exact ih4_1 x_14 x_15 K4_1 _ _ _ hP hD hS (lv_sub hl [2, 3, 1, 0] rfl) h
          · have h := q_t c_13 h
            refine lv_aload_n hx hb dX4_loadAt_33 rfl (lv_at hl 0 rfl) ?_
            refine lv_iload_n hx hb dX4_loadAt_34 rfl (lv_at hl 3 rfl) ?_
            obtain ⟨r_16, hc_17, h⟩ := q_bd_ok h
            refine q_ci (r := r_16) (va_runV (As := [.int v3]) (rest := [.int v2]) ⟨hx, hb, hml, hown, hts⟩ (c_X4_weighs l D y t q _ N F G v3 r_16 hc_17) (cwV 1 hts gX4_loadAt_X4_weighs rfl rfl rfl eX4_weighs ⟨Nat.le_of_ble_eq_true rfl, Nat.le_of_ble_eq_true rfl⟩) ⟨q_blind, (va_recv hK hP (ci := 4) (q0 := 0) rfl rfl), (q_pre hP hK hZ hD hA hS [0, 1, 2, 3, 4, 5, 6, 7, 8] rfl (by decide))⟩ rfl rfl hl.1 rfl (lv_room (Nat.le_of_ble_eq_true rfl)) dX4_loadAt_35 ⟨Nat.zero_le _, Nat.zero_le _⟩) hP hD hA hS [0, 1, 2, 3, 4, 5, 6, 7, 8] rfl (by decide) rfl (fun H locs hP hD hS => ?_)
            have hP : va_P D vwCl (wM y q F G) H := hP
            have hD : va_D A (wM y q F G) := hD
            refine lv_goto (tgt := 42) hx hb dX4_loadAt_38 (by decide) ?_
            refine lv_iadd hx hb dX4_loadAt_42 ?_
            refine lv_topi (fun x_18 ex_18 => ?_)
            have h := q_let_at ex_18 h
            refine lv_istore_n (lv' := [(2, .int x_18), (0, .ref (q 0)), (1, .int v1), (3, .int v3)]) hx hb dX4_loadAt_43 rfl hl (by decide) rfl (fun ls hl => ?_)
            obtain ⟨x_19, ex_19, h⟩ := q_let_ok h
            refine lv_iinc (v := x_19) (lv' := [(3, .int x_19), (2, .int x_18), (0, .ref (q 0)), (1, .int v1)]) hx hb dX4_loadAt_44 hl (k := 3) rfl (by rw [ex_19]; rfl) (by decide) rfl (fun ls hl => ?_)
            refine lv_goto (tgt := 4) hx hb dX4_loadAt_47 (by decide) ?_
            exact ih4_1 x_18 x_19 K4_1 _ _ _ hP hD hS (lv_sub hl [2, 3, 1, 0] rfl) h
  exact L4_1 F G p1 N (0 : Int32) (0 : Int32) K4_1 _ _ _ hP hD hS (lv_sub hl [2, 3, 1, 0] rfl) hL1
theorem eX4_loadAt : yX4_loadAt.cls = RX4 ∧ yX4_loadAt.cls ≠ "java/lang/invoke/MethodHandle" ∧ yX4_loadAt.cls ≠ "java/lang/invoke/VarHandle" ∧ (parseMethodDescriptor yX4_loadAt.desc).map (fun d => d.parameters.length) = some 1 := by decide +kernel
def f_X4_isBorne (N : Nat) (F : Nat → Nat → Int32) (G : Nat → Int64) (p1 : Int32) : Option (Int32) :=
  q_bd (f_X4_it N F G p1 (2 : Int32)) (fun r_1 =>
  q_bd (f_X4_loadAt N F G r_1) (fun r_3 =>
  q_bd (f_X4_weighs N F G p1) (fun r_5 =>
  q_bd (f_X4_it N F G p1 (2 : Int32)) (fun r_7 =>
  q_bd (f_X4_bears N F G r_7) (fun r_9 =>
  if r_9 < (r_3 + r_5) then
    some (0 : Int32)
  else
    some (1 : Int32))))))
set_option maxHeartbeats 4000000 in
set_option maxRecDepth 100000 in
theorem c_X4_isBorne (l : Launch) (D : va_G) (y : Nat → ClassId) (t : Nat → Nat) (q : Nat → Nat) (sz N : Nat) (F : Nat → Nat → Int32) (G : Nat → Int64) (p1 : Int32) (res : Int32) (h : f_X4_isBorne N F G p1 = some res) : Met l yX4_isBorne wsX4_isBorne ({ frames := 3, cells := 0, slots := 0, locals := 67 } : Room) (pPre D y t [.ref (q 0), .int p1] (wM y q F G) sz) (pQi D y res (wM y q F G) (va_A (wM y q F G) sz)) 0 0 (va_A (wM y q F G) sz) := by
  refine q_start (Qc := (fun A => pQi D y res (wM y q F G) A)) (cc := cX4_isBorne) (maxL := 2) (ret := (some .boolean)) (by decide) rfl (Nat.le_of_ble_eq_true rfl) ?_
  intro p e s m below meth c A ls hx hb hr hts hown hlocks hmn hml hP hK hZ hD hA hS hl
  have hl : lv_has ls 2 [(0, .ref (q 0)), (1, .int p1)] := hl
  have hown : s.vm.findClass RX4 = some m.cls := hown
  unfold f_X4_isBorne at h
  refine lv_aload_n hx hb dX4_isBorne_0 rfl (lv_at hl 0 rfl) ?_
  refine lv_aload_n hx hb dX4_isBorne_1 rfl (lv_at hl 0 rfl) ?_
  refine lv_iload_n hx hb dX4_isBorne_2 rfl (lv_at hl 1 rfl) ?_
  refine lv_iconst (v := 2) hx hb dX4_isBorne_3 (by decide) ?_
  obtain ⟨r_1, hc_2, h⟩ := q_bd_ok h
  refine q_ci (r := r_1) (va_runV (As := [.int p1, .int (2 : Int32)]) (rest := [.ref (q 0)]) ⟨hx, hb, hml, hown, hts⟩ (c_X4_it l D y t q _ N F G p1 (2 : Int32) r_1 hc_2) (cwV 2 hts gX4_isBorne_X4_it rfl rfl rfl eX4_it ⟨Nat.le_of_ble_eq_true rfl, Nat.le_of_ble_eq_true rfl⟩) ⟨q_blind, (va_recv hK hP (ci := 4) (q0 := 0) rfl rfl), (q_pre hP hK hZ hD hA hS [0, 1, 2, 3, 4, 5, 6, 7, 8] rfl (by decide))⟩ rfl rfl hl.1 rfl (lv_room (Nat.le_of_ble_eq_true rfl)) dX4_isBorne_4 ⟨Nat.zero_le _, Nat.zero_le _⟩) hP hD hA hS [0, 1, 2, 3, 4, 5, 6, 7, 8] rfl (by decide) rfl (fun H locs hP hD hS => ?_)
  have hP : va_P D vwCl (wM y q F G) H := hP
  have hD : va_D A (wM y q F G) := hD
  obtain ⟨r_3, hc_4, h⟩ := q_bd_ok h
  refine q_ci (r := r_3) (va_runV (As := [.int r_1]) (rest := []) ⟨hx, hb, hml, hown, hts⟩ (c_X4_loadAt l D y t q _ N F G r_1 r_3 hc_4) (cwV 1 hts gX4_isBorne_X4_loadAt rfl rfl rfl eX4_loadAt ⟨Nat.le_of_ble_eq_true rfl, Nat.le_of_ble_eq_true rfl⟩) ⟨q_blind, (va_recv hK hP (ci := 4) (q0 := 0) rfl rfl), (q_pre hP hK hZ hD hA hS [0, 1, 2, 3, 4, 5, 6, 7, 8] rfl (by decide))⟩ rfl rfl hl.1 rfl (lv_room (Nat.le_of_ble_eq_true rfl)) dX4_isBorne_7 ⟨Nat.zero_le _, Nat.zero_le _⟩) hP hD hA hS [0, 1, 2, 3, 4, 5, 6, 7, 8] rfl (by decide) rfl (fun H locs hP hD hS => ?_)
  have hP : va_P D vwCl (wM y q F G) H := hP
  have hD : va_D A (wM y q F G) := hD
  refine lv_aload_n hx hb dX4_isBorne_10 rfl (lv_at hl 0 rfl) ?_
  refine lv_iload_n hx hb dX4_isBorne_11 rfl (lv_at hl 1 rfl) ?_
  obtain ⟨r_5, hc_6, h⟩ := q_bd_ok h
  refine q_ci (r := r_5) (va_runV (As := [.int p1]) (rest := [.int r_3]) ⟨hx, hb, hml, hown, hts⟩ (c_X4_weighs l D y t q _ N F G p1 r_5 hc_6) (cwV 1 hts gX4_isBorne_X4_weighs rfl rfl rfl eX4_weighs ⟨Nat.le_of_ble_eq_true rfl, Nat.le_of_ble_eq_true rfl⟩) ⟨q_blind, (va_recv hK hP (ci := 4) (q0 := 0) rfl rfl), (q_pre hP hK hZ hD hA hS [0, 1, 2, 3, 4, 5, 6, 7, 8] rfl (by decide))⟩ rfl rfl hl.1 rfl (lv_room (Nat.le_of_ble_eq_true rfl)) dX4_isBorne_12 ⟨Nat.zero_le _, Nat.zero_le _⟩) hP hD hA hS [0, 1, 2, 3, 4, 5, 6, 7, 8] rfl (by decide) rfl (fun H locs hP hD hS => ?_)
  have hP : va_P D vwCl (wM y q F G) H := hP
  have hD : va_D A (wM y q F G) := hD
  refine lv_iadd hx hb dX4_isBorne_15 ?_
  refine lv_aload_n hx hb dX4_isBorne_16 rfl (lv_at hl 0 rfl) ?_
  refine lv_aload_n hx hb dX4_isBorne_17 rfl (lv_at hl 0 rfl) ?_
  refine lv_iload_n hx hb dX4_isBorne_18 rfl (lv_at hl 1 rfl) ?_
  refine lv_iconst (v := 2) hx hb dX4_isBorne_19 (by decide) ?_
  obtain ⟨r_7, hc_8, h⟩ := q_bd_ok h
  refine q_ci (r := r_7) (va_runV (As := [.int p1, .int (2 : Int32)]) (rest := [.ref (q 0), .int (r_3 + r_5)]) ⟨hx, hb, hml, hown, hts⟩ (c_X4_it l D y t q _ N F G p1 (2 : Int32) r_7 hc_8) (cwV 2 hts gX4_isBorne_X4_it rfl rfl rfl eX4_it ⟨Nat.le_of_ble_eq_true rfl, Nat.le_of_ble_eq_true rfl⟩) ⟨q_blind, (va_recv hK hP (ci := 4) (q0 := 0) rfl rfl), (q_pre hP hK hZ hD hA hS [0, 1, 2, 3, 4, 5, 6, 7, 8] rfl (by decide))⟩ rfl rfl hl.1 rfl (lv_room (Nat.le_of_ble_eq_true rfl)) dX4_isBorne_20 ⟨Nat.zero_le _, Nat.zero_le _⟩) hP hD hA hS [0, 1, 2, 3, 4, 5, 6, 7, 8] rfl (by decide) rfl (fun H locs hP hD hS => ?_)
  have hP : va_P D vwCl (wM y q F G) H := hP
  have hD : va_D A (wM y q F G) := hD
  obtain ⟨r_9, hc_10, h⟩ := q_bd_ok h
  refine q_ci (r := r_9) (va_runV (As := [.int r_7]) (rest := [.int (r_3 + r_5)]) ⟨hx, hb, hml, hown, hts⟩ (c_X4_bears l D y t q _ N F G r_7 r_9 hc_10) (cwV 1 hts gX4_isBorne_X4_bears rfl rfl rfl eX4_bears ⟨Nat.le_of_ble_eq_true rfl, Nat.le_of_ble_eq_true rfl⟩) ⟨q_blind, (va_recv hK hP (ci := 4) (q0 := 0) rfl rfl), (q_pre hP hK hZ hD hA hS [0, 1, 2, 3, 4, 5, 6, 7, 8] rfl (by decide))⟩ rfl rfl hl.1 rfl (lv_room (Nat.le_of_ble_eq_true rfl)) dX4_isBorne_23 ⟨Nat.zero_le _, Nat.zero_le _⟩) hP hD hA hS [0, 1, 2, 3, 4, 5, 6, 7, 8] rfl (by decide) rfl (fun H locs hP hD hS => ?_)
  have hP : va_P D vwCl (wM y q F G) H := hP
  have hD : va_D A (wM y q F G) := hD
  refine lv_icmp_gt (tgt := 33) hx hb dX4_isBorne_26 (by decide) (fun c_11 => ?_) (fun c_11 => ?_)
  · have h := q_t c_11 h
    refine lv_iconst (v := 0) hx hb dX4_isBorne_33 (by decide) ?_
    have e9 := Option.some.inj h
    exact q_zret hx hb hr hlocks hK hP hD hS dX4_isBorne_34 rfl (by first | rw [← e9] | rfl) (by first | rw [← e9] | rfl)
  · have h := q_f c_11 h
    refine lv_iconst (v := 1) hx hb dX4_isBorne_29 (by decide) ?_
    refine lv_goto (tgt := 34) hx hb dX4_isBorne_30 (by decide) ?_
    have e9 := Option.some.inj h
    exact q_zret hx hb hr hlocks hK hP hD hS dX4_isBorne_34 rfl (by first | rw [← e9] | rfl) (by first | rw [← e9] | rfl)
theorem eX4_isBorne : yX4_isBorne.cls = RX4 ∧ yX4_isBorne.cls ≠ "java/lang/invoke/MethodHandle" ∧ yX4_isBorne.cls ≠ "java/lang/invoke/VarHandle" ∧ (parseMethodDescriptor yX4_isBorne.desc).map (fun d => d.parameters.length) = some 1 := by decide +kernel
theorem kX4_beam_0 : Cond.constant RX4 35 (-1000000001) ∈ wsX4_beam := List.mem_of_getElem? (i := 1) (by decide +kernel)
def f_X4_beam_B53 (N : Nat) (F : Nat → Nat → Int32) (G : Nat → Int64) (v1 : Int32) (v2 : Int32) (s0 : Int32) : Option (Int32 × (Nat → Nat → Int32)) :=
  if s0 = 0 then
    q_bd2 (f_X4_finds N F G (-1000000001 : Int32)) (fun r_5 F_6 =>
    some (r_5, F_6))
  else
    q_bd2 (f_X4_becomes N F G ((1 : Int32) + v1) v2) (fun r_8 F_9 =>
    some (r_8, F_9))
def f_X4_beam_B52 (N : Nat) (F : Nat → Nat → Int32) (G : Nat → Int64) (v1 : Int32) (v2 : Int32) : Option (Int32 × (Nat → Nat → Int32)) :=
  f_X4_beam_B53 N F G v1 v2 (0 : Int32)
def f_X4_beam_B42 (N : Nat) (F : Nat → Nat → Int32) (G : Nat → Int64) (v1 : Int32) (v2 : Int32) (s0 : Int64) (s1 : Int32) (s2 : Int32) : Option (Int32 × (Nat → Nat → Int32)) :=
  q_bd (f_X4_in N s0 s1 s2) (fun r_14 =>
  if r_14 = 0 then
    f_X4_beam_B52 N F G v1 v2
  else
    f_X4_beam_B53 N F G v1 v2 (1 : Int32))
def f_X4_beam_B21 (N : Nat) (F : Nat → Nat → Int32) (G : Nat → Int64) (v1 : Int32) (v2 : Int32) (s0 : Int64) (s1 : Int32) : Option (Int32 × (Nat → Nat → Int32)) :=
  if v1 = 0 then
    f_X4_beam_B42 N F G v1 v2 s0 s1 (59 : Int32)
  else
    if v1 = (1 : Int32) then
      f_X4_beam_B42 N F G v1 v2 s0 s1 (10 : Int32)
    else
      f_X4_beam_B42 N F G v1 v2 s0 s1 (40 : Int32)
def f_X4_beam (N : Nat) (F : Nat → Nat → Int32) (G : Nat → Int64) (p1 : Int32) (p2 : Int32) : Option (Int32 × (Nat → Nat → Int32)) :=
  q_bd (f_X4_in N (p1.toInt64) (0 : Int32) (2 : Int32)) (fun r_1 =>
  if r_1 = 0 then
    f_X4_beam_B52 N F G p1 p2
  else
    if p1 = 0 then
      f_X4_beam_B21 N F G p1 p2 (p2.toInt64) (0 : Int32)
    else
      f_X4_beam_B21 N F G p1 p2 (p2.toInt64) (1 : Int32))
set_option maxHeartbeats 4000000 in
set_option maxRecDepth 100000 in
theorem c_X4_beam (l : Launch) (D : va_G) (y : Nat → ClassId) (t : Nat → Nat) (q : Nat → Nat) (sz N : Nat) (F : Nat → Nat → Int32) (G : Nat → Int64) (p1 : Int32) (p2 : Int32) (res : Int32 × (Nat → Nat → Int32)) (h : f_X4_beam N F G p1 p2 = some res) : Met l yX4_beam wsX4_beam ({ frames := 1, cells := 0, slots := 0, locals := 23 } : Room) (pPre D y t [.ref (q 0), .int p1, .int p2] (wM y q F G) sz) (pQi D y (res.1) (wM y q (res.2) G) (va_A (wM y q F G) sz)) 0 0 (va_A (wM y q F G) sz) := by
  refine q_start (Qc := (fun A => pQi D y (res.1) (wM y q (res.2) G) A)) (cc := cX4_beam) (maxL := 4) (ret := (some .int)) (by decide) rfl (Nat.le_of_ble_eq_true rfl) ?_
  intro p e s m below meth c A ls hx hb hr hts hown hlocks hmn hml hP hK hZ hD hA hS hl
  have hl : lv_has ls 4 [(0, .ref (q 0)), (1, .int p1), (2, .int p2)] := hl
  have hown : s.vm.findClass RX4 = some m.cls := hown
  have B53 : ∀ (F : Nat → Nat → Int32) (G : Nat → Int64) (v1 : Int32) (v2 : Int32) (s0 : Int32) (H : Heap) (locs : List Loc) (ls : Array Slot), va_P D vwCl (wM y q F G) H → va_D A (wM y q F G) → va_S A s.heap H locs → lv_has ls 4 [(0, .ref (q 0)), (1, .int v1), (2, .int v2)] → f_X4_beam_B53 N F G v1 v2 s0 = some res → W p l e ({ frames := 1, cells := 0, slots := 0, locals := 23 } : Room) s m ([.ref (q 0), .int p1, .int p2] : List Value).toArray below meth c H locs 0 0 (MQ below (pQi D y (res.1) (wM y q (res.2) G) A) ([.ref (q 0), .int p1, .int p2] : List Value).toArray s 0 0 A) (F0 m 53 ls [.int s0]) := by
    intro F G v1 v2 s0 H locs ls hP hD hS hl h
    unfold f_X4_beam_B53 at h
    refine lv_istore_n (lv' := [(3, .int s0), (0, .ref (q 0)), (1, .int v1), (2, .int v2)]) hx hb dX4_beam_53 rfl hl (by decide) rfl (fun ls hl => ?_)
    refine lv_iload_n hx hb dX4_beam_54 rfl (lv_at hl 0 rfl) ?_
    refine lv_if_eq (tgt := 69) hx hb dX4_beam_55 (by decide) (fun c_4 => ?_) (fun c_4 => ?_)
    · have h := q_t c_4 h
      refine lv_aload_n hx hb dX4_beam_69 rfl (lv_at hl 1 rfl) ?_
      refine lv_ldc (v := -1000000001) hx hb hown (hts _ kX4_beam_0) dX4_beam_70 ?_
      obtain ⟨r_5, F_6, hc_7, h⟩ := q_bd2_ok h
      refine q_ci (r := r_5) (va_runV (As := [.int (-1000000001 : Int32)]) (rest := []) ⟨hx, hb, hml, hown, hts⟩ (c_X4_finds l D y t q _ N F G (-1000000001 : Int32) (r_5, F_6) hc_7) (cwV 1 hts gX4_beam_X4_finds rfl rfl rfl eX4_finds ⟨Nat.le_of_ble_eq_true rfl, Nat.le_of_ble_eq_true rfl⟩) ⟨q_blind, (va_recv hK hP (ci := 4) (q0 := 0) rfl rfl), (q_pre hP hK hZ hD hA hS [0, 1, 2, 3, 4, 5, 6, 7, 8] rfl (by decide))⟩ rfl rfl hl.1 rfl (lv_room (Nat.le_of_ble_eq_true rfl)) dX4_beam_72 ⟨Nat.zero_le _, Nat.zero_le _⟩) hP hD hA hS [0, 1, 2, 3, 4, 5, 6, 7, 8] rfl (by decide) rfl (fun H locs hP hD hS => ?_)
      have hP : va_P D vwCl (wM y q F_6 G) H := hP
      have hD : va_D A (wM y q F_6 G) := hD
      have e9 := Option.some.inj h
      exact q_iret hx hb hr hlocks hK hP hD hS dX4_beam_75 (by first | rw [← e9] | rfl) (by first | rw [← e9] | rfl)
    · have h := q_f c_4 h
      refine lv_aload_n hx hb dX4_beam_58 rfl (lv_at hl 1 rfl) ?_
      refine lv_iconst (v := 1) hx hb dX4_beam_59 (by decide) ?_
      refine lv_iload_n hx hb dX4_beam_60 rfl (lv_at hl 2 rfl) ?_
      refine lv_iadd hx hb dX4_beam_61 ?_
      refine lv_iload_n hx hb dX4_beam_62 rfl (lv_at hl 3 rfl) ?_
      obtain ⟨r_8, F_9, hc_10, h⟩ := q_bd2_ok h
      refine q_ci (r := r_8) (va_runV (As := [.int ((1 : Int32) + v1), .int v2]) (rest := []) ⟨hx, hb, hml, hown, hts⟩ (c_X4_becomes l D y t q _ N F G ((1 : Int32) + v1) v2 (r_8, F_9) hc_10) (cwV 2 hts gX4_beam_X4_becomes rfl rfl rfl eX4_becomes ⟨Nat.le_of_ble_eq_true rfl, Nat.le_of_ble_eq_true rfl⟩) ⟨q_blind, (va_recv hK hP (ci := 4) (q0 := 0) rfl rfl), (q_pre hP hK hZ hD hA hS [0, 1, 2, 3, 4, 5, 6, 7, 8] rfl (by decide))⟩ rfl rfl hl.1 rfl (lv_room (Nat.le_of_ble_eq_true rfl)) dX4_beam_63 ⟨Nat.zero_le _, Nat.zero_le _⟩) hP hD hA hS [0, 1, 2, 3, 4, 5, 6, 7, 8] rfl (by decide) rfl (fun H locs hP hD hS => ?_)
      have hP : va_P D vwCl (wM y q F_9 G) H := hP
      have hD : va_D A (wM y q F_9 G) := hD
      refine lv_goto (tgt := 75) hx hb dX4_beam_66 (by decide) ?_
      have e9 := Option.some.inj h
      exact q_iret hx hb hr hlocks hK hP hD hS dX4_beam_75 (by first | rw [← e9] | rfl) (by first | rw [← e9] | rfl)
  have B52 : ∀ (F : Nat → Nat → Int32) (G : Nat → Int64) (v1 : Int32) (v2 : Int32) (H : Heap) (locs : List Loc) (ls : Array Slot), va_P D vwCl (wM y q F G) H → va_D A (wM y q F G) → va_S A s.heap H locs → lv_has ls 4 [(0, .ref (q 0)), (1, .int v1), (2, .int v2)] → f_X4_beam_B52 N F G v1 v2 = some res → W p l e ({ frames := 1, cells := 0, slots := 0, locals := 23 } : Room) s m ([.ref (q 0), .int p1, .int p2] : List Value).toArray below meth c H locs 0 0 (MQ below (pQi D y (res.1) (wM y q (res.2) G) A) ([.ref (q 0), .int p1, .int p2] : List Value).toArray s 0 0 A) (F0 m 52 ls []) := by
    intro F G v1 v2 H locs ls hP hD hS hl h
    unfold f_X4_beam_B52 at h
    refine lv_iconst (v := 0) hx hb dX4_beam_52 (by decide) ?_
    exact B53 F G v1 v2 (0 : Int32) _ _ _ hP hD hS (lv_sub hl [0, 1, 2] rfl) h
  have B42 : ∀ (F : Nat → Nat → Int32) (G : Nat → Int64) (v1 : Int32) (v2 : Int32) (s0 : Int64) (s1 : Int32) (s2 : Int32) (H : Heap) (locs : List Loc) (ls : Array Slot), va_P D vwCl (wM y q F G) H → va_D A (wM y q F G) → va_S A s.heap H locs → lv_has ls 4 [(0, .ref (q 0)), (1, .int v1), (2, .int v2)] → f_X4_beam_B42 N F G v1 v2 s0 s1 s2 = some res → W p l e ({ frames := 1, cells := 0, slots := 0, locals := 23 } : Room) s m ([.ref (q 0), .int p1, .int p2] : List Value).toArray below meth c H locs 0 0 (MQ below (pQi D y (res.1) (wM y q (res.2) G) A) ([.ref (q 0), .int p1, .int p2] : List Value).toArray s 0 0 A) (F0 m 42 ls [.int s2, .int s1, .long s0]) := by
    intro F G v1 v2 s0 s1 s2 H locs ls hP hD hS hl h
    unfold f_X4_beam_B42 at h
    obtain ⟨r_14, hc_15, h⟩ := q_bd_ok h
    refine q_ci (r := r_14) (va_runS (As := [.long s0, .int s1, .int s2]) (rest := []) ⟨hx, hb, hml, hown, hts⟩ (c_X4_in l D y t q _ N s0 s1 s2 r_14 hc_15) (va_cwS 3 hts gX4_beam_X4_in rfl rfl rfl eX4_in ⟨Nat.le_of_ble_eq_true rfl, Nat.le_of_ble_eq_true rfl⟩) ⟨q_blind, (q_pre hP hK hZ hD hA hS [] rfl (by decide))⟩ rfl rfl hl.1 rfl (lv_room (Nat.le_of_ble_eq_true rfl)) dX4_beam_42 ⟨Nat.zero_le _, Nat.zero_le _⟩) hP hD hA hS [] rfl (by decide) rfl (fun H locs hP hD hS => ?_)
    have hP : va_P D vwCl (wM y q F G) H := hP
    have hD : va_D A (wM y q F G) := hD
    refine lv_if_eq (tgt := 52) hx hb dX4_beam_45 (by decide) (fun c_16 => ?_) (fun c_16 => ?_)
    · have h := q_t c_16 h
      exact B52 F G v1 v2 _ _ _ hP hD hS (lv_sub hl [0, 1, 2] rfl) h
    · have h := q_f c_16 h
      refine lv_iconst (v := 1) hx hb dX4_beam_48 (by decide) ?_
      refine lv_goto (tgt := 53) hx hb dX4_beam_49 (by decide) ?_
      exact B53 F G v1 v2 (1 : Int32) _ _ _ hP hD hS (lv_sub hl [0, 1, 2] rfl) h
  have B21 : ∀ (F : Nat → Nat → Int32) (G : Nat → Int64) (v1 : Int32) (v2 : Int32) (s0 : Int64) (s1 : Int32) (H : Heap) (locs : List Loc) (ls : Array Slot), va_P D vwCl (wM y q F G) H → va_D A (wM y q F G) → va_S A s.heap H locs → lv_has ls 4 [(0, .ref (q 0)), (1, .int v1), (2, .int v2)] → f_X4_beam_B21 N F G v1 v2 s0 s1 = some res → W p l e ({ frames := 1, cells := 0, slots := 0, locals := 23 } : Room) s m ([.ref (q 0), .int p1, .int p2] : List Value).toArray below meth c H locs 0 0 (MQ below (pQi D y (res.1) (wM y q (res.2) G) A) ([.ref (q 0), .int p1, .int p2] : List Value).toArray s 0 0 A) (F0 m 21 ls [.int s1, .long s0]) := by
    intro F G v1 v2 s0 s1 H locs ls hP hD hS hl h
    unfold f_X4_beam_B21 at h
    refine lv_iload_n hx hb dX4_beam_21 rfl (lv_at hl 1 rfl) ?_
    refine lv_if_ne (tgt := 30) hx hb dX4_beam_22 (by decide) (fun c_12 => ?_) (fun c_12 => ?_)
    · have h := q_f c_12 h
      refine lv_iload_n hx hb dX4_beam_30 rfl (lv_at hl 1 rfl) ?_
      refine lv_iconst (v := 1) hx hb dX4_beam_31 (by decide) ?_
      refine lv_icmp_ne (tgt := 40) hx hb dX4_beam_32 (by decide) (fun c_13 => ?_) (fun c_13 => ?_)
      · have h := q_f c_13 h
        refine lv_bipush (v := 40) hx hb dX4_beam_40 (by decide) ?_
        exact B42 F G v1 v2 s0 s1 (40 : Int32) _ _ _ hP hD hS (lv_sub hl [0, 1, 2] rfl) h
      · have h := q_t c_13 h
        refine lv_bipush (v := 10) hx hb dX4_beam_35 (by decide) ?_
        refine lv_goto (tgt := 42) hx hb dX4_beam_37 (by decide) ?_
        exact B42 F G v1 v2 s0 s1 (10 : Int32) _ _ _ hP hD hS (lv_sub hl [0, 1, 2] rfl) h
    · have h := q_t c_12 h
      refine lv_bipush (v := 59) hx hb dX4_beam_25 (by decide) ?_
      refine lv_goto (tgt := 42) hx hb dX4_beam_27 (by decide) ?_
      exact B42 F G v1 v2 s0 s1 (59 : Int32) _ _ _ hP hD hS (lv_sub hl [0, 1, 2] rfl) h
  unfold f_X4_beam at h
  refine lv_iload_n hx hb dX4_beam_0 rfl (lv_at hl 1 rfl) ?_
  refine lv_i2l hx hb dX4_beam_1 rfl ?_
  refine lv_iconst (v := 0) hx hb dX4_beam_2 (by decide) ?_
  refine lv_iconst (v := 2) hx hb dX4_beam_3 (by decide) ?_
  obtain ⟨r_1, hc_2, h⟩ := q_bd_ok h
  refine q_ci (r := r_1) (va_runS (As := [.long (p1.toInt64), .int (0 : Int32), .int (2 : Int32)]) (rest := []) ⟨hx, hb, hml, hown, hts⟩ (c_X4_in l D y t q _ N (p1.toInt64) (0 : Int32) (2 : Int32) r_1 hc_2) (va_cwS 3 hts gX4_beam_X4_in rfl rfl rfl eX4_in ⟨Nat.le_of_ble_eq_true rfl, Nat.le_of_ble_eq_true rfl⟩) ⟨q_blind, (q_pre hP hK hZ hD hA hS [] rfl (by decide))⟩ rfl rfl hl.1 rfl (lv_room (Nat.le_of_ble_eq_true rfl)) dX4_beam_4 ⟨Nat.zero_le _, Nat.zero_le _⟩) hP hD hA hS [] rfl (by decide) rfl (fun H locs hP hD hS => ?_)
  have hP : va_P D vwCl (wM y q F G) H := hP
  have hD : va_D A (wM y q F G) := hD
  refine lv_if_eq (tgt := 52) hx hb dX4_beam_7 (by decide) (fun c_3 => ?_) (fun c_3 => ?_)
  · have h := q_t c_3 h
    exact B52 F G p1 p2 _ _ _ hP hD hS (lv_sub hl [0, 1, 2] rfl) h
  · have h := q_f c_3 h
    refine lv_iload_n hx hb dX4_beam_10 rfl (lv_at hl 2 rfl) ?_
    refine lv_i2l hx hb dX4_beam_11 rfl ?_
    refine lv_iload_n hx hb dX4_beam_12 rfl (lv_at hl 1 rfl) ?_
    refine lv_if_ne (tgt := 20) hx hb dX4_beam_13 (by decide) (fun c_11 => ?_) (fun c_11 => ?_)
    · have h := q_f c_11 h
      refine lv_iconst (v := 1) hx hb dX4_beam_20 (by decide) ?_
      exact B21 F G p1 p2 (p2.toInt64) (1 : Int32) _ _ _ hP hD hS (lv_sub hl [0, 1, 2] rfl) h
    · have h := q_t c_11 h
      refine lv_iconst (v := 0) hx hb dX4_beam_16 (by decide) ?_
      refine lv_goto (tgt := 21) hx hb dX4_beam_17 (by decide) ?_
      exact B21 F G p1 p2 (p2.toInt64) (0 : Int32) _ _ _ hP hD hS (lv_sub hl [0, 1, 2] rfl) h
theorem eX4_beam : yX4_beam.cls = RX4 ∧ yX4_beam.cls ≠ "java/lang/invoke/MethodHandle" ∧ yX4_beam.cls ≠ "java/lang/invoke/VarHandle" ∧ (parseMethodDescriptor yX4_beam.desc).map (fun d => d.parameters.length) = some 2 := by decide +kernel
theorem uX4_allWeighs_X4 : ∀ w ∈ u_ws RX4 TX4 15, w ∈ wsX4_allWeighs := by decide +kernel
theorem kX4_allWeighs_1 : Cond.fieldLink RX4 9 "BeamSeatsModel" "m" "[I" ∈ wsX4_allWeighs := List.mem_of_getElem? (i := 1) (by decide +kernel)
def f_X4_allWeighs_L4 (N : Nat) (F : Nat → Nat → Int32) (G : Nat → Int64) : Nat → Int32 → Int32 → Option (Int32 × Int32)
  | 0, _, _ => none
  | k + 1, v1, v2 =>
    q_grd (4 : Int32) 69 (
    if (F 1 (4 : Int32).toNatClampNeg) ≤ v2 then
      some (v1, v2)
    else
      q_bd (f_X4_isOn N F G v2) (fun r_6 =>
      if r_6 = 0 then
        q_let (v1 + (0 : Int32)) (fun x_9 =>
        q_let (v2 + 1) (fun x_10 =>
        f_X4_allWeighs_L4 N F G k x_9 x_10))
      else
        q_bd (f_X4_weighs N F G v2) (fun r_11 =>
        q_let (v1 + r_11) (fun x_13 =>
        q_let (v2 + 1) (fun x_14 =>
        f_X4_allWeighs_L4 N F G k x_13 x_14)))))
def f_X4_allWeighs (N : Nat) (F : Nat → Nat → Int32) (G : Nat → Int64) : Option (Int32) :=
  q_bd2 (f_X4_allWeighs_L4 N F G N (0 : Int32) (0 : Int32)) (fun x_2 x_3 =>
  some x_2)
set_option maxHeartbeats 4000000 in
set_option maxRecDepth 100000 in
theorem c_X4_allWeighs (l : Launch) (D : va_G) (y : Nat → ClassId) (t : Nat → Nat) (q : Nat → Nat) (sz N : Nat) (F : Nat → Nat → Int32) (G : Nat → Int64) (res : Int32) (h : f_X4_allWeighs N F G = some res) : Met l yX4_allWeighs wsX4_allWeighs ({ frames := 2, cells := 0, slots := 0, locals := 44 } : Room) (pPre D y t [.ref (q 0)] (wM y q F G) sz) (pQi D y res (wM y q F G) (va_A (wM y q F G) sz)) 0 0 (va_A (wM y q F G) sz) := by
  refine q_start (Qc := (fun A => pQi D y res (wM y q F G) A)) (cc := cX4_allWeighs) (maxL := 3) (ret := (some .int)) (by decide) rfl (Nat.le_of_ble_eq_true rfl) ?_
  intro p e s m below meth c A ls hx hb hr hts hown hlocks hmn hml hP hK hZ hD hA hS hl
  have hl : lv_has ls 3 [(0, .ref (q 0))] := hl
  have hown : s.vm.findClass RX4 = some m.cls := hown
  unfold f_X4_allWeighs at h
  refine lv_iconst (v := 0) hx hb dX4_allWeighs_0 (by decide) ?_
  refine lv_istore_n (lv' := [(1, .int (0 : Int32)), (0, .ref (q 0))]) hx hb dX4_allWeighs_1 rfl hl (by decide) rfl (fun ls hl => ?_)
  refine lv_iconst (v := 0) hx hb dX4_allWeighs_2 (by decide) ?_
  refine lv_istore_n (lv' := [(2, .int (0 : Int32)), (1, .int (0 : Int32)), (0, .ref (q 0))]) hx hb dX4_allWeighs_3 rfl hl (by decide) rfl (fun ls hl => ?_)
  obtain ⟨x_2, x_3, hL1, h⟩ := q_bd2_ok h
  have K4_1 : ∀ (H : Heap) (locs : List Loc) (ls : Array Slot), va_P D vwCl (wM y q F G) H → va_D A (wM y q F G) → va_S A s.heap H locs → lv_has ls 3 [(0, .ref (q 0)), (1, .int x_2), (2, .int x_3)] → W p l e ({ frames := 2, cells := 0, slots := 0, locals := 44 } : Room) s m ([.ref (q 0)] : List Value).toArray below meth c H locs 0 0 (MQ below (pQi D y res (wM y q F G) A) ([.ref (q 0)] : List Value).toArray s 0 0 A) (F0 m 40 ls []) := by
    intro H locs ls hP hD hS hl
    refine lv_iload_n hx hb dX4_allWeighs_40 rfl (lv_at hl 1 rfl) ?_
    have e9 := Option.some.inj h
    exact q_iret hx hb hr hlocks hK hP hD hS dX4_allWeighs_41 (by first | rw [← e9] | rfl) (by first | rw [← e9] | rfl)
  have L4_1 : ∀ (F : Nat → Nat → Int32) (G : Nat → Int64) (k : Nat) (v1 : Int32) (v2 : Int32), (∀ (H : Heap) (locs : List Loc) (ls : Array Slot), va_P D vwCl (wM y q F G) H → va_D A (wM y q F G) → va_S A s.heap H locs → lv_has ls 3 [(0, .ref (q 0)), (1, .int x_2), (2, .int x_3)] → W p l e ({ frames := 2, cells := 0, slots := 0, locals := 44 } : Room) s m ([.ref (q 0)] : List Value).toArray below meth c H locs 0 0 (MQ below (pQi D y res (wM y q F G) A) ([.ref (q 0)] : List Value).toArray s 0 0 A) (F0 m 40 ls [])) → ∀ (H : Heap) (locs : List Loc) (ls : Array Slot), va_P D vwCl (wM y q F G) H → va_D A (wM y q F G) → va_S A s.heap H locs → lv_has ls 3 [(0, .ref (q 0)), (1, .int v1), (2, .int v2)] → f_X4_allWeighs_L4 N F G k v1 v2 = some (x_2, x_3) → W p l e ({ frames := 2, cells := 0, slots := 0, locals := 44 } : Room) s m ([.ref (q 0)] : List Value).toArray below meth c H locs 0 0 (MQ below (pQi D y res (wM y q F G) A) ([.ref (q 0)] : List Value).toArray s 0 0 A) (F0 m 4 ls []) := by
    intro F G k
    induction k with
    | zero =>
      intro v1 v2 K4_1 H locs ls hP hD hS hl h
      have h : (none : Option (Int32 × Int32)) = some _ := h
      cases h
    | succ k ih4_1 =>
      intro v1 v2 K4_1 H locs ls hP hD hS hl h
      rw [f_X4_allWeighs_L4] at h
      refine lv_iload_n hx hb dX4_allWeighs_4 rfl (lv_at hl 2 rfl) ?_
      refine lv_aload_n hx hb dX4_allWeighs_5 rfl (lv_at hl 0 rfl) ?_
      refine va_get (D := D) (ci := 4) (v := .ref (q 1)) (C := RX4) (T := TX4) (N := 15) hx hb hts uX4_allWeighs_X4 hown hK hP 0 rfl rfl 0 (by decide) (hts _ kX4_allWeighs_1) (fun _ h9 => h9) rfl dX4_allWeighs_6 ?_
      refine lv_iconst (v := 4) hx hb dX4_allWeighs_9 (by decide) ?_
      obtain ⟨z_4, h⟩ := q_grd_ok h
      refine va_iald hx hb hK hP 1 0 rfl rfl z_4 dX4_allWeighs_10 ?_
      refine lv_icmp_ge (tgt := 40) hx hb dX4_allWeighs_11 (by decide) (fun c_5 => ?_) (fun c_5 => ?_)
      · have h := q_t c_5 h
        cases h
        exact K4_1 _ _ _ hP hD hS (lv_sub hl [0, 1, 2] rfl)
      · have h := q_f c_5 h
        refine lv_iload_n hx hb dX4_allWeighs_14 rfl (lv_at hl 1 rfl) ?_
        refine lv_aload_n hx hb dX4_allWeighs_15 rfl (lv_at hl 0 rfl) ?_
        refine lv_iload_n hx hb dX4_allWeighs_16 rfl (lv_at hl 2 rfl) ?_
        obtain ⟨r_6, hc_7, h⟩ := q_bd_ok h
        refine q_ci (r := r_6) (va_runV (As := [.int v2]) (rest := [.int v1]) ⟨hx, hb, hml, hown, hts⟩ (c_X4_isOn l D y t q _ N F G v2 r_6 hc_7) (cwV 1 hts gX4_allWeighs_X4_isOn rfl rfl rfl eX4_isOn ⟨Nat.le_of_ble_eq_true rfl, Nat.le_of_ble_eq_true rfl⟩) ⟨q_blind, (va_recv hK hP (ci := 4) (q0 := 0) rfl rfl), (q_pre hP hK hZ hD hA hS [0, 1, 2, 3, 4, 5, 6, 7, 8] rfl (by decide))⟩ rfl rfl hl.1 rfl (lv_room (Nat.le_of_ble_eq_true rfl)) dX4_allWeighs_17 ⟨Nat.zero_le _, Nat.zero_le _⟩) hP hD hA hS [0, 1, 2, 3, 4, 5, 6, 7, 8] rfl (by decide) rfl (fun H locs hP hD hS => ?_)
        have hP : va_P D vwCl (wM y q F G) H := hP
        have hD : va_D A (wM y q F G) := hD
        refine lv_if_eq (tgt := 31) hx hb dX4_allWeighs_20 (by decide) (fun c_8 => ?_) (fun c_8 => ?_)
        · have h := q_t c_8 h
          refine lv_iconst (v := 0) hx hb dX4_allWeighs_31 (by decide) ?_
          refine lv_iadd hx hb dX4_allWeighs_32 ?_
          refine lv_topi (fun x_9 ex_9 => ?_)
          have h := q_let_at ex_9 h
          refine lv_istore_n (lv' := [(1, .int x_9), (0, .ref (q 0)), (2, .int v2)]) hx hb dX4_allWeighs_33 rfl hl (by decide) rfl (fun ls hl => ?_)
          obtain ⟨x_10, ex_10, h⟩ := q_let_ok h
          refine lv_iinc (v := x_10) (lv' := [(2, .int x_10), (1, .int x_9), (0, .ref (q 0))]) hx hb dX4_allWeighs_34 hl (k := 2) rfl (by rw [ex_10]; rfl) (by decide) rfl (fun ls hl => ?_)
          refine lv_goto (tgt := 4) hx hb dX4_allWeighs_37 (by decide) ?_
          exact ih4_1 x_9 x_10 K4_1 _ _ _ hP hD hS (lv_sub hl [2, 1, 0] rfl) h
        · have h := q_f c_8 h
          refine lv_aload_n hx hb dX4_allWeighs_23 rfl (lv_at hl 0 rfl) ?_
          refine lv_iload_n hx hb dX4_allWeighs_24 rfl (lv_at hl 2 rfl) ?_
          obtain ⟨r_11, hc_12, h⟩ := q_bd_ok h
          refine q_ci (r := r_11) (va_runV (As := [.int v2]) (rest := [.int v1]) ⟨hx, hb, hml, hown, hts⟩ (c_X4_weighs l D y t q _ N F G v2 r_11 hc_12) (cwV 1 hts gX4_allWeighs_X4_weighs rfl rfl rfl eX4_weighs ⟨Nat.le_of_ble_eq_true rfl, Nat.le_of_ble_eq_true rfl⟩) ⟨q_blind, (va_recv hK hP (ci := 4) (q0 := 0) rfl rfl), (q_pre hP hK hZ hD hA hS [0, 1, 2, 3, 4, 5, 6, 7, 8] rfl (by decide))⟩ rfl rfl hl.1 rfl (lv_room (Nat.le_of_ble_eq_true rfl)) dX4_allWeighs_25 ⟨Nat.zero_le _, Nat.zero_le _⟩) hP hD hA hS [0, 1, 2, 3, 4, 5, 6, 7, 8] rfl (by decide) rfl (fun H locs hP hD hS => ?_)
          have hP : va_P D vwCl (wM y q F G) H := hP
          have hD : va_D A (wM y q F G) := hD
          refine lv_goto (tgt := 32) hx hb dX4_allWeighs_28 (by decide) ?_
          refine lv_iadd hx hb dX4_allWeighs_32 ?_
          refine lv_topi (fun x_13 ex_13 => ?_)
          have h := q_let_at ex_13 h
          refine lv_istore_n (lv' := [(1, .int x_13), (0, .ref (q 0)), (2, .int v2)]) hx hb dX4_allWeighs_33 rfl hl (by decide) rfl (fun ls hl => ?_)
          obtain ⟨x_14, ex_14, h⟩ := q_let_ok h
          refine lv_iinc (v := x_14) (lv' := [(2, .int x_14), (1, .int x_13), (0, .ref (q 0))]) hx hb dX4_allWeighs_34 hl (k := 2) rfl (by rw [ex_14]; rfl) (by decide) rfl (fun ls hl => ?_)
          refine lv_goto (tgt := 4) hx hb dX4_allWeighs_37 (by decide) ?_
          exact ih4_1 x_13 x_14 K4_1 _ _ _ hP hD hS (lv_sub hl [2, 1, 0] rfl) h
  exact L4_1 F G N (0 : Int32) (0 : Int32) K4_1 _ _ _ hP hD hS (lv_sub hl [2, 1, 0] rfl) hL1
theorem eX4_allWeighs : yX4_allWeighs.cls = RX4 ∧ yX4_allWeighs.cls ≠ "java/lang/invoke/MethodHandle" ∧ yX4_allWeighs.cls ≠ "java/lang/invoke/VarHandle" ∧ (parseMethodDescriptor yX4_allWeighs.desc).map (fun d => d.parameters.length) = some 0 := by decide +kernel
theorem uX4_now_X4 : ∀ w ∈ u_ws RX4 TX4 15, w ∈ wsX4_now := by decide +kernel
theorem kX4_now_1 : Cond.fieldLink RX4 9 "BeamSeatsModel" "m" "[I" ∈ wsX4_now := List.mem_of_getElem? (i := 1) (by decide +kernel)
theorem kX4_now_2 : Cond.constant RX4 35 (-1000000001) ∈ wsX4_now := List.mem_of_getElem? (i := 2) (by decide +kernel)
def f_X4_now (N : Nat) (F : Nat → Nat → Int32) (G : Nat → Int64) (p1 : Int32) : Option (Int32 × (Nat → Nat → Int32)) :=
  if p1 = 0 then
    q_grd ((0 : Int32) + p1) 69 (
    some ((F 1 ((0 : Int32) + p1).toNatClampNeg), F))
  else
    if p1 = 1 then
      q_grd ((0 : Int32) + p1) 69 (
      some ((F 1 ((0 : Int32) + p1).toNatClampNeg), F))
    else
      if p1 = 2 then
        q_grd ((0 : Int32) + p1) 69 (
        some ((F 1 ((0 : Int32) + p1).toNatClampNeg), F))
      else
        if p1 = 3 then
          q_grd ((0 : Int32) + p1) 69 (
          some ((F 1 ((0 : Int32) + p1).toNatClampNeg), F))
        else
          if p1 = 4 then
            q_bd (f_X4_setOf N F G (3 : Int32)) (fun r_10 =>
            some (r_10, F))
          else
            if p1 = 5 then
              q_bd (f_X4_setOf N F G (6 : Int32)) (fun r_13 =>
              some (r_13, F))
            else
              if p1 = 6 then
                q_bd (f_X4_allWeighs N F G) (fun r_16 =>
                some (r_16, F))
              else
                q_bd2 (f_X4_finds N F G (-1000000001 : Int32)) (fun r_18 F_19 =>
                some (r_18, F_19))
set_option maxHeartbeats 4000000 in
set_option maxRecDepth 100000 in
theorem c_X4_now (l : Launch) (D : va_G) (y : Nat → ClassId) (t : Nat → Nat) (q : Nat → Nat) (sz N : Nat) (F : Nat → Nat → Int32) (G : Nat → Int64) (p1 : Int32) (res : Int32 × (Nat → Nat → Int32)) (h : f_X4_now N F G p1 = some res) : Met l yX4_now wsX4_now ({ frames := 3, cells := 0, slots := 0, locals := 66 } : Room) (pPre D y t [.ref (q 0), .int p1] (wM y q F G) sz) (pQi D y (res.1) (wM y q (res.2) G) (va_A (wM y q F G) sz)) 0 0 (va_A (wM y q F G) sz) := by
  refine q_start (Qc := (fun A => pQi D y (res.1) (wM y q (res.2) G) A)) (cc := cX4_now) (maxL := 2) (ret := (some .int)) (by decide) rfl (Nat.le_of_ble_eq_true rfl) ?_
  intro p e s m below meth c A ls hx hb hr hts hown hlocks hmn hml hP hK hZ hD hA hS hl
  have hl : lv_has ls 2 [(0, .ref (q 0)), (1, .int p1)] := hl
  have hown : s.vm.findClass RX4 = some m.cls := hown
  unfold f_X4_now at h
  refine lv_iload_n hx hb dX4_now_0 rfl (lv_at hl 1 rfl) ?_
  by_cases c_1 : p1 = 0
  · have h := q_t c_1 h
    refine lv_tableIn (tgt := 44) (off := 43) hx hb dX4_now_1 (by rw [c_1]; decide) (by rw [c_1]; decide) (by rw [c_1]; rfl) (by decide) ?_
    refine lv_aload_n hx hb dX4_now_44 rfl (lv_at hl 0 rfl) ?_
    refine va_get (D := D) (ci := 4) (v := .ref (q 1)) (C := RX4) (T := TX4) (N := 15) hx hb hts uX4_now_X4 hown hK hP 0 rfl rfl 0 (by decide) (hts _ kX4_now_1) (fun _ h9 => h9) rfl dX4_now_45 ?_
    refine lv_iconst (v := 0) hx hb dX4_now_48 (by decide) ?_
    refine lv_iload_n hx hb dX4_now_49 rfl (lv_at hl 1 rfl) ?_
    refine lv_iadd hx hb dX4_now_50 ?_
    obtain ⟨z_2, h⟩ := q_grd_ok h
    refine va_iald hx hb hK hP 1 0 rfl rfl z_2 dX4_now_51 ?_
    have e9 := Option.some.inj h
    exact q_iret hx hb hr hlocks hK hP hD hS dX4_now_52 (by first | rw [← e9] | rfl) (by first | rw [← e9] | rfl)
  · have h := q_f c_1 h
    by_cases c_3 : p1 = 1
    · have h := q_t c_3 h
      refine lv_tableIn (tgt := 44) (off := 43) hx hb dX4_now_1 (by rw [c_3]; decide) (by rw [c_3]; decide) (by rw [c_3]; rfl) (by decide) ?_
      refine lv_aload_n hx hb dX4_now_44 rfl (lv_at hl 0 rfl) ?_
      refine va_get (D := D) (ci := 4) (v := .ref (q 1)) (C := RX4) (T := TX4) (N := 15) hx hb hts uX4_now_X4 hown hK hP 0 rfl rfl 0 (by decide) (hts _ kX4_now_1) (fun _ h9 => h9) rfl dX4_now_45 ?_
      refine lv_iconst (v := 0) hx hb dX4_now_48 (by decide) ?_
      refine lv_iload_n hx hb dX4_now_49 rfl (lv_at hl 1 rfl) ?_
      refine lv_iadd hx hb dX4_now_50 ?_
      obtain ⟨z_4, h⟩ := q_grd_ok h
      refine va_iald hx hb hK hP 1 0 rfl rfl z_4 dX4_now_51 ?_
      have e9 := Option.some.inj h
      exact q_iret hx hb hr hlocks hK hP hD hS dX4_now_52 (by first | rw [← e9] | rfl) (by first | rw [← e9] | rfl)
    · have h := q_f c_3 h
      by_cases c_5 : p1 = 2
      · have h := q_t c_5 h
        refine lv_tableIn (tgt := 44) (off := 43) hx hb dX4_now_1 (by rw [c_5]; decide) (by rw [c_5]; decide) (by rw [c_5]; rfl) (by decide) ?_
        refine lv_aload_n hx hb dX4_now_44 rfl (lv_at hl 0 rfl) ?_
        refine va_get (D := D) (ci := 4) (v := .ref (q 1)) (C := RX4) (T := TX4) (N := 15) hx hb hts uX4_now_X4 hown hK hP 0 rfl rfl 0 (by decide) (hts _ kX4_now_1) (fun _ h9 => h9) rfl dX4_now_45 ?_
        refine lv_iconst (v := 0) hx hb dX4_now_48 (by decide) ?_
        refine lv_iload_n hx hb dX4_now_49 rfl (lv_at hl 1 rfl) ?_
        refine lv_iadd hx hb dX4_now_50 ?_
        obtain ⟨z_6, h⟩ := q_grd_ok h
        refine va_iald hx hb hK hP 1 0 rfl rfl z_6 dX4_now_51 ?_
        have e9 := Option.some.inj h
        exact q_iret hx hb hr hlocks hK hP hD hS dX4_now_52 (by first | rw [← e9] | rfl) (by first | rw [← e9] | rfl)
      · have h := q_f c_5 h
        by_cases c_7 : p1 = 3
        · have h := q_t c_7 h
          refine lv_tableIn (tgt := 44) (off := 43) hx hb dX4_now_1 (by rw [c_7]; decide) (by rw [c_7]; decide) (by rw [c_7]; rfl) (by decide) ?_
          refine lv_aload_n hx hb dX4_now_44 rfl (lv_at hl 0 rfl) ?_
          refine va_get (D := D) (ci := 4) (v := .ref (q 1)) (C := RX4) (T := TX4) (N := 15) hx hb hts uX4_now_X4 hown hK hP 0 rfl rfl 0 (by decide) (hts _ kX4_now_1) (fun _ h9 => h9) rfl dX4_now_45 ?_
          refine lv_iconst (v := 0) hx hb dX4_now_48 (by decide) ?_
          refine lv_iload_n hx hb dX4_now_49 rfl (lv_at hl 1 rfl) ?_
          refine lv_iadd hx hb dX4_now_50 ?_
          obtain ⟨z_8, h⟩ := q_grd_ok h
          refine va_iald hx hb hK hP 1 0 rfl rfl z_8 dX4_now_51 ?_
          have e9 := Option.some.inj h
          exact q_iret hx hb hr hlocks hK hP hD hS dX4_now_52 (by first | rw [← e9] | rfl) (by first | rw [← e9] | rfl)
        · have h := q_f c_7 h
          by_cases c_9 : p1 = 4
          · have h := q_t c_9 h
            refine lv_tableIn (tgt := 53) (off := 52) hx hb dX4_now_1 (by rw [c_9]; decide) (by rw [c_9]; decide) (by rw [c_9]; rfl) (by decide) ?_
            refine lv_aload_n hx hb dX4_now_53 rfl (lv_at hl 0 rfl) ?_
            refine lv_iconst (v := 3) hx hb dX4_now_54 (by decide) ?_
            obtain ⟨r_10, hc_11, h⟩ := q_bd_ok h
            refine q_ci (r := r_10) (va_runV (As := [.int (3 : Int32)]) (rest := []) ⟨hx, hb, hml, hown, hts⟩ (c_X4_setOf l D y t q _ N F G (3 : Int32) r_10 hc_11) (cwV 1 hts gX4_now_X4_setOf rfl rfl rfl eX4_setOf ⟨Nat.le_of_ble_eq_true rfl, Nat.le_of_ble_eq_true rfl⟩) ⟨q_blind, (va_recv hK hP (ci := 4) (q0 := 0) rfl rfl), (q_pre hP hK hZ hD hA hS [0, 1, 2, 3, 4, 5, 6, 7, 8] rfl (by decide))⟩ rfl rfl hl.1 rfl (lv_room (Nat.le_of_ble_eq_true rfl)) dX4_now_55 ⟨Nat.zero_le _, Nat.zero_le _⟩) hP hD hA hS [0, 1, 2, 3, 4, 5, 6, 7, 8] rfl (by decide) rfl (fun H locs hP hD hS => ?_)
            have hP : va_P D vwCl (wM y q F G) H := hP
            have hD : va_D A (wM y q F G) := hD
            have e9 := Option.some.inj h
            exact q_iret hx hb hr hlocks hK hP hD hS dX4_now_58 (by first | rw [← e9] | rfl) (by first | rw [← e9] | rfl)
          · have h := q_f c_9 h
            by_cases c_12 : p1 = 5
            · have h := q_t c_12 h
              refine lv_tableIn (tgt := 59) (off := 58) hx hb dX4_now_1 (by rw [c_12]; decide) (by rw [c_12]; decide) (by rw [c_12]; rfl) (by decide) ?_
              refine lv_aload_n hx hb dX4_now_59 rfl (lv_at hl 0 rfl) ?_
              refine lv_bipush (v := 6) hx hb dX4_now_60 (by decide) ?_
              obtain ⟨r_13, hc_14, h⟩ := q_bd_ok h
              refine q_ci (r := r_13) (va_runV (As := [.int (6 : Int32)]) (rest := []) ⟨hx, hb, hml, hown, hts⟩ (c_X4_setOf l D y t q _ N F G (6 : Int32) r_13 hc_14) (cwV 1 hts gX4_now_X4_setOf rfl rfl rfl eX4_setOf ⟨Nat.le_of_ble_eq_true rfl, Nat.le_of_ble_eq_true rfl⟩) ⟨q_blind, (va_recv hK hP (ci := 4) (q0 := 0) rfl rfl), (q_pre hP hK hZ hD hA hS [0, 1, 2, 3, 4, 5, 6, 7, 8] rfl (by decide))⟩ rfl rfl hl.1 rfl (lv_room (Nat.le_of_ble_eq_true rfl)) dX4_now_62 ⟨Nat.zero_le _, Nat.zero_le _⟩) hP hD hA hS [0, 1, 2, 3, 4, 5, 6, 7, 8] rfl (by decide) rfl (fun H locs hP hD hS => ?_)
              have hP : va_P D vwCl (wM y q F G) H := hP
              have hD : va_D A (wM y q F G) := hD
              have e9 := Option.some.inj h
              exact q_iret hx hb hr hlocks hK hP hD hS dX4_now_65 (by first | rw [← e9] | rfl) (by first | rw [← e9] | rfl)
            · have h := q_f c_12 h
              by_cases c_15 : p1 = 6
              · have h := q_t c_15 h
                refine lv_tableIn (tgt := 66) (off := 65) hx hb dX4_now_1 (by rw [c_15]; decide) (by rw [c_15]; decide) (by rw [c_15]; rfl) (by decide) ?_
                refine lv_aload_n hx hb dX4_now_66 rfl (lv_at hl 0 rfl) ?_
                obtain ⟨r_16, hc_17, h⟩ := q_bd_ok h
                refine q_ci (r := r_16) (va_runV (As := []) (rest := []) ⟨hx, hb, hml, hown, hts⟩ (c_X4_allWeighs l D y t q _ N F G r_16 hc_17) (cwV 0 hts gX4_now_X4_allWeighs rfl rfl rfl eX4_allWeighs ⟨Nat.le_of_ble_eq_true rfl, Nat.le_of_ble_eq_true rfl⟩) ⟨q_blind, (va_recv hK hP (ci := 4) (q0 := 0) rfl rfl), (q_pre hP hK hZ hD hA hS [0, 1, 2, 3, 4, 5, 6, 7, 8] rfl (by decide))⟩ rfl rfl hl.1 rfl (lv_room (Nat.le_of_ble_eq_true rfl)) dX4_now_67 ⟨Nat.zero_le _, Nat.zero_le _⟩) hP hD hA hS [0, 1, 2, 3, 4, 5, 6, 7, 8] rfl (by decide) rfl (fun H locs hP hD hS => ?_)
                have hP : va_P D vwCl (wM y q F G) H := hP
                have hD : va_D A (wM y q F G) := hD
                have e9 := Option.some.inj h
                exact q_iret hx hb hr hlocks hK hP hD hS dX4_now_70 (by first | rw [← e9] | rfl) (by first | rw [← e9] | rfl)
              · have h := q_f c_15 h
                have nc_1 := lv_neT c_1 (show ((0 : Int32)).toInt = 0 from by decide)
                have nc_3 := lv_neT c_3 (show ((1 : Int32)).toInt = 1 from by decide)
                have nc_5 := lv_neT c_5 (show ((2 : Int32)).toInt = 2 from by decide)
                have nc_7 := lv_neT c_7 (show ((3 : Int32)).toInt = 3 from by decide)
                have nc_9 := lv_neT c_9 (show ((4 : Int32)).toInt = 4 from by decide)
                have nc_12 := lv_neT c_12 (show ((5 : Int32)).toInt = 5 from by decide)
                have nc_15 := lv_neT c_15 (show ((6 : Int32)).toInt = 6 from by decide)
                refine lv_tableOut (tgt := 71) hx hb dX4_now_1 (by omega) (by decide) ?_
                refine lv_aload_n hx hb dX4_now_71 rfl (lv_at hl 0 rfl) ?_
                refine lv_ldc (v := -1000000001) hx hb hown (hts _ kX4_now_2) dX4_now_72 ?_
                obtain ⟨r_18, F_19, hc_20, h⟩ := q_bd2_ok h
                refine q_ci (r := r_18) (va_runV (As := [.int (-1000000001 : Int32)]) (rest := []) ⟨hx, hb, hml, hown, hts⟩ (c_X4_finds l D y t q _ N F G (-1000000001 : Int32) (r_18, F_19) hc_20) (cwV 1 hts gX4_now_X4_finds rfl rfl rfl eX4_finds ⟨Nat.le_of_ble_eq_true rfl, Nat.le_of_ble_eq_true rfl⟩) ⟨q_blind, (va_recv hK hP (ci := 4) (q0 := 0) rfl rfl), (q_pre hP hK hZ hD hA hS [0, 1, 2, 3, 4, 5, 6, 7, 8] rfl (by decide))⟩ rfl rfl hl.1 rfl (lv_room (Nat.le_of_ble_eq_true rfl)) dX4_now_74 ⟨Nat.zero_le _, Nat.zero_le _⟩) hP hD hA hS [0, 1, 2, 3, 4, 5, 6, 7, 8] rfl (by decide) rfl (fun H locs hP hD hS => ?_)
                have hP : va_P D vwCl (wM y q F_19 G) H := hP
                have hD : va_D A (wM y q F_19 G) := hD
                have e9 := Option.some.inj h
                exact q_iret hx hb hr hlocks hK hP hD hS dX4_now_77 (by first | rw [← e9] | rfl) (by first | rw [← e9] | rfl)
theorem eX4_now : yX4_now.cls = RX4 ∧ yX4_now.cls ≠ "java/lang/invoke/MethodHandle" ∧ yX4_now.cls ≠ "java/lang/invoke/VarHandle" ∧ (parseMethodDescriptor yX4_now.desc).map (fun d => d.parameters.length) = some 1 := by decide +kernel
theorem kX4_load_0 : Cond.constant RX4 35 (-1000000001) ∈ wsX4_load := List.mem_of_getElem? (i := 1) (by decide +kernel)
def f_X4_load_B41 (N : Nat) (F : Nat → Nat → Int32) (G : Nat → Int64) : Option (Int32 × (Nat → Nat → Int32)) :=
  q_bd2 (f_X4_finds N F G (-1000000001 : Int32)) (fun r_4 F_5 =>
  some (r_4, F_5))
def f_X4_load (N : Nat) (F : Nat → Nat → Int32) (G : Nat → Int64) (p1 : Int32) (p2 : Int32) : Option (Int32 × (Nat → Nat → Int32)) :=
  q_bd (f_X4_in N (p1.toInt64) (0 : Int32) (9 : Int32)) (fun r_1 =>
  if r_1 = 0 then
    f_X4_load_B41 N F G
  else
    q_bd (f_X4_in N (p2.toInt64) (0 : Int32) (1 : Int32)) (fun r_7 =>
    if r_7 = 0 then
      f_X4_load_B41 N F G
    else
      if p2 = 0 then
        q_bd (f_X4_bears N F G p1) (fun r_13 =>
        some (r_13, F))
      else
        q_bd (f_X4_loadAt N F G p1) (fun r_11 =>
        some (r_11, F))))
set_option maxHeartbeats 4000000 in
set_option maxRecDepth 100000 in
theorem c_X4_load (l : Launch) (D : va_G) (y : Nat → ClassId) (t : Nat → Nat) (q : Nat → Nat) (sz N : Nat) (F : Nat → Nat → Int32) (G : Nat → Int64) (p1 : Int32) (p2 : Int32) (res : Int32 × (Nat → Nat → Int32)) (h : f_X4_load N F G p1 p2 = some res) : Met l yX4_load wsX4_load ({ frames := 3, cells := 0, slots := 0, locals := 67 } : Room) (pPre D y t [.ref (q 0), .int p1, .int p2] (wM y q F G) sz) (pQi D y (res.1) (wM y q (res.2) G) (va_A (wM y q F G) sz)) 0 0 (va_A (wM y q F G) sz) := by
  refine q_start (Qc := (fun A => pQi D y (res.1) (wM y q (res.2) G) A)) (cc := cX4_load) (maxL := 3) (ret := (some .int)) (by decide) rfl (Nat.le_of_ble_eq_true rfl) ?_
  intro p e s m below meth c A ls hx hb hr hts hown hlocks hmn hml hP hK hZ hD hA hS hl
  have hl : lv_has ls 3 [(0, .ref (q 0)), (1, .int p1), (2, .int p2)] := hl
  have hown : s.vm.findClass RX4 = some m.cls := hown
  have B41 : ∀ (F : Nat → Nat → Int32) (G : Nat → Int64) (H : Heap) (locs : List Loc) (ls : Array Slot), va_P D vwCl (wM y q F G) H → va_D A (wM y q F G) → va_S A s.heap H locs → lv_has ls 3 [(0, .ref (q 0))] → f_X4_load_B41 N F G = some res → W p l e ({ frames := 3, cells := 0, slots := 0, locals := 67 } : Room) s m ([.ref (q 0), .int p1, .int p2] : List Value).toArray below meth c H locs 0 0 (MQ below (pQi D y (res.1) (wM y q (res.2) G) A) ([.ref (q 0), .int p1, .int p2] : List Value).toArray s 0 0 A) (F0 m 41 ls []) := by
    intro F G H locs ls hP hD hS hl h
    unfold f_X4_load_B41 at h
    refine lv_aload_n hx hb dX4_load_41 rfl (lv_at hl 0 rfl) ?_
    refine lv_ldc (v := -1000000001) hx hb hown (hts _ kX4_load_0) dX4_load_42 ?_
    obtain ⟨r_4, F_5, hc_6, h⟩ := q_bd2_ok h
    refine q_ci (r := r_4) (va_runV (As := [.int (-1000000001 : Int32)]) (rest := []) ⟨hx, hb, hml, hown, hts⟩ (c_X4_finds l D y t q _ N F G (-1000000001 : Int32) (r_4, F_5) hc_6) (cwV 1 hts gX4_load_X4_finds rfl rfl rfl eX4_finds ⟨Nat.le_of_ble_eq_true rfl, Nat.le_of_ble_eq_true rfl⟩) ⟨q_blind, (va_recv hK hP (ci := 4) (q0 := 0) rfl rfl), (q_pre hP hK hZ hD hA hS [0, 1, 2, 3, 4, 5, 6, 7, 8] rfl (by decide))⟩ rfl rfl hl.1 rfl (lv_room (Nat.le_of_ble_eq_true rfl)) dX4_load_44 ⟨Nat.zero_le _, Nat.zero_le _⟩) hP hD hA hS [0, 1, 2, 3, 4, 5, 6, 7, 8] rfl (by decide) rfl (fun H locs hP hD hS => ?_)
    have hP : va_P D vwCl (wM y q F_5 G) H := hP
    have hD : va_D A (wM y q F_5 G) := hD
    have e9 := Option.some.inj h
    exact q_iret hx hb hr hlocks hK hP hD hS dX4_load_47 (by first | rw [← e9] | rfl) (by first | rw [← e9] | rfl)
  unfold f_X4_load at h
  refine lv_iload_n hx hb dX4_load_0 rfl (lv_at hl 1 rfl) ?_
  refine lv_i2l hx hb dX4_load_1 rfl ?_
  refine lv_iconst (v := 0) hx hb dX4_load_2 (by decide) ?_
  refine lv_bipush (v := 9) hx hb dX4_load_3 (by decide) ?_
  obtain ⟨r_1, hc_2, h⟩ := q_bd_ok h
  refine q_ci (r := r_1) (va_runS (As := [.long (p1.toInt64), .int (0 : Int32), .int (9 : Int32)]) (rest := []) ⟨hx, hb, hml, hown, hts⟩ (c_X4_in l D y t q _ N (p1.toInt64) (0 : Int32) (9 : Int32) r_1 hc_2) (va_cwS 3 hts gX4_load_X4_in rfl rfl rfl eX4_in ⟨Nat.le_of_ble_eq_true rfl, Nat.le_of_ble_eq_true rfl⟩) ⟨q_blind, (q_pre hP hK hZ hD hA hS [] rfl (by decide))⟩ rfl rfl hl.1 rfl (lv_room (Nat.le_of_ble_eq_true rfl)) dX4_load_5 ⟨Nat.zero_le _, Nat.zero_le _⟩) hP hD hA hS [] rfl (by decide) rfl (fun H locs hP hD hS => ?_)
  have hP : va_P D vwCl (wM y q F G) H := hP
  have hD : va_D A (wM y q F G) := hD
  refine lv_if_eq (tgt := 41) hx hb dX4_load_8 (by decide) (fun c_3 => ?_) (fun c_3 => ?_)
  · have h := q_t c_3 h
    exact B41 F G _ _ _ hP hD hS (lv_sub hl [0] rfl) h
  · have h := q_f c_3 h
    refine lv_iload_n hx hb dX4_load_11 rfl (lv_at hl 2 rfl) ?_
    refine lv_i2l hx hb dX4_load_12 rfl ?_
    refine lv_iconst (v := 0) hx hb dX4_load_13 (by decide) ?_
    refine lv_iconst (v := 1) hx hb dX4_load_14 (by decide) ?_
    obtain ⟨r_7, hc_8, h⟩ := q_bd_ok h
    refine q_ci (r := r_7) (va_runS (As := [.long (p2.toInt64), .int (0 : Int32), .int (1 : Int32)]) (rest := []) ⟨hx, hb, hml, hown, hts⟩ (c_X4_in l D y t q _ N (p2.toInt64) (0 : Int32) (1 : Int32) r_7 hc_8) (va_cwS 3 hts gX4_load_X4_in rfl rfl rfl eX4_in ⟨Nat.le_of_ble_eq_true rfl, Nat.le_of_ble_eq_true rfl⟩) ⟨q_blind, (q_pre hP hK hZ hD hA hS [] rfl (by decide))⟩ rfl rfl hl.1 rfl (lv_room (Nat.le_of_ble_eq_true rfl)) dX4_load_15 ⟨Nat.zero_le _, Nat.zero_le _⟩) hP hD hA hS [] rfl (by decide) rfl (fun H locs hP hD hS => ?_)
    have hP : va_P D vwCl (wM y q F G) H := hP
    have hD : va_D A (wM y q F G) := hD
    refine lv_if_eq (tgt := 41) hx hb dX4_load_18 (by decide) (fun c_9 => ?_) (fun c_9 => ?_)
    · have h := q_t c_9 h
      exact B41 F G _ _ _ hP hD hS (lv_sub hl [0] rfl) h
    · have h := q_f c_9 h
      refine lv_iload_n hx hb dX4_load_21 rfl (lv_at hl 2 rfl) ?_
      refine lv_if_ne (tgt := 33) hx hb dX4_load_22 (by decide) (fun c_10 => ?_) (fun c_10 => ?_)
      · have h := q_f c_10 h
        refine lv_aload_n hx hb dX4_load_33 rfl (lv_at hl 0 rfl) ?_
        refine lv_iload_n hx hb dX4_load_34 rfl (lv_at hl 1 rfl) ?_
        obtain ⟨r_11, hc_12, h⟩ := q_bd_ok h
        refine q_ci (r := r_11) (va_runV (As := [.int p1]) (rest := []) ⟨hx, hb, hml, hown, hts⟩ (c_X4_loadAt l D y t q _ N F G p1 r_11 hc_12) (cwV 1 hts gX4_load_X4_loadAt rfl rfl rfl eX4_loadAt ⟨Nat.le_of_ble_eq_true rfl, Nat.le_of_ble_eq_true rfl⟩) ⟨q_blind, (va_recv hK hP (ci := 4) (q0 := 0) rfl rfl), (q_pre hP hK hZ hD hA hS [0, 1, 2, 3, 4, 5, 6, 7, 8] rfl (by decide))⟩ rfl rfl hl.1 rfl (lv_room (Nat.le_of_ble_eq_true rfl)) dX4_load_35 ⟨Nat.zero_le _, Nat.zero_le _⟩) hP hD hA hS [0, 1, 2, 3, 4, 5, 6, 7, 8] rfl (by decide) rfl (fun H locs hP hD hS => ?_)
        have hP : va_P D vwCl (wM y q F G) H := hP
        have hD : va_D A (wM y q F G) := hD
        refine lv_goto (tgt := 47) hx hb dX4_load_38 (by decide) ?_
        have e9 := Option.some.inj h
        exact q_iret hx hb hr hlocks hK hP hD hS dX4_load_47 (by first | rw [← e9] | rfl) (by first | rw [← e9] | rfl)
      · have h := q_t c_10 h
        refine lv_aload_n hx hb dX4_load_25 rfl (lv_at hl 0 rfl) ?_
        refine lv_iload_n hx hb dX4_load_26 rfl (lv_at hl 1 rfl) ?_
        obtain ⟨r_13, hc_14, h⟩ := q_bd_ok h
        refine q_ci (r := r_13) (va_runV (As := [.int p1]) (rest := []) ⟨hx, hb, hml, hown, hts⟩ (c_X4_bears l D y t q _ N F G p1 r_13 hc_14) (cwV 1 hts gX4_load_X4_bears rfl rfl rfl eX4_bears ⟨Nat.le_of_ble_eq_true rfl, Nat.le_of_ble_eq_true rfl⟩) ⟨q_blind, (va_recv hK hP (ci := 4) (q0 := 0) rfl rfl), (q_pre hP hK hZ hD hA hS [0, 1, 2, 3, 4, 5, 6, 7, 8] rfl (by decide))⟩ rfl rfl hl.1 rfl (lv_room (Nat.le_of_ble_eq_true rfl)) dX4_load_27 ⟨Nat.zero_le _, Nat.zero_le _⟩) hP hD hA hS [0, 1, 2, 3, 4, 5, 6, 7, 8] rfl (by decide) rfl (fun H locs hP hD hS => ?_)
        have hP : va_P D vwCl (wM y q F G) H := hP
        have hD : va_D A (wM y q F G) := hD
        refine lv_goto (tgt := 47) hx hb dX4_load_30 (by decide) ?_
        have e9 := Option.some.inj h
        exact q_iret hx hb hr hlocks hK hP hD hS dX4_load_47 (by first | rw [← e9] | rfl) (by first | rw [← e9] | rfl)
theorem eX4_load : yX4_load.cls = RX4 ∧ yX4_load.cls ≠ "java/lang/invoke/MethodHandle" ∧ yX4_load.cls ≠ "java/lang/invoke/VarHandle" ∧ (parseMethodDescriptor yX4_load.desc).map (fun d => d.parameters.length) = some 2 := by decide +kernel
theorem uX4_comesAs_X4 : ∀ w ∈ u_ws RX4 TX4 15, w ∈ wsX4_comesAs := by decide +kernel
theorem kX4_comesAs_1 : Cond.fieldLink RX4 9 "BeamSeatsModel" "m" "[I" ∈ wsX4_comesAs := List.mem_of_getElem? (i := 1) (by decide +kernel)
def f_X4_comesAs (N : Nat) (F : Nat → Nat → Int32) (G : Nat → Int64) (p1 : Int32) (p2 : Int32) (p3 : Int32) (p4 : Int32) (p5 : Int32) : Option (Int32 × (Nat → Nat → Int32)) :=
  q_grd (4 : Int32) 69 (
  q_let (F 1 (4 : Int32).toNatClampNeg) (fun x_2 =>
  q_grd (4 : Int32) 69 (
  q_grd (4 : Int32) 69 (
  q_let (q_up F 1 (4 : Int32).toNatClampNeg ((F 1 (4 : Int32).toNatClampNeg) + (1 : Int32))) (fun F_5 =>
  q_bd (f_X4_put N F_5 G x_2 (0 : Int32) p1) (fun F_6 =>
  q_bd (f_X4_put N F_6 G x_2 (1 : Int32) p2) (fun F_8 =>
  q_bd (f_X4_put N F_8 G x_2 (2 : Int32) p3) (fun F_10 =>
  q_bd (f_X4_put N F_10 G x_2 (3 : Int32) (0 : Int32)) (fun F_12 =>
  q_bd (f_X4_put N F_12 G x_2 (4 : Int32) p4) (fun F_14 =>
  q_bd (f_X4_put N F_14 G x_2 (5 : Int32) p5) (fun F_16 =>
  q_bd (f_X4_put N F_16 G x_2 (6 : Int32) (0 : Int32)) (fun F_18 =>
  q_bd (f_X4_put N F_18 G x_2 (7 : Int32) (0 : Int32)) (fun F_20 =>
  some (x_2, F_20))))))))))))))
set_option maxHeartbeats 4000000 in
set_option maxRecDepth 100000 in
theorem c_X4_comesAs (l : Launch) (D : va_G) (y : Nat → ClassId) (t : Nat → Nat) (q : Nat → Nat) (sz N : Nat) (F : Nat → Nat → Int32) (G : Nat → Int64) (p1 : Int32) (p2 : Int32) (p3 : Int32) (p4 : Int32) (p5 : Int32) (res : Int32 × (Nat → Nat → Int32)) (h : f_X4_comesAs N F G p1 p2 p3 p4 p5 = some res) : Met l yX4_comesAs wsX4_comesAs ({ frames := 1, cells := 0, slots := 0, locals := 23 } : Room) (pPre D y t [.ref (q 0), .int p1, .int p2, .int p3, .int p4, .int p5] (wM y q F G) sz) (pQi D y (res.1) (wM y q (res.2) G) (va_A (wM y q F G) sz)) 0 0 (va_A (wM y q F G) sz) := by
  refine q_start (Qc := (fun A => pQi D y (res.1) (wM y q (res.2) G) A)) (cc := cX4_comesAs) (maxL := 7) (ret := (some .int)) (by decide) rfl (Nat.le_of_ble_eq_true rfl) ?_
  intro p e s m below meth c A ls hx hb hr hts hown hlocks hmn hml hP hK hZ hD hA hS hl
  have hl : lv_has ls 7 [(0, .ref (q 0)), (1, .int p1), (2, .int p2), (3, .int p3), (4, .int p4), (5, .int p5)] := hl
  have hown : s.vm.findClass RX4 = some m.cls := hown
  unfold f_X4_comesAs at h
  refine lv_aload_n hx hb dX4_comesAs_0 rfl (lv_at hl 0 rfl) ?_
  refine va_get (D := D) (ci := 4) (v := .ref (q 1)) (C := RX4) (T := TX4) (N := 15) hx hb hts uX4_comesAs_X4 hown hK hP 0 rfl rfl 0 (by decide) (hts _ kX4_comesAs_1) (fun _ h9 => h9) rfl dX4_comesAs_1 ?_
  refine lv_iconst (v := 4) hx hb dX4_comesAs_4 (by decide) ?_
  obtain ⟨z_1, h⟩ := q_grd_ok h
  refine va_iald hx hb hK hP 1 0 rfl rfl z_1 dX4_comesAs_5 ?_
  refine lv_topi (fun x_2 ex_2 => ?_)
  have h := q_let_at ex_2 h
  refine lv_istore (lv' := [(6, .int x_2), (0, .ref (q 0)), (1, .int p1), (2, .int p2), (3, .int p3), (4, .int p4), (5, .int p5)]) hx hb dX4_comesAs_6 hl (by decide) rfl (fun ls hl => ?_)
  refine lv_aload_n hx hb dX4_comesAs_8 rfl (lv_at hl 1 rfl) ?_
  refine va_get (D := D) (ci := 4) (v := .ref (q 1)) (C := RX4) (T := TX4) (N := 15) hx hb hts uX4_comesAs_X4 hown hK hP 0 rfl rfl 0 (by decide) (hts _ kX4_comesAs_1) (fun _ h9 => h9) rfl dX4_comesAs_9 ?_
  refine lv_iconst (v := 4) hx hb dX4_comesAs_12 (by decide) ?_
  refine lv_dup2_11 hx hb dX4_comesAs_13 rfl rfl ?_
  obtain ⟨z_3, h⟩ := q_grd_ok h
  refine va_iald hx hb hK hP 1 0 rfl rfl z_3 dX4_comesAs_14 ?_
  refine lv_iconst (v := 1) hx hb dX4_comesAs_15 (by decide) ?_
  refine lv_iadd hx hb dX4_comesAs_16 ?_
  obtain ⟨z_4, h⟩ := q_grd_ok h
  obtain ⟨F_5, eF_5, h⟩ := q_let_ok h
  refine va_iast hx hb hK hP hD hS 1 0 rfl rfl z_4 dX4_comesAs_17 (fun H locs hP hD hS => ?_)
  have hP : va_P D vwCl (wM y q F_5 G) H := by rw [eF_5]; exact hP
  have hD : va_D A (wM y q F_5 G) := by rw [eF_5]; exact hD
  refine lv_aload_n hx hb dX4_comesAs_18 rfl (lv_at hl 1 rfl) ?_
  refine lv_iload hx hb dX4_comesAs_19 (lv_at hl 0 rfl) ?_
  refine lv_iconst (v := 0) hx hb dX4_comesAs_21 (by decide) ?_
  refine lv_iload_n hx hb dX4_comesAs_22 rfl (lv_at hl 2 rfl) ?_
  obtain ⟨F_6, hc_7, h⟩ := q_bd_ok h
  refine q_cv (va_runV (As := [.int x_2, .int (0 : Int32), .int p1]) (rest := []) ⟨hx, hb, hml, hown, hts⟩ (c_X4_put l D y t q _ N F_5 G x_2 (0 : Int32) p1 F_6 hc_7) (cwV 3 hts gX4_comesAs_X4_put rfl rfl rfl eX4_put ⟨Nat.le_of_ble_eq_true rfl, Nat.le_of_ble_eq_true rfl⟩) ⟨q_blind, (va_recv hK hP (ci := 4) (q0 := 0) rfl rfl), (q_pre hP hK hZ hD hA hS [0, 1, 2, 3, 4, 5, 6, 7, 8] rfl (by decide))⟩ rfl rfl hl.1 rfl (lv_room (Nat.le_of_ble_eq_true rfl)) dX4_comesAs_23 ⟨Nat.zero_le _, Nat.zero_le _⟩) hP hD hA hS [0, 1, 2, 3, 4, 5, 6, 7, 8] rfl (by decide) rfl (fun H locs hP hD hS => ?_)
  have hP : va_P D vwCl (wM y q F_6 G) H := hP
  have hD : va_D A (wM y q F_6 G) := hD
  refine lv_aload_n hx hb dX4_comesAs_26 rfl (lv_at hl 1 rfl) ?_
  refine lv_iload hx hb dX4_comesAs_27 (lv_at hl 0 rfl) ?_
  refine lv_iconst (v := 1) hx hb dX4_comesAs_29 (by decide) ?_
  refine lv_iload_n hx hb dX4_comesAs_30 rfl (lv_at hl 3 rfl) ?_
  obtain ⟨F_8, hc_9, h⟩ := q_bd_ok h
  refine q_cv (va_runV (As := [.int x_2, .int (1 : Int32), .int p2]) (rest := []) ⟨hx, hb, hml, hown, hts⟩ (c_X4_put l D y t q _ N F_6 G x_2 (1 : Int32) p2 F_8 hc_9) (cwV 3 hts gX4_comesAs_X4_put rfl rfl rfl eX4_put ⟨Nat.le_of_ble_eq_true rfl, Nat.le_of_ble_eq_true rfl⟩) ⟨q_blind, (va_recv hK hP (ci := 4) (q0 := 0) rfl rfl), (q_pre hP hK hZ hD hA hS [0, 1, 2, 3, 4, 5, 6, 7, 8] rfl (by decide))⟩ rfl rfl hl.1 rfl (lv_room (Nat.le_of_ble_eq_true rfl)) dX4_comesAs_31 ⟨Nat.zero_le _, Nat.zero_le _⟩) hP hD hA hS [0, 1, 2, 3, 4, 5, 6, 7, 8] rfl (by decide) rfl (fun H locs hP hD hS => ?_)
  have hP : va_P D vwCl (wM y q F_8 G) H := hP
  have hD : va_D A (wM y q F_8 G) := hD
  refine lv_aload_n hx hb dX4_comesAs_34 rfl (lv_at hl 1 rfl) ?_
  refine lv_iload hx hb dX4_comesAs_35 (lv_at hl 0 rfl) ?_
  refine lv_iconst (v := 2) hx hb dX4_comesAs_37 (by decide) ?_
  refine lv_iload_n hx hb dX4_comesAs_38 rfl (lv_at hl 4 rfl) ?_
  obtain ⟨F_10, hc_11, h⟩ := q_bd_ok h
  refine q_cv (va_runV (As := [.int x_2, .int (2 : Int32), .int p3]) (rest := []) ⟨hx, hb, hml, hown, hts⟩ (c_X4_put l D y t q _ N F_8 G x_2 (2 : Int32) p3 F_10 hc_11) (cwV 3 hts gX4_comesAs_X4_put rfl rfl rfl eX4_put ⟨Nat.le_of_ble_eq_true rfl, Nat.le_of_ble_eq_true rfl⟩) ⟨q_blind, (va_recv hK hP (ci := 4) (q0 := 0) rfl rfl), (q_pre hP hK hZ hD hA hS [0, 1, 2, 3, 4, 5, 6, 7, 8] rfl (by decide))⟩ rfl rfl hl.1 rfl (lv_room (Nat.le_of_ble_eq_true rfl)) dX4_comesAs_39 ⟨Nat.zero_le _, Nat.zero_le _⟩) hP hD hA hS [0, 1, 2, 3, 4, 5, 6, 7, 8] rfl (by decide) rfl (fun H locs hP hD hS => ?_)
  have hP : va_P D vwCl (wM y q F_10 G) H := hP
  have hD : va_D A (wM y q F_10 G) := hD
  refine lv_aload_n hx hb dX4_comesAs_42 rfl (lv_at hl 1 rfl) ?_
  refine lv_iload hx hb dX4_comesAs_43 (lv_at hl 0 rfl) ?_
  refine lv_iconst (v := 3) hx hb dX4_comesAs_45 (by decide) ?_
  refine lv_iconst (v := 0) hx hb dX4_comesAs_46 (by decide) ?_
  obtain ⟨F_12, hc_13, h⟩ := q_bd_ok h
  refine q_cv (va_runV (As := [.int x_2, .int (3 : Int32), .int (0 : Int32)]) (rest := []) ⟨hx, hb, hml, hown, hts⟩ (c_X4_put l D y t q _ N F_10 G x_2 (3 : Int32) (0 : Int32) F_12 hc_13) (cwV 3 hts gX4_comesAs_X4_put rfl rfl rfl eX4_put ⟨Nat.le_of_ble_eq_true rfl, Nat.le_of_ble_eq_true rfl⟩) ⟨q_blind, (va_recv hK hP (ci := 4) (q0 := 0) rfl rfl), (q_pre hP hK hZ hD hA hS [0, 1, 2, 3, 4, 5, 6, 7, 8] rfl (by decide))⟩ rfl rfl hl.1 rfl (lv_room (Nat.le_of_ble_eq_true rfl)) dX4_comesAs_47 ⟨Nat.zero_le _, Nat.zero_le _⟩) hP hD hA hS [0, 1, 2, 3, 4, 5, 6, 7, 8] rfl (by decide) rfl (fun H locs hP hD hS => ?_)
  have hP : va_P D vwCl (wM y q F_12 G) H := hP
  have hD : va_D A (wM y q F_12 G) := hD
  refine lv_aload_n hx hb dX4_comesAs_50 rfl (lv_at hl 1 rfl) ?_
  refine lv_iload hx hb dX4_comesAs_51 (lv_at hl 0 rfl) ?_
  refine lv_iconst (v := 4) hx hb dX4_comesAs_53 (by decide) ?_
  refine lv_iload hx hb dX4_comesAs_54 (lv_at hl 5 rfl) ?_
  obtain ⟨F_14, hc_15, h⟩ := q_bd_ok h
  refine q_cv (va_runV (As := [.int x_2, .int (4 : Int32), .int p4]) (rest := []) ⟨hx, hb, hml, hown, hts⟩ (c_X4_put l D y t q _ N F_12 G x_2 (4 : Int32) p4 F_14 hc_15) (cwV 3 hts gX4_comesAs_X4_put rfl rfl rfl eX4_put ⟨Nat.le_of_ble_eq_true rfl, Nat.le_of_ble_eq_true rfl⟩) ⟨q_blind, (va_recv hK hP (ci := 4) (q0 := 0) rfl rfl), (q_pre hP hK hZ hD hA hS [0, 1, 2, 3, 4, 5, 6, 7, 8] rfl (by decide))⟩ rfl rfl hl.1 rfl (lv_room (Nat.le_of_ble_eq_true rfl)) dX4_comesAs_56 ⟨Nat.zero_le _, Nat.zero_le _⟩) hP hD hA hS [0, 1, 2, 3, 4, 5, 6, 7, 8] rfl (by decide) rfl (fun H locs hP hD hS => ?_)
  have hP : va_P D vwCl (wM y q F_14 G) H := hP
  have hD : va_D A (wM y q F_14 G) := hD
  refine lv_aload_n hx hb dX4_comesAs_59 rfl (lv_at hl 1 rfl) ?_
  refine lv_iload hx hb dX4_comesAs_60 (lv_at hl 0 rfl) ?_
  refine lv_iconst (v := 5) hx hb dX4_comesAs_62 (by decide) ?_
  refine lv_iload hx hb dX4_comesAs_63 (lv_at hl 6 rfl) ?_
  obtain ⟨F_16, hc_17, h⟩ := q_bd_ok h
  refine q_cv (va_runV (As := [.int x_2, .int (5 : Int32), .int p5]) (rest := []) ⟨hx, hb, hml, hown, hts⟩ (c_X4_put l D y t q _ N F_14 G x_2 (5 : Int32) p5 F_16 hc_17) (cwV 3 hts gX4_comesAs_X4_put rfl rfl rfl eX4_put ⟨Nat.le_of_ble_eq_true rfl, Nat.le_of_ble_eq_true rfl⟩) ⟨q_blind, (va_recv hK hP (ci := 4) (q0 := 0) rfl rfl), (q_pre hP hK hZ hD hA hS [0, 1, 2, 3, 4, 5, 6, 7, 8] rfl (by decide))⟩ rfl rfl hl.1 rfl (lv_room (Nat.le_of_ble_eq_true rfl)) dX4_comesAs_65 ⟨Nat.zero_le _, Nat.zero_le _⟩) hP hD hA hS [0, 1, 2, 3, 4, 5, 6, 7, 8] rfl (by decide) rfl (fun H locs hP hD hS => ?_)
  have hP : va_P D vwCl (wM y q F_16 G) H := hP
  have hD : va_D A (wM y q F_16 G) := hD
  refine lv_aload_n hx hb dX4_comesAs_68 rfl (lv_at hl 1 rfl) ?_
  refine lv_iload hx hb dX4_comesAs_69 (lv_at hl 0 rfl) ?_
  refine lv_bipush (v := 6) hx hb dX4_comesAs_71 (by decide) ?_
  refine lv_iconst (v := 0) hx hb dX4_comesAs_73 (by decide) ?_
  obtain ⟨F_18, hc_19, h⟩ := q_bd_ok h
  refine q_cv (va_runV (As := [.int x_2, .int (6 : Int32), .int (0 : Int32)]) (rest := []) ⟨hx, hb, hml, hown, hts⟩ (c_X4_put l D y t q _ N F_16 G x_2 (6 : Int32) (0 : Int32) F_18 hc_19) (cwV 3 hts gX4_comesAs_X4_put rfl rfl rfl eX4_put ⟨Nat.le_of_ble_eq_true rfl, Nat.le_of_ble_eq_true rfl⟩) ⟨q_blind, (va_recv hK hP (ci := 4) (q0 := 0) rfl rfl), (q_pre hP hK hZ hD hA hS [0, 1, 2, 3, 4, 5, 6, 7, 8] rfl (by decide))⟩ rfl rfl hl.1 rfl (lv_room (Nat.le_of_ble_eq_true rfl)) dX4_comesAs_74 ⟨Nat.zero_le _, Nat.zero_le _⟩) hP hD hA hS [0, 1, 2, 3, 4, 5, 6, 7, 8] rfl (by decide) rfl (fun H locs hP hD hS => ?_)
  have hP : va_P D vwCl (wM y q F_18 G) H := hP
  have hD : va_D A (wM y q F_18 G) := hD
  refine lv_aload_n hx hb dX4_comesAs_77 rfl (lv_at hl 1 rfl) ?_
  refine lv_iload hx hb dX4_comesAs_78 (lv_at hl 0 rfl) ?_
  refine lv_bipush (v := 7) hx hb dX4_comesAs_80 (by decide) ?_
  refine lv_iconst (v := 0) hx hb dX4_comesAs_82 (by decide) ?_
  obtain ⟨F_20, hc_21, h⟩ := q_bd_ok h
  refine q_cv (va_runV (As := [.int x_2, .int (7 : Int32), .int (0 : Int32)]) (rest := []) ⟨hx, hb, hml, hown, hts⟩ (c_X4_put l D y t q _ N F_18 G x_2 (7 : Int32) (0 : Int32) F_20 hc_21) (cwV 3 hts gX4_comesAs_X4_put rfl rfl rfl eX4_put ⟨Nat.le_of_ble_eq_true rfl, Nat.le_of_ble_eq_true rfl⟩) ⟨q_blind, (va_recv hK hP (ci := 4) (q0 := 0) rfl rfl), (q_pre hP hK hZ hD hA hS [0, 1, 2, 3, 4, 5, 6, 7, 8] rfl (by decide))⟩ rfl rfl hl.1 rfl (lv_room (Nat.le_of_ble_eq_true rfl)) dX4_comesAs_83 ⟨Nat.zero_le _, Nat.zero_le _⟩) hP hD hA hS [0, 1, 2, 3, 4, 5, 6, 7, 8] rfl (by decide) rfl (fun H locs hP hD hS => ?_)
  have hP : va_P D vwCl (wM y q F_20 G) H := hP
  have hD : va_D A (wM y q F_20 G) := hD
  refine lv_iload hx hb dX4_comesAs_86 (lv_at hl 0 rfl) ?_
  have e9 := Option.some.inj h
  exact q_iret hx hb hr hlocks hK hP hD hS dX4_comesAs_88 (by first | rw [← e9] | rfl) (by first | rw [← e9] | rfl)
theorem eX4_comesAs : yX4_comesAs.cls = RX4 ∧ yX4_comesAs.cls ≠ "java/lang/invoke/MethodHandle" ∧ yX4_comesAs.cls ≠ "java/lang/invoke/VarHandle" ∧ (parseMethodDescriptor yX4_comesAs.desc).map (fun d => d.parameters.length) = some 5 := by decide +kernel
theorem kX4_thing_0 : Cond.constant RX4 35 (-1000000001) ∈ wsX4_thing := List.mem_of_getElem? (i := 1) (by decide +kernel)
theorem kX4_thing_1 : Cond.constant RX4 89 (-1000000002) ∈ wsX4_thing := List.mem_of_getElem? (i := 3) (by decide +kernel)
theorem uX4_thing_X4 : ∀ w ∈ u_ws RX4 TX4 15, w ∈ wsX4_thing := by decide +kernel
theorem kX4_thing_3 : Cond.fieldLink RX4 9 "BeamSeatsModel" "m" "[I" ∈ wsX4_thing := List.mem_of_getElem? (i := 2) (by decide +kernel)
def f_X4_thing_B17 (N : Nat) (F : Nat → Nat → Int32) (G : Nat → Int64) : Option (Int32 × (Nat → Nat → Int32)) :=
  q_bd2 (f_X4_finds N F G (-1000000001 : Int32)) (fun r_4 F_5 =>
  some (r_4, F_5))
def f_X4_thing (N : Nat) (F : Nat → Nat → Int32) (G : Nat → Int64) (p1 : Int32) (p2 : Int32) : Option (Int32 × (Nat → Nat → Int32)) :=
  q_bd (f_X4_in N (p1.toInt64) (0 : Int32) (5 : Int32)) (fun r_1 =>
  if r_1 = 0 then
    f_X4_thing_B17 N F G
  else
    q_bd (f_X4_isBearing N p2) (fun r_7 =>
    if r_7 = 0 then
      f_X4_thing_B17 N F G
    else
      q_grd (4 : Int32) 69 (
      if (F 1 (4 : Int32).toNatClampNeg) = (8 : Int32) then
        q_bd2 (f_X4_finds N F G (-1000000002 : Int32)) (fun r_15 F_16 =>
        some (r_15, F_16))
      else
        q_bd2 (f_X4_comesAs N F G p1 p2 (3 : Int32) (50 : Int32) (30 : Int32)) (fun r_12 F_13 =>
        some (r_12, F_13)))))
set_option maxHeartbeats 4000000 in
set_option maxRecDepth 100000 in
theorem c_X4_thing (l : Launch) (D : va_G) (y : Nat → ClassId) (t : Nat → Nat) (q : Nat → Nat) (sz N : Nat) (F : Nat → Nat → Int32) (G : Nat → Int64) (p1 : Int32) (p2 : Int32) (res : Int32 × (Nat → Nat → Int32)) (h : f_X4_thing N F G p1 p2 = some res) : Met l yX4_thing wsX4_thing ({ frames := 2, cells := 0, slots := 0, locals := 49 } : Room) (pPre D y t [.ref (q 0), .int p1, .int p2] (wM y q F G) sz) (pQi D y (res.1) (wM y q (res.2) G) (va_A (wM y q F G) sz)) 0 0 (va_A (wM y q F G) sz) := by
  refine q_start (Qc := (fun A => pQi D y (res.1) (wM y q (res.2) G) A)) (cc := cX4_thing) (maxL := 3) (ret := (some .int)) (by decide) rfl (Nat.le_of_ble_eq_true rfl) ?_
  intro p e s m below meth c A ls hx hb hr hts hown hlocks hmn hml hP hK hZ hD hA hS hl
  have hl : lv_has ls 3 [(0, .ref (q 0)), (1, .int p1), (2, .int p2)] := hl
  have hown : s.vm.findClass RX4 = some m.cls := hown
  have B17 : ∀ (F : Nat → Nat → Int32) (G : Nat → Int64) (H : Heap) (locs : List Loc) (ls : Array Slot), va_P D vwCl (wM y q F G) H → va_D A (wM y q F G) → va_S A s.heap H locs → lv_has ls 3 [(0, .ref (q 0))] → f_X4_thing_B17 N F G = some res → W p l e ({ frames := 2, cells := 0, slots := 0, locals := 49 } : Room) s m ([.ref (q 0), .int p1, .int p2] : List Value).toArray below meth c H locs 0 0 (MQ below (pQi D y (res.1) (wM y q (res.2) G) A) ([.ref (q 0), .int p1, .int p2] : List Value).toArray s 0 0 A) (F0 m 17 ls []) := by
    intro F G H locs ls hP hD hS hl h
    unfold f_X4_thing_B17 at h
    refine lv_aload_n hx hb dX4_thing_17 rfl (lv_at hl 0 rfl) ?_
    refine lv_ldc (v := -1000000001) hx hb hown (hts _ kX4_thing_0) dX4_thing_18 ?_
    obtain ⟨r_4, F_5, hc_6, h⟩ := q_bd2_ok h
    refine q_ci (r := r_4) (va_runV (As := [.int (-1000000001 : Int32)]) (rest := []) ⟨hx, hb, hml, hown, hts⟩ (c_X4_finds l D y t q _ N F G (-1000000001 : Int32) (r_4, F_5) hc_6) (cwV 1 hts gX4_thing_X4_finds rfl rfl rfl eX4_finds ⟨Nat.le_of_ble_eq_true rfl, Nat.le_of_ble_eq_true rfl⟩) ⟨q_blind, (va_recv hK hP (ci := 4) (q0 := 0) rfl rfl), (q_pre hP hK hZ hD hA hS [0, 1, 2, 3, 4, 5, 6, 7, 8] rfl (by decide))⟩ rfl rfl hl.1 rfl (lv_room (Nat.le_of_ble_eq_true rfl)) dX4_thing_20 ⟨Nat.zero_le _, Nat.zero_le _⟩) hP hD hA hS [0, 1, 2, 3, 4, 5, 6, 7, 8] rfl (by decide) rfl (fun H locs hP hD hS => ?_)
    have hP : va_P D vwCl (wM y q F_5 G) H := hP
    have hD : va_D A (wM y q F_5 G) := hD
    have e9 := Option.some.inj h
    exact q_iret hx hb hr hlocks hK hP hD hS dX4_thing_23 (by first | rw [← e9] | rfl) (by first | rw [← e9] | rfl)
  unfold f_X4_thing at h
  refine lv_iload_n hx hb dX4_thing_0 rfl (lv_at hl 1 rfl) ?_
  refine lv_i2l hx hb dX4_thing_1 rfl ?_
  refine lv_iconst (v := 0) hx hb dX4_thing_2 (by decide) ?_
  refine lv_iconst (v := 5) hx hb dX4_thing_3 (by decide) ?_
  obtain ⟨r_1, hc_2, h⟩ := q_bd_ok h
  refine q_ci (r := r_1) (va_runS (As := [.long (p1.toInt64), .int (0 : Int32), .int (5 : Int32)]) (rest := []) ⟨hx, hb, hml, hown, hts⟩ (c_X4_in l D y t q _ N (p1.toInt64) (0 : Int32) (5 : Int32) r_1 hc_2) (va_cwS 3 hts gX4_thing_X4_in rfl rfl rfl eX4_in ⟨Nat.le_of_ble_eq_true rfl, Nat.le_of_ble_eq_true rfl⟩) ⟨q_blind, (q_pre hP hK hZ hD hA hS [] rfl (by decide))⟩ rfl rfl hl.1 rfl (lv_room (Nat.le_of_ble_eq_true rfl)) dX4_thing_4 ⟨Nat.zero_le _, Nat.zero_le _⟩) hP hD hA hS [] rfl (by decide) rfl (fun H locs hP hD hS => ?_)
  have hP : va_P D vwCl (wM y q F G) H := hP
  have hD : va_D A (wM y q F G) := hD
  refine lv_if_eq (tgt := 17) hx hb dX4_thing_7 (by decide) (fun c_3 => ?_) (fun c_3 => ?_)
  · have h := q_t c_3 h
    exact B17 F G _ _ _ hP hD hS (lv_sub hl [0] rfl) h
  · have h := q_f c_3 h
    refine lv_iload_n hx hb dX4_thing_10 rfl (lv_at hl 2 rfl) ?_
    obtain ⟨r_7, hc_8, h⟩ := q_bd_ok h
    refine q_ci (r := r_7) (va_runS (As := [.int p2]) (rest := []) ⟨hx, hb, hml, hown, hts⟩ (c_X4_isBearing l D y t q _ N p2 r_7 hc_8) (va_cwS 1 hts gX4_thing_X4_isBearing rfl rfl rfl eX4_isBearing ⟨Nat.le_of_ble_eq_true rfl, Nat.le_of_ble_eq_true rfl⟩) ⟨q_blind, (q_pre hP hK hZ hD hA hS [] rfl (by decide))⟩ rfl rfl hl.1 rfl (lv_room (Nat.le_of_ble_eq_true rfl)) dX4_thing_11 ⟨Nat.zero_le _, Nat.zero_le _⟩) hP hD hA hS [] rfl (by decide) rfl (fun H locs hP hD hS => ?_)
    have hP : va_P D vwCl (wM y q F G) H := hP
    have hD : va_D A (wM y q F G) := hD
    refine lv_if_ne (tgt := 24) hx hb dX4_thing_14 (by decide) (fun c_9 => ?_) (fun c_9 => ?_)
    · have h := q_f c_9 h
      refine lv_aload_n hx hb dX4_thing_24 rfl (lv_at hl 0 rfl) ?_
      refine va_get (D := D) (ci := 4) (v := .ref (q 1)) (C := RX4) (T := TX4) (N := 15) hx hb hts uX4_thing_X4 hown hK hP 0 rfl rfl 0 (by decide) (hts _ kX4_thing_3) (fun _ h9 => h9) rfl dX4_thing_25 ?_
      refine lv_iconst (v := 4) hx hb dX4_thing_28 (by decide) ?_
      obtain ⟨z_10, h⟩ := q_grd_ok h
      refine va_iald hx hb hK hP 1 0 rfl rfl z_10 dX4_thing_29 ?_
      refine lv_bipush (v := 8) hx hb dX4_thing_30 (by decide) ?_
      refine lv_icmp_ne (tgt := 44) hx hb dX4_thing_32 (by decide) (fun c_11 => ?_) (fun c_11 => ?_)
      · have h := q_f c_11 h
        refine lv_aload_n hx hb dX4_thing_44 rfl (lv_at hl 0 rfl) ?_
        refine lv_iload_n hx hb dX4_thing_45 rfl (lv_at hl 1 rfl) ?_
        refine lv_iload_n hx hb dX4_thing_46 rfl (lv_at hl 2 rfl) ?_
        refine lv_iconst (v := 3) hx hb dX4_thing_47 (by decide) ?_
        refine lv_bipush (v := 50) hx hb dX4_thing_48 (by decide) ?_
        refine lv_bipush (v := 30) hx hb dX4_thing_50 (by decide) ?_
        obtain ⟨r_12, F_13, hc_14, h⟩ := q_bd2_ok h
        refine q_ci (r := r_12) (va_runV (As := [.int p1, .int p2, .int (3 : Int32), .int (50 : Int32), .int (30 : Int32)]) (rest := []) ⟨hx, hb, hml, hown, hts⟩ (c_X4_comesAs l D y t q _ N F G p1 p2 (3 : Int32) (50 : Int32) (30 : Int32) (r_12, F_13) hc_14) (cwV 5 hts gX4_thing_X4_comesAs rfl rfl rfl eX4_comesAs ⟨Nat.le_of_ble_eq_true rfl, Nat.le_of_ble_eq_true rfl⟩) ⟨q_blind, (va_recv hK hP (ci := 4) (q0 := 0) rfl rfl), (q_pre hP hK hZ hD hA hS [0, 1, 2, 3, 4, 5, 6, 7, 8] rfl (by decide))⟩ rfl rfl hl.1 rfl (lv_room (Nat.le_of_ble_eq_true rfl)) dX4_thing_52 ⟨Nat.zero_le _, Nat.zero_le _⟩) hP hD hA hS [0, 1, 2, 3, 4, 5, 6, 7, 8] rfl (by decide) rfl (fun H locs hP hD hS => ?_)
        have hP : va_P D vwCl (wM y q F_13 G) H := hP
        have hD : va_D A (wM y q F_13 G) := hD
        have e9 := Option.some.inj h
        exact q_iret hx hb hr hlocks hK hP hD hS dX4_thing_55 (by first | rw [← e9] | rfl) (by first | rw [← e9] | rfl)
      · have h := q_t c_11 h
        refine lv_aload_n hx hb dX4_thing_35 rfl (lv_at hl 0 rfl) ?_
        refine lv_ldc (v := -1000000002) hx hb hown (hts _ kX4_thing_1) dX4_thing_36 ?_
        obtain ⟨r_15, F_16, hc_17, h⟩ := q_bd2_ok h
        refine q_ci (r := r_15) (va_runV (As := [.int (-1000000002 : Int32)]) (rest := []) ⟨hx, hb, hml, hown, hts⟩ (c_X4_finds l D y t q _ N F G (-1000000002 : Int32) (r_15, F_16) hc_17) (cwV 1 hts gX4_thing_X4_finds rfl rfl rfl eX4_finds ⟨Nat.le_of_ble_eq_true rfl, Nat.le_of_ble_eq_true rfl⟩) ⟨q_blind, (va_recv hK hP (ci := 4) (q0 := 0) rfl rfl), (q_pre hP hK hZ hD hA hS [0, 1, 2, 3, 4, 5, 6, 7, 8] rfl (by decide))⟩ rfl rfl hl.1 rfl (lv_room (Nat.le_of_ble_eq_true rfl)) dX4_thing_38 ⟨Nat.zero_le _, Nat.zero_le _⟩) hP hD hA hS [0, 1, 2, 3, 4, 5, 6, 7, 8] rfl (by decide) rfl (fun H locs hP hD hS => ?_)
        have hP : va_P D vwCl (wM y q F_16 G) H := hP
        have hD : va_D A (wM y q F_16 G) := hD
        refine lv_goto (tgt := 55) hx hb dX4_thing_41 (by decide) ?_
        have e9 := Option.some.inj h
        exact q_iret hx hb hr hlocks hK hP hD hS dX4_thing_55 (by first | rw [← e9] | rfl) (by first | rw [← e9] | rfl)
    · have h := q_t c_9 h
      exact B17 F G _ _ _ hP hD hS (lv_sub hl [0] rfl) h
theorem eX4_thing : yX4_thing.cls = RX4 ∧ yX4_thing.cls ≠ "java/lang/invoke/MethodHandle" ∧ yX4_thing.cls ≠ "java/lang/invoke/VarHandle" ∧ (parseMethodDescriptor yX4_thing.desc).map (fun d => d.parameters.length) = some 2 := by decide +kernel
theorem kX4_of_0 : Cond.constant RX4 35 (-1000000001) ∈ wsX4_of := List.mem_of_getElem? (i := 1) (by decide +kernel)
def f_X4_of_B19 (N : Nat) (F : Nat → Nat → Int32) (G : Nat → Int64) : Option (Int32 × (Nat → Nat → Int32)) :=
  q_bd2 (f_X4_finds N F G (-1000000001 : Int32)) (fun r_4 F_5 =>
  some (r_4, F_5))
def f_X4_of (N : Nat) (F : Nat → Nat → Int32) (G : Nat → Int64) (p1 : Int32) (p2 : Int32) : Option (Int32 × (Nat → Nat → Int32)) :=
  q_bd (f_X4_isThing N F G p1) (fun r_1 =>
  if r_1 = 0 then
    f_X4_of_B19 N F G
  else
    q_bd (f_X4_in N (p2.toInt64) (0 : Int32) (9 : Int32)) (fun r_7 =>
    if r_7 = 0 then
      f_X4_of_B19 N F G
    else
      if (8 : Int32) ≤ p2 then
        if p2 = (8 : Int32) then
          q_bd (f_X4_weighs N F G p1) (fun r_14 =>
          some (r_14, F))
        else
          q_bd (f_X4_dries N F G p1) (fun r_12 =>
          some (r_12, F))
      else
        q_bd (f_X4_it N F G p1 p2) (fun r_16 =>
        some (r_16, F))))
set_option maxHeartbeats 4000000 in
set_option maxRecDepth 100000 in
theorem c_X4_of (l : Launch) (D : va_G) (y : Nat → ClassId) (t : Nat → Nat) (q : Nat → Nat) (sz N : Nat) (F : Nat → Nat → Int32) (G : Nat → Int64) (p1 : Int32) (p2 : Int32) (res : Int32 × (Nat → Nat → Int32)) (h : f_X4_of N F G p1 p2 = some res) : Met l yX4_of wsX4_of ({ frames := 2, cells := 0, slots := 0, locals := 44 } : Room) (pPre D y t [.ref (q 0), .int p1, .int p2] (wM y q F G) sz) (pQi D y (res.1) (wM y q (res.2) G) (va_A (wM y q F G) sz)) 0 0 (va_A (wM y q F G) sz) := by
  refine q_start (Qc := (fun A => pQi D y (res.1) (wM y q (res.2) G) A)) (cc := cX4_of) (maxL := 3) (ret := (some .int)) (by decide) rfl (Nat.le_of_ble_eq_true rfl) ?_
  intro p e s m below meth c A ls hx hb hr hts hown hlocks hmn hml hP hK hZ hD hA hS hl
  have hl : lv_has ls 3 [(0, .ref (q 0)), (1, .int p1), (2, .int p2)] := hl
  have hown : s.vm.findClass RX4 = some m.cls := hown
  have B19 : ∀ (F : Nat → Nat → Int32) (G : Nat → Int64) (H : Heap) (locs : List Loc) (ls : Array Slot), va_P D vwCl (wM y q F G) H → va_D A (wM y q F G) → va_S A s.heap H locs → lv_has ls 3 [(0, .ref (q 0))] → f_X4_of_B19 N F G = some res → W p l e ({ frames := 2, cells := 0, slots := 0, locals := 44 } : Room) s m ([.ref (q 0), .int p1, .int p2] : List Value).toArray below meth c H locs 0 0 (MQ below (pQi D y (res.1) (wM y q (res.2) G) A) ([.ref (q 0), .int p1, .int p2] : List Value).toArray s 0 0 A) (F0 m 19 ls []) := by
    intro F G H locs ls hP hD hS hl h
    unfold f_X4_of_B19 at h
    refine lv_aload_n hx hb dX4_of_19 rfl (lv_at hl 0 rfl) ?_
    refine lv_ldc (v := -1000000001) hx hb hown (hts _ kX4_of_0) dX4_of_20 ?_
    obtain ⟨r_4, F_5, hc_6, h⟩ := q_bd2_ok h
    refine q_ci (r := r_4) (va_runV (As := [.int (-1000000001 : Int32)]) (rest := []) ⟨hx, hb, hml, hown, hts⟩ (c_X4_finds l D y t q _ N F G (-1000000001 : Int32) (r_4, F_5) hc_6) (cwV 1 hts gX4_of_X4_finds rfl rfl rfl eX4_finds ⟨Nat.le_of_ble_eq_true rfl, Nat.le_of_ble_eq_true rfl⟩) ⟨q_blind, (va_recv hK hP (ci := 4) (q0 := 0) rfl rfl), (q_pre hP hK hZ hD hA hS [0, 1, 2, 3, 4, 5, 6, 7, 8] rfl (by decide))⟩ rfl rfl hl.1 rfl (lv_room (Nat.le_of_ble_eq_true rfl)) dX4_of_22 ⟨Nat.zero_le _, Nat.zero_le _⟩) hP hD hA hS [0, 1, 2, 3, 4, 5, 6, 7, 8] rfl (by decide) rfl (fun H locs hP hD hS => ?_)
    have hP : va_P D vwCl (wM y q F_5 G) H := hP
    have hD : va_D A (wM y q F_5 G) := hD
    have e9 := Option.some.inj h
    exact q_iret hx hb hr hlocks hK hP hD hS dX4_of_25 (by first | rw [← e9] | rfl) (by first | rw [← e9] | rfl)
  unfold f_X4_of at h
  refine lv_aload_n hx hb dX4_of_0 rfl (lv_at hl 0 rfl) ?_
  refine lv_iload_n hx hb dX4_of_1 rfl (lv_at hl 1 rfl) ?_
  obtain ⟨r_1, hc_2, h⟩ := q_bd_ok h
  refine q_ci (r := r_1) (va_runV (As := [.int p1]) (rest := []) ⟨hx, hb, hml, hown, hts⟩ (c_X4_isThing l D y t q _ N F G p1 r_1 hc_2) (cwV 1 hts gX4_of_X4_isThing rfl rfl rfl eX4_isThing ⟨Nat.le_of_ble_eq_true rfl, Nat.le_of_ble_eq_true rfl⟩) ⟨q_blind, (va_recv hK hP (ci := 4) (q0 := 0) rfl rfl), (q_pre hP hK hZ hD hA hS [0, 1, 2, 3, 4, 5, 6, 7, 8] rfl (by decide))⟩ rfl rfl hl.1 rfl (lv_room (Nat.le_of_ble_eq_true rfl)) dX4_of_2 ⟨Nat.zero_le _, Nat.zero_le _⟩) hP hD hA hS [0, 1, 2, 3, 4, 5, 6, 7, 8] rfl (by decide) rfl (fun H locs hP hD hS => ?_)
  have hP : va_P D vwCl (wM y q F G) H := hP
  have hD : va_D A (wM y q F G) := hD
  refine lv_if_eq (tgt := 19) hx hb dX4_of_5 (by decide) (fun c_3 => ?_) (fun c_3 => ?_)
  · have h := q_t c_3 h
    exact B19 F G _ _ _ hP hD hS (lv_sub hl [0] rfl) h
  · have h := q_f c_3 h
    refine lv_iload_n hx hb dX4_of_8 rfl (lv_at hl 2 rfl) ?_
    refine lv_i2l hx hb dX4_of_9 rfl ?_
    refine lv_iconst (v := 0) hx hb dX4_of_10 (by decide) ?_
    refine lv_bipush (v := 9) hx hb dX4_of_11 (by decide) ?_
    obtain ⟨r_7, hc_8, h⟩ := q_bd_ok h
    refine q_ci (r := r_7) (va_runS (As := [.long (p2.toInt64), .int (0 : Int32), .int (9 : Int32)]) (rest := []) ⟨hx, hb, hml, hown, hts⟩ (c_X4_in l D y t q _ N (p2.toInt64) (0 : Int32) (9 : Int32) r_7 hc_8) (va_cwS 3 hts gX4_of_X4_in rfl rfl rfl eX4_in ⟨Nat.le_of_ble_eq_true rfl, Nat.le_of_ble_eq_true rfl⟩) ⟨q_blind, (q_pre hP hK hZ hD hA hS [] rfl (by decide))⟩ rfl rfl hl.1 rfl (lv_room (Nat.le_of_ble_eq_true rfl)) dX4_of_13 ⟨Nat.zero_le _, Nat.zero_le _⟩) hP hD hA hS [] rfl (by decide) rfl (fun H locs hP hD hS => ?_)
    have hP : va_P D vwCl (wM y q F G) H := hP
    have hD : va_D A (wM y q F G) := hD
    refine lv_if_ne (tgt := 26) hx hb dX4_of_16 (by decide) (fun c_9 => ?_) (fun c_9 => ?_)
    · have h := q_f c_9 h
      refine lv_iload_n hx hb dX4_of_26 rfl (lv_at hl 2 rfl) ?_
      refine lv_bipush (v := 8) hx hb dX4_of_27 (by decide) ?_
      refine lv_icmp_ge (tgt := 41) hx hb dX4_of_29 (by decide) (fun c_10 => ?_) (fun c_10 => ?_)
      · have h := q_t c_10 h
        refine lv_iload_n hx hb dX4_of_41 rfl (lv_at hl 2 rfl) ?_
        refine lv_bipush (v := 8) hx hb dX4_of_42 (by decide) ?_
        refine lv_icmp_ne (tgt := 55) hx hb dX4_of_44 (by decide) (fun c_11 => ?_) (fun c_11 => ?_)
        · have h := q_f c_11 h
          refine lv_aload_n hx hb dX4_of_55 rfl (lv_at hl 0 rfl) ?_
          refine lv_iload_n hx hb dX4_of_56 rfl (lv_at hl 1 rfl) ?_
          obtain ⟨r_12, hc_13, h⟩ := q_bd_ok h
          refine q_ci (r := r_12) (va_runV (As := [.int p1]) (rest := []) ⟨hx, hb, hml, hown, hts⟩ (c_X4_dries l D y t q _ N F G p1 r_12 hc_13) (cwV 1 hts gX4_of_X4_dries rfl rfl rfl eX4_dries ⟨Nat.le_of_ble_eq_true rfl, Nat.le_of_ble_eq_true rfl⟩) ⟨q_blind, (va_recv hK hP (ci := 4) (q0 := 0) rfl rfl), (q_pre hP hK hZ hD hA hS [0, 1, 2, 3, 4, 5, 6, 7, 8] rfl (by decide))⟩ rfl rfl hl.1 rfl (lv_room (Nat.le_of_ble_eq_true rfl)) dX4_of_57 ⟨Nat.zero_le _, Nat.zero_le _⟩) hP hD hA hS [0, 1, 2, 3, 4, 5, 6, 7, 8] rfl (by decide) rfl (fun H locs hP hD hS => ?_)
          have hP : va_P D vwCl (wM y q F G) H := hP
          have hD : va_D A (wM y q F G) := hD
          have e9 := Option.some.inj h
          exact q_iret hx hb hr hlocks hK hP hD hS dX4_of_60 (by first | rw [← e9] | rfl) (by first | rw [← e9] | rfl)
        · have h := q_t c_11 h
          refine lv_aload_n hx hb dX4_of_47 rfl (lv_at hl 0 rfl) ?_
          refine lv_iload_n hx hb dX4_of_48 rfl (lv_at hl 1 rfl) ?_
          obtain ⟨r_14, hc_15, h⟩ := q_bd_ok h
          refine q_ci (r := r_14) (va_runV (As := [.int p1]) (rest := []) ⟨hx, hb, hml, hown, hts⟩ (c_X4_weighs l D y t q _ N F G p1 r_14 hc_15) (cwV 1 hts gX4_of_X4_weighs rfl rfl rfl eX4_weighs ⟨Nat.le_of_ble_eq_true rfl, Nat.le_of_ble_eq_true rfl⟩) ⟨q_blind, (va_recv hK hP (ci := 4) (q0 := 0) rfl rfl), (q_pre hP hK hZ hD hA hS [0, 1, 2, 3, 4, 5, 6, 7, 8] rfl (by decide))⟩ rfl rfl hl.1 rfl (lv_room (Nat.le_of_ble_eq_true rfl)) dX4_of_49 ⟨Nat.zero_le _, Nat.zero_le _⟩) hP hD hA hS [0, 1, 2, 3, 4, 5, 6, 7, 8] rfl (by decide) rfl (fun H locs hP hD hS => ?_)
          have hP : va_P D vwCl (wM y q F G) H := hP
          have hD : va_D A (wM y q F G) := hD
          refine lv_goto (tgt := 60) hx hb dX4_of_52 (by decide) ?_
          have e9 := Option.some.inj h
          exact q_iret hx hb hr hlocks hK hP hD hS dX4_of_60 (by first | rw [← e9] | rfl) (by first | rw [← e9] | rfl)
      · have h := q_f c_10 h
        refine lv_aload_n hx hb dX4_of_32 rfl (lv_at hl 0 rfl) ?_
        refine lv_iload_n hx hb dX4_of_33 rfl (lv_at hl 1 rfl) ?_
        refine lv_iload_n hx hb dX4_of_34 rfl (lv_at hl 2 rfl) ?_
        obtain ⟨r_16, hc_17, h⟩ := q_bd_ok h
        refine q_ci (r := r_16) (va_runV (As := [.int p1, .int p2]) (rest := []) ⟨hx, hb, hml, hown, hts⟩ (c_X4_it l D y t q _ N F G p1 p2 r_16 hc_17) (cwV 2 hts gX4_of_X4_it rfl rfl rfl eX4_it ⟨Nat.le_of_ble_eq_true rfl, Nat.le_of_ble_eq_true rfl⟩) ⟨q_blind, (va_recv hK hP (ci := 4) (q0 := 0) rfl rfl), (q_pre hP hK hZ hD hA hS [0, 1, 2, 3, 4, 5, 6, 7, 8] rfl (by decide))⟩ rfl rfl hl.1 rfl (lv_room (Nat.le_of_ble_eq_true rfl)) dX4_of_35 ⟨Nat.zero_le _, Nat.zero_le _⟩) hP hD hA hS [0, 1, 2, 3, 4, 5, 6, 7, 8] rfl (by decide) rfl (fun H locs hP hD hS => ?_)
        have hP : va_P D vwCl (wM y q F G) H := hP
        have hD : va_D A (wM y q F G) := hD
        refine lv_goto (tgt := 60) hx hb dX4_of_38 (by decide) ?_
        have e9 := Option.some.inj h
        exact q_iret hx hb hr hlocks hK hP hD hS dX4_of_60 (by first | rw [← e9] | rfl) (by first | rw [← e9] | rfl)
    · have h := q_t c_9 h
      exact B19 F G _ _ _ hP hD hS (lv_sub hl [0] rfl) h
theorem eX4_of : yX4_of.cls = RX4 ∧ yX4_of.cls ≠ "java/lang/invoke/MethodHandle" ∧ yX4_of.cls ≠ "java/lang/invoke/VarHandle" ∧ (parseMethodDescriptor yX4_of.desc).map (fun d => d.parameters.length) = some 2 := by decide +kernel
def f_X4_mostOf (N : Nat) (p1 : Int32) : Option (Int32) :=
  if p1 = 2 then
    some (9 : Int32)
  else
    if p1 = 3 then
      some (-1 : Int32)
    else
      if p1 = 4 then
        some (99 : Int32)
      else
        if p1 = 5 then
          some (59 : Int32)
        else
          if p1 = 6 then
            some (-1 : Int32)
          else
            if p1 = 7 then
              some (9999 : Int32)
            else
              some (-1 : Int32)
set_option maxHeartbeats 4000000 in
set_option maxRecDepth 100000 in
theorem c_X4_mostOf (l : Launch) (D : va_G) (y : Nat → ClassId) (t : Nat → Nat) (q : Nat → Nat) (sz N : Nat) (p1 : Int32) (res : Int32) (h : f_X4_mostOf N p1 = some res) : Met l yX4_mostOf wsX4_mostOf ({ frames := 0, cells := 0, slots := 0, locals := 0 } : Room) (pPre D y t [.int p1] (([] : va_W)) sz) (pQi D y res (([] : va_W)) (va_A (([] : va_W)) sz)) 0 0 (va_A (([] : va_W)) sz) := by
  refine q_start (Qc := (fun A => pQi D y res (([] : va_W)) A)) (cc := cX4_mostOf) (maxL := 1) (ret := (some .int)) (by decide) rfl (Nat.le_of_ble_eq_true rfl) ?_
  intro p e s m below meth c A ls hx hb hr hts hown hlocks hmn hml hP hK hZ hD hA hS hl
  have hl : lv_has ls 1 [(0, .int p1)] := hl
  have hown : s.vm.findClass RX4 = some m.cls := hown
  unfold f_X4_mostOf at h
  refine lv_iload_n hx hb dX4_mostOf_0 rfl (lv_at hl 0 rfl) ?_
  by_cases c_1 : p1 = 2
  · have h := q_t c_1 h
    refine lv_tableIn (tgt := 40) (off := 39) hx hb dX4_mostOf_1 (by rw [c_1]; decide) (by rw [c_1]; decide) (by rw [c_1]; rfl) (by decide) ?_
    refine lv_bipush (v := 9) hx hb dX4_mostOf_40 (by decide) ?_
    have e9 := Option.some.inj h
    exact q_iret hx hb hr hlocks hK hP hD hS dX4_mostOf_42 (by first | rw [← e9] | rfl) (by first | rw [← e9] | rfl)
  · have h := q_f c_1 h
    by_cases c_2 : p1 = 3
    · have h := q_t c_2 h
      refine lv_tableIn (tgt := 53) (off := 52) hx hb dX4_mostOf_1 (by rw [c_2]; decide) (by rw [c_2]; decide) (by rw [c_2]; rfl) (by decide) ?_
      refine lv_iconst (v := -1) hx hb dX4_mostOf_53 (by decide) ?_
      have e9 := Option.some.inj h
      exact q_iret hx hb hr hlocks hK hP hD hS dX4_mostOf_54 (by first | rw [← e9] | rfl) (by first | rw [← e9] | rfl)
    · have h := q_f c_2 h
      by_cases c_3 : p1 = 4
      · have h := q_t c_3 h
        refine lv_tableIn (tgt := 43) (off := 42) hx hb dX4_mostOf_1 (by rw [c_3]; decide) (by rw [c_3]; decide) (by rw [c_3]; rfl) (by decide) ?_
        refine lv_bipush (v := 99) hx hb dX4_mostOf_43 (by decide) ?_
        have e9 := Option.some.inj h
        exact q_iret hx hb hr hlocks hK hP hD hS dX4_mostOf_45 (by first | rw [← e9] | rfl) (by first | rw [← e9] | rfl)
      · have h := q_f c_3 h
        by_cases c_4 : p1 = 5
        · have h := q_t c_4 h
          refine lv_tableIn (tgt := 46) (off := 45) hx hb dX4_mostOf_1 (by rw [c_4]; decide) (by rw [c_4]; decide) (by rw [c_4]; rfl) (by decide) ?_
          refine lv_bipush (v := 59) hx hb dX4_mostOf_46 (by decide) ?_
          have e9 := Option.some.inj h
          exact q_iret hx hb hr hlocks hK hP hD hS dX4_mostOf_48 (by first | rw [← e9] | rfl) (by first | rw [← e9] | rfl)
        · have h := q_f c_4 h
          by_cases c_5 : p1 = 6
          · have h := q_t c_5 h
            refine lv_tableIn (tgt := 53) (off := 52) hx hb dX4_mostOf_1 (by rw [c_5]; decide) (by rw [c_5]; decide) (by rw [c_5]; rfl) (by decide) ?_
            refine lv_iconst (v := -1) hx hb dX4_mostOf_53 (by decide) ?_
            have e9 := Option.some.inj h
            exact q_iret hx hb hr hlocks hK hP hD hS dX4_mostOf_54 (by first | rw [← e9] | rfl) (by first | rw [← e9] | rfl)
          · have h := q_f c_5 h
            by_cases c_6 : p1 = 7
            · have h := q_t c_6 h
              refine lv_tableIn (tgt := 49) (off := 48) hx hb dX4_mostOf_1 (by rw [c_6]; decide) (by rw [c_6]; decide) (by rw [c_6]; rfl) (by decide) ?_
              refine lv_sipush (v := 9999) hx hb dX4_mostOf_49 (by decide) ?_
              have e9 := Option.some.inj h
              exact q_iret hx hb hr hlocks hK hP hD hS dX4_mostOf_52 (by first | rw [← e9] | rfl) (by first | rw [← e9] | rfl)
            · have h := q_f c_6 h
              have nc_1 := lv_neT c_1 (show ((2 : Int32)).toInt = 2 from by decide)
              have nc_2 := lv_neT c_2 (show ((3 : Int32)).toInt = 3 from by decide)
              have nc_3 := lv_neT c_3 (show ((4 : Int32)).toInt = 4 from by decide)
              have nc_4 := lv_neT c_4 (show ((5 : Int32)).toInt = 5 from by decide)
              have nc_5 := lv_neT c_5 (show ((6 : Int32)).toInt = 6 from by decide)
              have nc_6 := lv_neT c_6 (show ((7 : Int32)).toInt = 7 from by decide)
              refine lv_tableOut (tgt := 53) hx hb dX4_mostOf_1 (by omega) (by decide) ?_
              refine lv_iconst (v := -1) hx hb dX4_mostOf_53 (by decide) ?_
              have e9 := Option.some.inj h
              exact q_iret hx hb hr hlocks hK hP hD hS dX4_mostOf_54 (by first | rw [← e9] | rfl) (by first | rw [← e9] | rfl)
theorem eX4_mostOf : yX4_mostOf.cls ≠ "java/lang/invoke/MethodHandle" ∧ yX4_mostOf.cls ≠ "java/lang/invoke/VarHandle" ∧ (parseMethodDescriptor yX4_mostOf.desc).map (fun d => d.parameters.length) = some 1 := by decide +kernel
theorem kX4_set_0 : Cond.constant RX4 35 (-1000000001) ∈ wsX4_set := List.mem_of_getElem? (i := 1) (by decide +kernel)
def f_X4_set_B37 (N : Nat) (F : Nat → Nat → Int32) (G : Nat → Int64) : Option (Int32 × (Nat → Nat → Int32)) :=
  q_bd2 (f_X4_finds N F G (-1000000001 : Int32)) (fun r_4 F_5 =>
  some (r_4, F_5))
def f_X4_set (N : Nat) (F : Nat → Nat → Int32) (G : Nat → Int64) (p1 : Int32) (p2 : Int32) (p3 : Int32) : Option (Int32 × (Nat → Nat → Int32)) :=
  q_bd (f_X4_isThing N F G p1) (fun r_1 =>
  if r_1 = 0 then
    f_X4_set_B37 N F G
  else
    q_bd (f_X4_mostOf N p2) (fun r_7 =>
    q_bd (f_X4_in N (p3.toInt64) (0 : Int32) r_7) (fun r_9 =>
    if r_9 = 0 then
      f_X4_set_B37 N F G
    else
      q_bd2 (f_X4_becomes N F G (((5 : Int32) + ((8 : Int32) * p1)) + p2) p3) (fun r_12 F_13 =>
      some (r_12, F_13)))))
set_option maxHeartbeats 4000000 in
set_option maxRecDepth 100000 in
theorem c_X4_set (l : Launch) (D : va_G) (y : Nat → ClassId) (t : Nat → Nat) (q : Nat → Nat) (sz N : Nat) (F : Nat → Nat → Int32) (G : Nat → Int64) (p1 : Int32) (p2 : Int32) (p3 : Int32) (res : Int32 × (Nat → Nat → Int32)) (h : f_X4_set N F G p1 p2 p3 = some res) : Met l yX4_set wsX4_set ({ frames := 2, cells := 0, slots := 0, locals := 44 } : Room) (pPre D y t [.ref (q 0), .int p1, .int p2, .int p3] (wM y q F G) sz) (pQi D y (res.1) (wM y q (res.2) G) (va_A (wM y q F G) sz)) 0 0 (va_A (wM y q F G) sz) := by
  refine q_start (Qc := (fun A => pQi D y (res.1) (wM y q (res.2) G) A)) (cc := cX4_set) (maxL := 4) (ret := (some .int)) (by decide) rfl (Nat.le_of_ble_eq_true rfl) ?_
  intro p e s m below meth c A ls hx hb hr hts hown hlocks hmn hml hP hK hZ hD hA hS hl
  have hl : lv_has ls 4 [(0, .ref (q 0)), (1, .int p1), (2, .int p2), (3, .int p3)] := hl
  have hown : s.vm.findClass RX4 = some m.cls := hown
  have B37 : ∀ (F : Nat → Nat → Int32) (G : Nat → Int64) (H : Heap) (locs : List Loc) (ls : Array Slot), va_P D vwCl (wM y q F G) H → va_D A (wM y q F G) → va_S A s.heap H locs → lv_has ls 4 [(0, .ref (q 0))] → f_X4_set_B37 N F G = some res → W p l e ({ frames := 2, cells := 0, slots := 0, locals := 44 } : Room) s m ([.ref (q 0), .int p1, .int p2, .int p3] : List Value).toArray below meth c H locs 0 0 (MQ below (pQi D y (res.1) (wM y q (res.2) G) A) ([.ref (q 0), .int p1, .int p2, .int p3] : List Value).toArray s 0 0 A) (F0 m 37 ls []) := by
    intro F G H locs ls hP hD hS hl h
    unfold f_X4_set_B37 at h
    refine lv_aload_n hx hb dX4_set_37 rfl (lv_at hl 0 rfl) ?_
    refine lv_ldc (v := -1000000001) hx hb hown (hts _ kX4_set_0) dX4_set_38 ?_
    obtain ⟨r_4, F_5, hc_6, h⟩ := q_bd2_ok h
    refine q_ci (r := r_4) (va_runV (As := [.int (-1000000001 : Int32)]) (rest := []) ⟨hx, hb, hml, hown, hts⟩ (c_X4_finds l D y t q _ N F G (-1000000001 : Int32) (r_4, F_5) hc_6) (cwV 1 hts gX4_set_X4_finds rfl rfl rfl eX4_finds ⟨Nat.le_of_ble_eq_true rfl, Nat.le_of_ble_eq_true rfl⟩) ⟨q_blind, (va_recv hK hP (ci := 4) (q0 := 0) rfl rfl), (q_pre hP hK hZ hD hA hS [0, 1, 2, 3, 4, 5, 6, 7, 8] rfl (by decide))⟩ rfl rfl hl.1 rfl (lv_room (Nat.le_of_ble_eq_true rfl)) dX4_set_40 ⟨Nat.zero_le _, Nat.zero_le _⟩) hP hD hA hS [0, 1, 2, 3, 4, 5, 6, 7, 8] rfl (by decide) rfl (fun H locs hP hD hS => ?_)
    have hP : va_P D vwCl (wM y q F_5 G) H := hP
    have hD : va_D A (wM y q F_5 G) := hD
    have e9 := Option.some.inj h
    exact q_iret hx hb hr hlocks hK hP hD hS dX4_set_43 (by first | rw [← e9] | rfl) (by first | rw [← e9] | rfl)
  unfold f_X4_set at h
  refine lv_aload_n hx hb dX4_set_0 rfl (lv_at hl 0 rfl) ?_
  refine lv_iload_n hx hb dX4_set_1 rfl (lv_at hl 1 rfl) ?_
  obtain ⟨r_1, hc_2, h⟩ := q_bd_ok h
  refine q_ci (r := r_1) (va_runV (As := [.int p1]) (rest := []) ⟨hx, hb, hml, hown, hts⟩ (c_X4_isThing l D y t q _ N F G p1 r_1 hc_2) (cwV 1 hts gX4_set_X4_isThing rfl rfl rfl eX4_isThing ⟨Nat.le_of_ble_eq_true rfl, Nat.le_of_ble_eq_true rfl⟩) ⟨q_blind, (va_recv hK hP (ci := 4) (q0 := 0) rfl rfl), (q_pre hP hK hZ hD hA hS [0, 1, 2, 3, 4, 5, 6, 7, 8] rfl (by decide))⟩ rfl rfl hl.1 rfl (lv_room (Nat.le_of_ble_eq_true rfl)) dX4_set_2 ⟨Nat.zero_le _, Nat.zero_le _⟩) hP hD hA hS [0, 1, 2, 3, 4, 5, 6, 7, 8] rfl (by decide) rfl (fun H locs hP hD hS => ?_)
  have hP : va_P D vwCl (wM y q F G) H := hP
  have hD : va_D A (wM y q F G) := hD
  refine lv_if_eq (tgt := 37) hx hb dX4_set_5 (by decide) (fun c_3 => ?_) (fun c_3 => ?_)
  · have h := q_t c_3 h
    exact B37 F G _ _ _ hP hD hS (lv_sub hl [0] rfl) h
  · have h := q_f c_3 h
    refine lv_iload_n hx hb dX4_set_8 rfl (lv_at hl 3 rfl) ?_
    refine lv_i2l hx hb dX4_set_9 rfl ?_
    refine lv_iconst (v := 0) hx hb dX4_set_10 (by decide) ?_
    refine lv_iload_n hx hb dX4_set_11 rfl (lv_at hl 2 rfl) ?_
    obtain ⟨r_7, hc_8, h⟩ := q_bd_ok h
    refine q_ci (r := r_7) (va_runS (As := [.int p2]) (rest := [.int (0 : Int32), .long (p3.toInt64)]) ⟨hx, hb, hml, hown, hts⟩ (c_X4_mostOf l D y t q _ N p2 r_7 hc_8) (va_cwS 1 hts gX4_set_X4_mostOf rfl rfl rfl eX4_mostOf ⟨Nat.le_of_ble_eq_true rfl, Nat.le_of_ble_eq_true rfl⟩) ⟨q_blind, (q_pre hP hK hZ hD hA hS [] rfl (by decide))⟩ rfl rfl hl.1 rfl (lv_room (Nat.le_of_ble_eq_true rfl)) dX4_set_12 ⟨Nat.zero_le _, Nat.zero_le _⟩) hP hD hA hS [] rfl (by decide) rfl (fun H locs hP hD hS => ?_)
    have hP : va_P D vwCl (wM y q F G) H := hP
    have hD : va_D A (wM y q F G) := hD
    obtain ⟨r_9, hc_10, h⟩ := q_bd_ok h
    refine q_ci (r := r_9) (va_runS (As := [.long (p3.toInt64), .int (0 : Int32), .int r_7]) (rest := []) ⟨hx, hb, hml, hown, hts⟩ (c_X4_in l D y t q _ N (p3.toInt64) (0 : Int32) r_7 r_9 hc_10) (va_cwS 3 hts gX4_set_X4_in rfl rfl rfl eX4_in ⟨Nat.le_of_ble_eq_true rfl, Nat.le_of_ble_eq_true rfl⟩) ⟨q_blind, (q_pre hP hK hZ hD hA hS [] rfl (by decide))⟩ rfl rfl hl.1 rfl (lv_room (Nat.le_of_ble_eq_true rfl)) dX4_set_15 ⟨Nat.zero_le _, Nat.zero_le _⟩) hP hD hA hS [] rfl (by decide) rfl (fun H locs hP hD hS => ?_)
    have hP : va_P D vwCl (wM y q F G) H := hP
    have hD : va_D A (wM y q F G) := hD
    refine lv_if_eq (tgt := 37) hx hb dX4_set_18 (by decide) (fun c_11 => ?_) (fun c_11 => ?_)
    · have h := q_t c_11 h
      exact B37 F G _ _ _ hP hD hS (lv_sub hl [0] rfl) h
    · have h := q_f c_11 h
      refine lv_aload_n hx hb dX4_set_21 rfl (lv_at hl 0 rfl) ?_
      refine lv_iconst (v := 5) hx hb dX4_set_22 (by decide) ?_
      refine lv_bipush (v := 8) hx hb dX4_set_23 (by decide) ?_
      refine lv_iload_n hx hb dX4_set_25 rfl (lv_at hl 1 rfl) ?_
      refine lv_imul hx hb dX4_set_26 ?_
      refine lv_iadd hx hb dX4_set_27 ?_
      refine lv_iload_n hx hb dX4_set_28 rfl (lv_at hl 2 rfl) ?_
      refine lv_iadd hx hb dX4_set_29 ?_
      refine lv_iload_n hx hb dX4_set_30 rfl (lv_at hl 3 rfl) ?_
      obtain ⟨r_12, F_13, hc_14, h⟩ := q_bd2_ok h
      refine q_ci (r := r_12) (va_runV (As := [.int (((5 : Int32) + ((8 : Int32) * p1)) + p2), .int p3]) (rest := []) ⟨hx, hb, hml, hown, hts⟩ (c_X4_becomes l D y t q _ N F G (((5 : Int32) + ((8 : Int32) * p1)) + p2) p3 (r_12, F_13) hc_14) (cwV 2 hts gX4_set_X4_becomes rfl rfl rfl eX4_becomes ⟨Nat.le_of_ble_eq_true rfl, Nat.le_of_ble_eq_true rfl⟩) ⟨q_blind, (va_recv hK hP (ci := 4) (q0 := 0) rfl rfl), (q_pre hP hK hZ hD hA hS [0, 1, 2, 3, 4, 5, 6, 7, 8] rfl (by decide))⟩ rfl rfl hl.1 rfl (lv_room (Nat.le_of_ble_eq_true rfl)) dX4_set_31 ⟨Nat.zero_le _, Nat.zero_le _⟩) hP hD hA hS [0, 1, 2, 3, 4, 5, 6, 7, 8] rfl (by decide) rfl (fun H locs hP hD hS => ?_)
      have hP : va_P D vwCl (wM y q F_13 G) H := hP
      have hD : va_D A (wM y q F_13 G) := hD
      refine lv_goto (tgt := 43) hx hb dX4_set_34 (by decide) ?_
      have e9 := Option.some.inj h
      exact q_iret hx hb hr hlocks hK hP hD hS dX4_set_43 (by first | rw [← e9] | rfl) (by first | rw [← e9] | rfl)
theorem eX4_set : yX4_set.cls = RX4 ∧ yX4_set.cls ≠ "java/lang/invoke/MethodHandle" ∧ yX4_set.cls ≠ "java/lang/invoke/VarHandle" ∧ (parseMethodDescriptor yX4_set.desc).map (fun d => d.parameters.length) = some 3 := by decide +kernel
theorem kX4_carry_0 : Cond.constant RX4 35 (-1000000001) ∈ wsX4_carry := List.mem_of_getElem? (i := 1) (by decide +kernel)
theorem kX4_carry_1 : Cond.constant RX4 103 (-1000000005) ∈ wsX4_carry := List.mem_of_getElem? (i := 2) (by decide +kernel)
def f_X4_carry_B15 (N : Nat) (F : Nat → Nat → Int32) (G : Nat → Int64) : Option (Int32 × (Nat → Nat → Int32)) :=
  q_bd2 (f_X4_finds N F G (-1000000001 : Int32)) (fun r_4 F_5 =>
  some (r_4, F_5))
def f_X4_carry (N : Nat) (F : Nat → Nat → Int32) (G : Nat → Int64) (p1 : Int32) (p2 : Int32) : Option (Int32 × (Nat → Nat → Int32)) :=
  q_bd (f_X4_isThing N F G p1) (fun r_1 =>
  if r_1 = 0 then
    f_X4_carry_B15 N F G
  else
    q_bd (f_X4_isBearing N p2) (fun r_7 =>
    if r_7 = 0 then
      f_X4_carry_B15 N F G
    else
      q_bd (f_X4_isOn N F G p1) (fun r_10 =>
      if r_10 = 0 then
        q_bd (f_X4_put N F G p1 (6 : Int32) (0 : Int32)) (fun F_13 =>
        q_bd2 (f_X4_becomes N F_13 G (((5 : Int32) + ((8 : Int32) * p1)) + (1 : Int32)) p2) (fun r_15 F_16 =>
        some (r_15, F_16)))
      else
        q_bd2 (f_X4_finds N F G (-1000000005 : Int32)) (fun r_18 F_19 =>
        some (r_18, F_19)))))
set_option maxHeartbeats 4000000 in
set_option maxRecDepth 100000 in
theorem c_X4_carry (l : Launch) (D : va_G) (y : Nat → ClassId) (t : Nat → Nat) (q : Nat → Nat) (sz N : Nat) (F : Nat → Nat → Int32) (G : Nat → Int64) (p1 : Int32) (p2 : Int32) (res : Int32 × (Nat → Nat → Int32)) (h : f_X4_carry N F G p1 p2 = some res) : Met l yX4_carry wsX4_carry ({ frames := 2, cells := 0, slots := 0, locals := 44 } : Room) (pPre D y t [.ref (q 0), .int p1, .int p2] (wM y q F G) sz) (pQi D y (res.1) (wM y q (res.2) G) (va_A (wM y q F G) sz)) 0 0 (va_A (wM y q F G) sz) := by
  refine q_start (Qc := (fun A => pQi D y (res.1) (wM y q (res.2) G) A)) (cc := cX4_carry) (maxL := 3) (ret := (some .int)) (by decide) rfl (Nat.le_of_ble_eq_true rfl) ?_
  intro p e s m below meth c A ls hx hb hr hts hown hlocks hmn hml hP hK hZ hD hA hS hl
  have hl : lv_has ls 3 [(0, .ref (q 0)), (1, .int p1), (2, .int p2)] := hl
  have hown : s.vm.findClass RX4 = some m.cls := hown
  have B15 : ∀ (F : Nat → Nat → Int32) (G : Nat → Int64) (H : Heap) (locs : List Loc) (ls : Array Slot), va_P D vwCl (wM y q F G) H → va_D A (wM y q F G) → va_S A s.heap H locs → lv_has ls 3 [(0, .ref (q 0))] → f_X4_carry_B15 N F G = some res → W p l e ({ frames := 2, cells := 0, slots := 0, locals := 44 } : Room) s m ([.ref (q 0), .int p1, .int p2] : List Value).toArray below meth c H locs 0 0 (MQ below (pQi D y (res.1) (wM y q (res.2) G) A) ([.ref (q 0), .int p1, .int p2] : List Value).toArray s 0 0 A) (F0 m 15 ls []) := by
    intro F G H locs ls hP hD hS hl h
    unfold f_X4_carry_B15 at h
    refine lv_aload_n hx hb dX4_carry_15 rfl (lv_at hl 0 rfl) ?_
    refine lv_ldc (v := -1000000001) hx hb hown (hts _ kX4_carry_0) dX4_carry_16 ?_
    obtain ⟨r_4, F_5, hc_6, h⟩ := q_bd2_ok h
    refine q_ci (r := r_4) (va_runV (As := [.int (-1000000001 : Int32)]) (rest := []) ⟨hx, hb, hml, hown, hts⟩ (c_X4_finds l D y t q _ N F G (-1000000001 : Int32) (r_4, F_5) hc_6) (cwV 1 hts gX4_carry_X4_finds rfl rfl rfl eX4_finds ⟨Nat.le_of_ble_eq_true rfl, Nat.le_of_ble_eq_true rfl⟩) ⟨q_blind, (va_recv hK hP (ci := 4) (q0 := 0) rfl rfl), (q_pre hP hK hZ hD hA hS [0, 1, 2, 3, 4, 5, 6, 7, 8] rfl (by decide))⟩ rfl rfl hl.1 rfl (lv_room (Nat.le_of_ble_eq_true rfl)) dX4_carry_18 ⟨Nat.zero_le _, Nat.zero_le _⟩) hP hD hA hS [0, 1, 2, 3, 4, 5, 6, 7, 8] rfl (by decide) rfl (fun H locs hP hD hS => ?_)
    have hP : va_P D vwCl (wM y q F_5 G) H := hP
    have hD : va_D A (wM y q F_5 G) := hD
    have e9 := Option.some.inj h
    exact q_iret hx hb hr hlocks hK hP hD hS dX4_carry_21 (by first | rw [← e9] | rfl) (by first | rw [← e9] | rfl)
  unfold f_X4_carry at h
  refine lv_aload_n hx hb dX4_carry_0 rfl (lv_at hl 0 rfl) ?_
  refine lv_iload_n hx hb dX4_carry_1 rfl (lv_at hl 1 rfl) ?_
  obtain ⟨r_1, hc_2, h⟩ := q_bd_ok h
  refine q_ci (r := r_1) (va_runV (As := [.int p1]) (rest := []) ⟨hx, hb, hml, hown, hts⟩ (c_X4_isThing l D y t q _ N F G p1 r_1 hc_2) (cwV 1 hts gX4_carry_X4_isThing rfl rfl rfl eX4_isThing ⟨Nat.le_of_ble_eq_true rfl, Nat.le_of_ble_eq_true rfl⟩) ⟨q_blind, (va_recv hK hP (ci := 4) (q0 := 0) rfl rfl), (q_pre hP hK hZ hD hA hS [0, 1, 2, 3, 4, 5, 6, 7, 8] rfl (by decide))⟩ rfl rfl hl.1 rfl (lv_room (Nat.le_of_ble_eq_true rfl)) dX4_carry_2 ⟨Nat.zero_le _, Nat.zero_le _⟩) hP hD hA hS [0, 1, 2, 3, 4, 5, 6, 7, 8] rfl (by decide) rfl (fun H locs hP hD hS => ?_)
  have hP : va_P D vwCl (wM y q F G) H := hP
  have hD : va_D A (wM y q F G) := hD
  refine lv_if_eq (tgt := 15) hx hb dX4_carry_5 (by decide) (fun c_3 => ?_) (fun c_3 => ?_)
  · have h := q_t c_3 h
    exact B15 F G _ _ _ hP hD hS (lv_sub hl [0] rfl) h
  · have h := q_f c_3 h
    refine lv_iload_n hx hb dX4_carry_8 rfl (lv_at hl 2 rfl) ?_
    obtain ⟨r_7, hc_8, h⟩ := q_bd_ok h
    refine q_ci (r := r_7) (va_runS (As := [.int p2]) (rest := []) ⟨hx, hb, hml, hown, hts⟩ (c_X4_isBearing l D y t q _ N p2 r_7 hc_8) (va_cwS 1 hts gX4_carry_X4_isBearing rfl rfl rfl eX4_isBearing ⟨Nat.le_of_ble_eq_true rfl, Nat.le_of_ble_eq_true rfl⟩) ⟨q_blind, (q_pre hP hK hZ hD hA hS [] rfl (by decide))⟩ rfl rfl hl.1 rfl (lv_room (Nat.le_of_ble_eq_true rfl)) dX4_carry_9 ⟨Nat.zero_le _, Nat.zero_le _⟩) hP hD hA hS [] rfl (by decide) rfl (fun H locs hP hD hS => ?_)
    have hP : va_P D vwCl (wM y q F G) H := hP
    have hD : va_D A (wM y q F G) := hD
    refine lv_if_ne (tgt := 22) hx hb dX4_carry_12 (by decide) (fun c_9 => ?_) (fun c_9 => ?_)
    · have h := q_f c_9 h
      refine lv_aload_n hx hb dX4_carry_22 rfl (lv_at hl 0 rfl) ?_
      refine lv_iload_n hx hb dX4_carry_23 rfl (lv_at hl 1 rfl) ?_
      obtain ⟨r_10, hc_11, h⟩ := q_bd_ok h
      refine q_ci (r := r_10) (va_runV (As := [.int p1]) (rest := []) ⟨hx, hb, hml, hown, hts⟩ (c_X4_isOn l D y t q _ N F G p1 r_10 hc_11) (cwV 1 hts gX4_carry_X4_isOn rfl rfl rfl eX4_isOn ⟨Nat.le_of_ble_eq_true rfl, Nat.le_of_ble_eq_true rfl⟩) ⟨q_blind, (va_recv hK hP (ci := 4) (q0 := 0) rfl rfl), (q_pre hP hK hZ hD hA hS [0, 1, 2, 3, 4, 5, 6, 7, 8] rfl (by decide))⟩ rfl rfl hl.1 rfl (lv_room (Nat.le_of_ble_eq_true rfl)) dX4_carry_24 ⟨Nat.zero_le _, Nat.zero_le _⟩) hP hD hA hS [0, 1, 2, 3, 4, 5, 6, 7, 8] rfl (by decide) rfl (fun H locs hP hD hS => ?_)
      have hP : va_P D vwCl (wM y q F G) H := hP
      have hD : va_D A (wM y q F G) := hD
      refine lv_if_eq (tgt := 37) hx hb dX4_carry_27 (by decide) (fun c_12 => ?_) (fun c_12 => ?_)
      · have h := q_t c_12 h
        refine lv_aload_n hx hb dX4_carry_37 rfl (lv_at hl 0 rfl) ?_
        refine lv_iload_n hx hb dX4_carry_38 rfl (lv_at hl 1 rfl) ?_
        refine lv_bipush (v := 6) hx hb dX4_carry_39 (by decide) ?_
        refine lv_iconst (v := 0) hx hb dX4_carry_41 (by decide) ?_
        obtain ⟨F_13, hc_14, h⟩ := q_bd_ok h
        refine q_cv (va_runV (As := [.int p1, .int (6 : Int32), .int (0 : Int32)]) (rest := []) ⟨hx, hb, hml, hown, hts⟩ (c_X4_put l D y t q _ N F G p1 (6 : Int32) (0 : Int32) F_13 hc_14) (cwV 3 hts gX4_carry_X4_put rfl rfl rfl eX4_put ⟨Nat.le_of_ble_eq_true rfl, Nat.le_of_ble_eq_true rfl⟩) ⟨q_blind, (va_recv hK hP (ci := 4) (q0 := 0) rfl rfl), (q_pre hP hK hZ hD hA hS [0, 1, 2, 3, 4, 5, 6, 7, 8] rfl (by decide))⟩ rfl rfl hl.1 rfl (lv_room (Nat.le_of_ble_eq_true rfl)) dX4_carry_42 ⟨Nat.zero_le _, Nat.zero_le _⟩) hP hD hA hS [0, 1, 2, 3, 4, 5, 6, 7, 8] rfl (by decide) rfl (fun H locs hP hD hS => ?_)
        have hP : va_P D vwCl (wM y q F_13 G) H := hP
        have hD : va_D A (wM y q F_13 G) := hD
        refine lv_aload_n hx hb dX4_carry_45 rfl (lv_at hl 0 rfl) ?_
        refine lv_iconst (v := 5) hx hb dX4_carry_46 (by decide) ?_
        refine lv_bipush (v := 8) hx hb dX4_carry_47 (by decide) ?_
        refine lv_iload_n hx hb dX4_carry_49 rfl (lv_at hl 1 rfl) ?_
        refine lv_imul hx hb dX4_carry_50 ?_
        refine lv_iadd hx hb dX4_carry_51 ?_
        refine lv_iconst (v := 1) hx hb dX4_carry_52 (by decide) ?_
        refine lv_iadd hx hb dX4_carry_53 ?_
        refine lv_iload_n hx hb dX4_carry_54 rfl (lv_at hl 2 rfl) ?_
        obtain ⟨r_15, F_16, hc_17, h⟩ := q_bd2_ok h
        refine q_ci (r := r_15) (va_runV (As := [.int (((5 : Int32) + ((8 : Int32) * p1)) + (1 : Int32)), .int p2]) (rest := []) ⟨hx, hb, hml, hown, hts⟩ (c_X4_becomes l D y t q _ N F_13 G (((5 : Int32) + ((8 : Int32) * p1)) + (1 : Int32)) p2 (r_15, F_16) hc_17) (cwV 2 hts gX4_carry_X4_becomes rfl rfl rfl eX4_becomes ⟨Nat.le_of_ble_eq_true rfl, Nat.le_of_ble_eq_true rfl⟩) ⟨q_blind, (va_recv hK hP (ci := 4) (q0 := 0) rfl rfl), (q_pre hP hK hZ hD hA hS [0, 1, 2, 3, 4, 5, 6, 7, 8] rfl (by decide))⟩ rfl rfl hl.1 rfl (lv_room (Nat.le_of_ble_eq_true rfl)) dX4_carry_55 ⟨Nat.zero_le _, Nat.zero_le _⟩) hP hD hA hS [0, 1, 2, 3, 4, 5, 6, 7, 8] rfl (by decide) rfl (fun H locs hP hD hS => ?_)
        have hP : va_P D vwCl (wM y q F_16 G) H := hP
        have hD : va_D A (wM y q F_16 G) := hD
        have e9 := Option.some.inj h
        exact q_iret hx hb hr hlocks hK hP hD hS dX4_carry_58 (by first | rw [← e9] | rfl) (by first | rw [← e9] | rfl)
      · have h := q_f c_12 h
        refine lv_aload_n hx hb dX4_carry_30 rfl (lv_at hl 0 rfl) ?_
        refine lv_ldc (v := -1000000005) hx hb hown (hts _ kX4_carry_1) dX4_carry_31 ?_
        obtain ⟨r_18, F_19, hc_20, h⟩ := q_bd2_ok h
        refine q_ci (r := r_18) (va_runV (As := [.int (-1000000005 : Int32)]) (rest := []) ⟨hx, hb, hml, hown, hts⟩ (c_X4_finds l D y t q _ N F G (-1000000005 : Int32) (r_18, F_19) hc_20) (cwV 1 hts gX4_carry_X4_finds rfl rfl rfl eX4_finds ⟨Nat.le_of_ble_eq_true rfl, Nat.le_of_ble_eq_true rfl⟩) ⟨q_blind, (va_recv hK hP (ci := 4) (q0 := 0) rfl rfl), (q_pre hP hK hZ hD hA hS [0, 1, 2, 3, 4, 5, 6, 7, 8] rfl (by decide))⟩ rfl rfl hl.1 rfl (lv_room (Nat.le_of_ble_eq_true rfl)) dX4_carry_33 ⟨Nat.zero_le _, Nat.zero_le _⟩) hP hD hA hS [0, 1, 2, 3, 4, 5, 6, 7, 8] rfl (by decide) rfl (fun H locs hP hD hS => ?_)
        have hP : va_P D vwCl (wM y q F_19 G) H := hP
        have hD : va_D A (wM y q F_19 G) := hD
        have e9 := Option.some.inj h
        exact q_iret hx hb hr hlocks hK hP hD hS dX4_carry_36 (by first | rw [← e9] | rfl) (by first | rw [← e9] | rfl)
    · have h := q_t c_9 h
      exact B15 F G _ _ _ hP hD hS (lv_sub hl [0] rfl) h
theorem eX4_carry : yX4_carry.cls = RX4 ∧ yX4_carry.cls ≠ "java/lang/invoke/MethodHandle" ∧ yX4_carry.cls ≠ "java/lang/invoke/VarHandle" ∧ (parseMethodDescriptor yX4_carry.desc).map (fun d => d.parameters.length) = some 2 := by decide +kernel
theorem kX4_turn_0 : Cond.constant RX4 35 (-1000000001) ∈ wsX4_turn := List.mem_of_getElem? (i := 1) (by decide +kernel)
def f_X4_turn_B32 (N : Nat) (F : Nat → Nat → Int32) (G : Nat → Int64) : Option (Int32 × (Nat → Nat → Int32)) :=
  q_bd2 (f_X4_finds N F G (-1000000001 : Int32)) (fun r_4 F_5 =>
  some (r_4, F_5))
def f_X4_turn (N : Nat) (F : Nat → Nat → Int32) (G : Nat → Int64) (p1 : Int32) (p2 : Int32) : Option (Int32 × (Nat → Nat → Int32)) :=
  q_bd (f_X4_isThing N F G p1) (fun r_1 =>
  if r_1 = 0 then
    f_X4_turn_B32 N F G
  else
    q_bd (f_X4_in N (p2.toInt64) (0 : Int32) (5 : Int32)) (fun r_7 =>
    if r_7 = 0 then
      f_X4_turn_B32 N F G
    else
      q_bd2 (f_X4_becomes N F G ((5 : Int32) + ((8 : Int32) * p1)) p2) (fun r_10 F_11 =>
      some (r_10, F_11))))
set_option maxHeartbeats 4000000 in
set_option maxRecDepth 100000 in
theorem c_X4_turn (l : Launch) (D : va_G) (y : Nat → ClassId) (t : Nat → Nat) (q : Nat → Nat) (sz N : Nat) (F : Nat → Nat → Int32) (G : Nat → Int64) (p1 : Int32) (p2 : Int32) (res : Int32 × (Nat → Nat → Int32)) (h : f_X4_turn N F G p1 p2 = some res) : Met l yX4_turn wsX4_turn ({ frames := 2, cells := 0, slots := 0, locals := 44 } : Room) (pPre D y t [.ref (q 0), .int p1, .int p2] (wM y q F G) sz) (pQi D y (res.1) (wM y q (res.2) G) (va_A (wM y q F G) sz)) 0 0 (va_A (wM y q F G) sz) := by
  refine q_start (Qc := (fun A => pQi D y (res.1) (wM y q (res.2) G) A)) (cc := cX4_turn) (maxL := 3) (ret := (some .int)) (by decide) rfl (Nat.le_of_ble_eq_true rfl) ?_
  intro p e s m below meth c A ls hx hb hr hts hown hlocks hmn hml hP hK hZ hD hA hS hl
  have hl : lv_has ls 3 [(0, .ref (q 0)), (1, .int p1), (2, .int p2)] := hl
  have hown : s.vm.findClass RX4 = some m.cls := hown
  have B32 : ∀ (F : Nat → Nat → Int32) (G : Nat → Int64) (H : Heap) (locs : List Loc) (ls : Array Slot), va_P D vwCl (wM y q F G) H → va_D A (wM y q F G) → va_S A s.heap H locs → lv_has ls 3 [(0, .ref (q 0))] → f_X4_turn_B32 N F G = some res → W p l e ({ frames := 2, cells := 0, slots := 0, locals := 44 } : Room) s m ([.ref (q 0), .int p1, .int p2] : List Value).toArray below meth c H locs 0 0 (MQ below (pQi D y (res.1) (wM y q (res.2) G) A) ([.ref (q 0), .int p1, .int p2] : List Value).toArray s 0 0 A) (F0 m 32 ls []) := by
    intro F G H locs ls hP hD hS hl h
    unfold f_X4_turn_B32 at h
    refine lv_aload_n hx hb dX4_turn_32 rfl (lv_at hl 0 rfl) ?_
    refine lv_ldc (v := -1000000001) hx hb hown (hts _ kX4_turn_0) dX4_turn_33 ?_
    obtain ⟨r_4, F_5, hc_6, h⟩ := q_bd2_ok h
    refine q_ci (r := r_4) (va_runV (As := [.int (-1000000001 : Int32)]) (rest := []) ⟨hx, hb, hml, hown, hts⟩ (c_X4_finds l D y t q _ N F G (-1000000001 : Int32) (r_4, F_5) hc_6) (cwV 1 hts gX4_turn_X4_finds rfl rfl rfl eX4_finds ⟨Nat.le_of_ble_eq_true rfl, Nat.le_of_ble_eq_true rfl⟩) ⟨q_blind, (va_recv hK hP (ci := 4) (q0 := 0) rfl rfl), (q_pre hP hK hZ hD hA hS [0, 1, 2, 3, 4, 5, 6, 7, 8] rfl (by decide))⟩ rfl rfl hl.1 rfl (lv_room (Nat.le_of_ble_eq_true rfl)) dX4_turn_35 ⟨Nat.zero_le _, Nat.zero_le _⟩) hP hD hA hS [0, 1, 2, 3, 4, 5, 6, 7, 8] rfl (by decide) rfl (fun H locs hP hD hS => ?_)
    have hP : va_P D vwCl (wM y q F_5 G) H := hP
    have hD : va_D A (wM y q F_5 G) := hD
    have e9 := Option.some.inj h
    exact q_iret hx hb hr hlocks hK hP hD hS dX4_turn_38 (by first | rw [← e9] | rfl) (by first | rw [← e9] | rfl)
  unfold f_X4_turn at h
  refine lv_aload_n hx hb dX4_turn_0 rfl (lv_at hl 0 rfl) ?_
  refine lv_iload_n hx hb dX4_turn_1 rfl (lv_at hl 1 rfl) ?_
  obtain ⟨r_1, hc_2, h⟩ := q_bd_ok h
  refine q_ci (r := r_1) (va_runV (As := [.int p1]) (rest := []) ⟨hx, hb, hml, hown, hts⟩ (c_X4_isThing l D y t q _ N F G p1 r_1 hc_2) (cwV 1 hts gX4_turn_X4_isThing rfl rfl rfl eX4_isThing ⟨Nat.le_of_ble_eq_true rfl, Nat.le_of_ble_eq_true rfl⟩) ⟨q_blind, (va_recv hK hP (ci := 4) (q0 := 0) rfl rfl), (q_pre hP hK hZ hD hA hS [0, 1, 2, 3, 4, 5, 6, 7, 8] rfl (by decide))⟩ rfl rfl hl.1 rfl (lv_room (Nat.le_of_ble_eq_true rfl)) dX4_turn_2 ⟨Nat.zero_le _, Nat.zero_le _⟩) hP hD hA hS [0, 1, 2, 3, 4, 5, 6, 7, 8] rfl (by decide) rfl (fun H locs hP hD hS => ?_)
  have hP : va_P D vwCl (wM y q F G) H := hP
  have hD : va_D A (wM y q F G) := hD
  refine lv_if_eq (tgt := 32) hx hb dX4_turn_5 (by decide) (fun c_3 => ?_) (fun c_3 => ?_)
  · have h := q_t c_3 h
    exact B32 F G _ _ _ hP hD hS (lv_sub hl [0] rfl) h
  · have h := q_f c_3 h
    refine lv_iload_n hx hb dX4_turn_8 rfl (lv_at hl 2 rfl) ?_
    refine lv_i2l hx hb dX4_turn_9 rfl ?_
    refine lv_iconst (v := 0) hx hb dX4_turn_10 (by decide) ?_
    refine lv_iconst (v := 5) hx hb dX4_turn_11 (by decide) ?_
    obtain ⟨r_7, hc_8, h⟩ := q_bd_ok h
    refine q_ci (r := r_7) (va_runS (As := [.long (p2.toInt64), .int (0 : Int32), .int (5 : Int32)]) (rest := []) ⟨hx, hb, hml, hown, hts⟩ (c_X4_in l D y t q _ N (p2.toInt64) (0 : Int32) (5 : Int32) r_7 hc_8) (va_cwS 3 hts gX4_turn_X4_in rfl rfl rfl eX4_in ⟨Nat.le_of_ble_eq_true rfl, Nat.le_of_ble_eq_true rfl⟩) ⟨q_blind, (q_pre hP hK hZ hD hA hS [] rfl (by decide))⟩ rfl rfl hl.1 rfl (lv_room (Nat.le_of_ble_eq_true rfl)) dX4_turn_12 ⟨Nat.zero_le _, Nat.zero_le _⟩) hP hD hA hS [] rfl (by decide) rfl (fun H locs hP hD hS => ?_)
    have hP : va_P D vwCl (wM y q F G) H := hP
    have hD : va_D A (wM y q F G) := hD
    refine lv_if_eq (tgt := 32) hx hb dX4_turn_15 (by decide) (fun c_9 => ?_) (fun c_9 => ?_)
    · have h := q_t c_9 h
      exact B32 F G _ _ _ hP hD hS (lv_sub hl [0] rfl) h
    · have h := q_f c_9 h
      refine lv_aload_n hx hb dX4_turn_18 rfl (lv_at hl 0 rfl) ?_
      refine lv_iconst (v := 5) hx hb dX4_turn_19 (by decide) ?_
      refine lv_bipush (v := 8) hx hb dX4_turn_20 (by decide) ?_
      refine lv_iload_n hx hb dX4_turn_22 rfl (lv_at hl 1 rfl) ?_
      refine lv_imul hx hb dX4_turn_23 ?_
      refine lv_iadd hx hb dX4_turn_24 ?_
      refine lv_iload_n hx hb dX4_turn_25 rfl (lv_at hl 2 rfl) ?_
      obtain ⟨r_10, F_11, hc_12, h⟩ := q_bd2_ok h
      refine q_ci (r := r_10) (va_runV (As := [.int ((5 : Int32) + ((8 : Int32) * p1)), .int p2]) (rest := []) ⟨hx, hb, hml, hown, hts⟩ (c_X4_becomes l D y t q _ N F G ((5 : Int32) + ((8 : Int32) * p1)) p2 (r_10, F_11) hc_12) (cwV 2 hts gX4_turn_X4_becomes rfl rfl rfl eX4_becomes ⟨Nat.le_of_ble_eq_true rfl, Nat.le_of_ble_eq_true rfl⟩) ⟨q_blind, (va_recv hK hP (ci := 4) (q0 := 0) rfl rfl), (q_pre hP hK hZ hD hA hS [0, 1, 2, 3, 4, 5, 6, 7, 8] rfl (by decide))⟩ rfl rfl hl.1 rfl (lv_room (Nat.le_of_ble_eq_true rfl)) dX4_turn_26 ⟨Nat.zero_le _, Nat.zero_le _⟩) hP hD hA hS [0, 1, 2, 3, 4, 5, 6, 7, 8] rfl (by decide) rfl (fun H locs hP hD hS => ?_)
      have hP : va_P D vwCl (wM y q F_11 G) H := hP
      have hD : va_D A (wM y q F_11 G) := hD
      refine lv_goto (tgt := 38) hx hb dX4_turn_29 (by decide) ?_
      have e9 := Option.some.inj h
      exact q_iret hx hb hr hlocks hK hP hD hS dX4_turn_38 (by first | rw [← e9] | rfl) (by first | rw [← e9] | rfl)
theorem eX4_turn : yX4_turn.cls = RX4 ∧ yX4_turn.cls ≠ "java/lang/invoke/MethodHandle" ∧ yX4_turn.cls ≠ "java/lang/invoke/VarHandle" ∧ (parseMethodDescriptor yX4_turn.desc).map (fun d => d.parameters.length) = some 2 := by decide +kernel
theorem kX4_as_0 : Cond.constant RX4 35 (-1000000001) ∈ wsX4_as := List.mem_of_getElem? (i := 1) (by decide +kernel)
theorem kX4_as_1 : Cond.constant RX4 104 (-1000000003) ∈ wsX4_as := List.mem_of_getElem? (i := 2) (by decide +kernel)
def f_X4_as_B18 (N : Nat) (F : Nat → Nat → Int32) (G : Nat → Int64) : Option (Int32 × (Nat → Nat → Int32)) :=
  q_bd2 (f_X4_finds N F G (-1000000001 : Int32)) (fun r_4 F_5 =>
  some (r_4, F_5))
def f_X4_as_B66 (N : Nat) (F : Nat → Nat → Int32) (G : Nat → Int64) (v1 : Int32) (s0 : Int32) : Option (Int32 × (Nat → Nat → Int32)) :=
  if s0 = 0 then
    q_bd2 (f_X4_finds N F G (-1000000003 : Int32)) (fun r_14 F_15 =>
    some (r_14, F_15))
  else
    q_bd (f_X4_it N F G v1 (4 : Int32)) (fun r_17 =>
    some (r_17, F))
def f_X4_as_B61 (N : Nat) (F : Nat → Nat → Int32) (G : Nat → Int64) (v1 : Int32) : Option (Int32 × (Nat → Nat → Int32)) :=
  f_X4_as_B66 N F G v1 (1 : Int32)
def f_X4_as_B65 (N : Nat) (F : Nat → Nat → Int32) (G : Nat → Int64) (v1 : Int32) : Option (Int32 × (Nat → Nat → Int32)) :=
  f_X4_as_B66 N F G v1 (0 : Int32)
def f_X4_as_B51 (N : Nat) (F : Nat → Nat → Int32) (G : Nat → Int64) (v1 : Int32) (v2 : Int32) (v3 : Int32) : Option (Int32 × (Nat → Nat → Int32)) :=
  if v2 = (2 : Int32) then
    if v3 = (5 : Int32) then
      f_X4_as_B61 N F G v1
    else
      f_X4_as_B65 N F G v1
  else
    f_X4_as_B65 N F G v1
def f_X4_as (N : Nat) (F : Nat → Nat → Int32) (G : Nat → Int64) (p1 : Int32) (p2 : Int32) : Option (Int32 × (Nat → Nat → Int32)) :=
  q_bd (f_X4_isThing N F G p1) (fun r_1 =>
  if r_1 = 0 then
    f_X4_as_B18 N F G
  else
    q_bd (f_X4_in N (p2.toInt64) (0 : Int32) (5 : Int32)) (fun r_7 =>
    if r_7 = 0 then
      f_X4_as_B18 N F G
    else
      q_bd (f_X4_it N F G p1 (0 : Int32)) (fun r_10 =>
      if p2 = 0 then
        f_X4_as_B61 N F G p1
      else
        if p2 = r_10 then
          f_X4_as_B61 N F G p1
        else
          if p2 = (1 : Int32) then
            if r_10 = (4 : Int32) then
              f_X4_as_B61 N F G p1
            else
              f_X4_as_B51 N F G p1 p2 r_10
          else
            f_X4_as_B51 N F G p1 p2 r_10)))
set_option maxHeartbeats 4000000 in
set_option maxRecDepth 100000 in
theorem c_X4_as (l : Launch) (D : va_G) (y : Nat → ClassId) (t : Nat → Nat) (q : Nat → Nat) (sz N : Nat) (F : Nat → Nat → Int32) (G : Nat → Int64) (p1 : Int32) (p2 : Int32) (res : Int32 × (Nat → Nat → Int32)) (h : f_X4_as N F G p1 p2 = some res) : Met l yX4_as wsX4_as ({ frames := 2, cells := 0, slots := 0, locals := 44 } : Room) (pPre D y t [.ref (q 0), .int p1, .int p2] (wM y q F G) sz) (pQi D y (res.1) (wM y q (res.2) G) (va_A (wM y q F G) sz)) 0 0 (va_A (wM y q F G) sz) := by
  refine q_start (Qc := (fun A => pQi D y (res.1) (wM y q (res.2) G) A)) (cc := cX4_as) (maxL := 5) (ret := (some .int)) (by decide) rfl (Nat.le_of_ble_eq_true rfl) ?_
  intro p e s m below meth c A ls hx hb hr hts hown hlocks hmn hml hP hK hZ hD hA hS hl
  have hl : lv_has ls 5 [(0, .ref (q 0)), (1, .int p1), (2, .int p2)] := hl
  have hown : s.vm.findClass RX4 = some m.cls := hown
  have B18 : ∀ (F : Nat → Nat → Int32) (G : Nat → Int64) (H : Heap) (locs : List Loc) (ls : Array Slot), va_P D vwCl (wM y q F G) H → va_D A (wM y q F G) → va_S A s.heap H locs → lv_has ls 5 [(0, .ref (q 0))] → f_X4_as_B18 N F G = some res → W p l e ({ frames := 2, cells := 0, slots := 0, locals := 44 } : Room) s m ([.ref (q 0), .int p1, .int p2] : List Value).toArray below meth c H locs 0 0 (MQ below (pQi D y (res.1) (wM y q (res.2) G) A) ([.ref (q 0), .int p1, .int p2] : List Value).toArray s 0 0 A) (F0 m 18 ls []) := by
    intro F G H locs ls hP hD hS hl h
    unfold f_X4_as_B18 at h
    refine lv_aload_n hx hb dX4_as_18 rfl (lv_at hl 0 rfl) ?_
    refine lv_ldc (v := -1000000001) hx hb hown (hts _ kX4_as_0) dX4_as_19 ?_
    obtain ⟨r_4, F_5, hc_6, h⟩ := q_bd2_ok h
    refine q_ci (r := r_4) (va_runV (As := [.int (-1000000001 : Int32)]) (rest := []) ⟨hx, hb, hml, hown, hts⟩ (c_X4_finds l D y t q _ N F G (-1000000001 : Int32) (r_4, F_5) hc_6) (cwV 1 hts gX4_as_X4_finds rfl rfl rfl eX4_finds ⟨Nat.le_of_ble_eq_true rfl, Nat.le_of_ble_eq_true rfl⟩) ⟨q_blind, (va_recv hK hP (ci := 4) (q0 := 0) rfl rfl), (q_pre hP hK hZ hD hA hS [0, 1, 2, 3, 4, 5, 6, 7, 8] rfl (by decide))⟩ rfl rfl hl.1 rfl (lv_room (Nat.le_of_ble_eq_true rfl)) dX4_as_21 ⟨Nat.zero_le _, Nat.zero_le _⟩) hP hD hA hS [0, 1, 2, 3, 4, 5, 6, 7, 8] rfl (by decide) rfl (fun H locs hP hD hS => ?_)
    have hP : va_P D vwCl (wM y q F_5 G) H := hP
    have hD : va_D A (wM y q F_5 G) := hD
    have e9 := Option.some.inj h
    exact q_iret hx hb hr hlocks hK hP hD hS dX4_as_24 (by first | rw [← e9] | rfl) (by first | rw [← e9] | rfl)
  have B66 : ∀ (F : Nat → Nat → Int32) (G : Nat → Int64) (v1 : Int32) (s0 : Int32) (H : Heap) (locs : List Loc) (ls : Array Slot), va_P D vwCl (wM y q F G) H → va_D A (wM y q F G) → va_S A s.heap H locs → lv_has ls 5 [(0, .ref (q 0)), (1, .int v1)] → f_X4_as_B66 N F G v1 s0 = some res → W p l e ({ frames := 2, cells := 0, slots := 0, locals := 44 } : Room) s m ([.ref (q 0), .int p1, .int p2] : List Value).toArray below meth c H locs 0 0 (MQ below (pQi D y (res.1) (wM y q (res.2) G) A) ([.ref (q 0), .int p1, .int p2] : List Value).toArray s 0 0 A) (F0 m 66 ls [.int s0]) := by
    intro F G v1 s0 H locs ls hP hD hS hl h
    unfold f_X4_as_B66 at h
    refine lv_istore (lv' := [(4, .int s0), (0, .ref (q 0)), (1, .int v1)]) hx hb dX4_as_66 hl (by decide) rfl (fun ls hl => ?_)
    refine lv_iload hx hb dX4_as_68 (lv_at hl 0 rfl) ?_
    refine lv_if_eq (tgt := 82) hx hb dX4_as_70 (by decide) (fun c_13 => ?_) (fun c_13 => ?_)
    · have h := q_t c_13 h
      refine lv_aload_n hx hb dX4_as_82 rfl (lv_at hl 1 rfl) ?_
      refine lv_ldc (v := -1000000003) hx hb hown (hts _ kX4_as_1) dX4_as_83 ?_
      obtain ⟨r_14, F_15, hc_16, h⟩ := q_bd2_ok h
      refine q_ci (r := r_14) (va_runV (As := [.int (-1000000003 : Int32)]) (rest := []) ⟨hx, hb, hml, hown, hts⟩ (c_X4_finds l D y t q _ N F G (-1000000003 : Int32) (r_14, F_15) hc_16) (cwV 1 hts gX4_as_X4_finds rfl rfl rfl eX4_finds ⟨Nat.le_of_ble_eq_true rfl, Nat.le_of_ble_eq_true rfl⟩) ⟨q_blind, (va_recv hK hP (ci := 4) (q0 := 0) rfl rfl), (q_pre hP hK hZ hD hA hS [0, 1, 2, 3, 4, 5, 6, 7, 8] rfl (by decide))⟩ rfl rfl hl.1 rfl (lv_room (Nat.le_of_ble_eq_true rfl)) dX4_as_85 ⟨Nat.zero_le _, Nat.zero_le _⟩) hP hD hA hS [0, 1, 2, 3, 4, 5, 6, 7, 8] rfl (by decide) rfl (fun H locs hP hD hS => ?_)
      have hP : va_P D vwCl (wM y q F_15 G) H := hP
      have hD : va_D A (wM y q F_15 G) := hD
      have e9 := Option.some.inj h
      exact q_iret hx hb hr hlocks hK hP hD hS dX4_as_88 (by first | rw [← e9] | rfl) (by first | rw [← e9] | rfl)
    · have h := q_f c_13 h
      refine lv_aload_n hx hb dX4_as_73 rfl (lv_at hl 1 rfl) ?_
      refine lv_iload_n hx hb dX4_as_74 rfl (lv_at hl 2 rfl) ?_
      refine lv_iconst (v := 4) hx hb dX4_as_75 (by decide) ?_
      obtain ⟨r_17, hc_18, h⟩ := q_bd_ok h
      refine q_ci (r := r_17) (va_runV (As := [.int v1, .int (4 : Int32)]) (rest := []) ⟨hx, hb, hml, hown, hts⟩ (c_X4_it l D y t q _ N F G v1 (4 : Int32) r_17 hc_18) (cwV 2 hts gX4_as_X4_it rfl rfl rfl eX4_it ⟨Nat.le_of_ble_eq_true rfl, Nat.le_of_ble_eq_true rfl⟩) ⟨q_blind, (va_recv hK hP (ci := 4) (q0 := 0) rfl rfl), (q_pre hP hK hZ hD hA hS [0, 1, 2, 3, 4, 5, 6, 7, 8] rfl (by decide))⟩ rfl rfl hl.1 rfl (lv_room (Nat.le_of_ble_eq_true rfl)) dX4_as_76 ⟨Nat.zero_le _, Nat.zero_le _⟩) hP hD hA hS [0, 1, 2, 3, 4, 5, 6, 7, 8] rfl (by decide) rfl (fun H locs hP hD hS => ?_)
      have hP : va_P D vwCl (wM y q F G) H := hP
      have hD : va_D A (wM y q F G) := hD
      refine lv_goto (tgt := 88) hx hb dX4_as_79 (by decide) ?_
      have e9 := Option.some.inj h
      exact q_iret hx hb hr hlocks hK hP hD hS dX4_as_88 (by first | rw [← e9] | rfl) (by first | rw [← e9] | rfl)
  have B61 : ∀ (F : Nat → Nat → Int32) (G : Nat → Int64) (v1 : Int32) (H : Heap) (locs : List Loc) (ls : Array Slot), va_P D vwCl (wM y q F G) H → va_D A (wM y q F G) → va_S A s.heap H locs → lv_has ls 5 [(0, .ref (q 0)), (1, .int v1)] → f_X4_as_B61 N F G v1 = some res → W p l e ({ frames := 2, cells := 0, slots := 0, locals := 44 } : Room) s m ([.ref (q 0), .int p1, .int p2] : List Value).toArray below meth c H locs 0 0 (MQ below (pQi D y (res.1) (wM y q (res.2) G) A) ([.ref (q 0), .int p1, .int p2] : List Value).toArray s 0 0 A) (F0 m 61 ls []) := by
    intro F G v1 H locs ls hP hD hS hl h
    unfold f_X4_as_B61 at h
    refine lv_iconst (v := 1) hx hb dX4_as_61 (by decide) ?_
    refine lv_goto (tgt := 66) hx hb dX4_as_62 (by decide) ?_
    exact B66 F G v1 (1 : Int32) _ _ _ hP hD hS (lv_sub hl [0, 1] rfl) h
  have B65 : ∀ (F : Nat → Nat → Int32) (G : Nat → Int64) (v1 : Int32) (H : Heap) (locs : List Loc) (ls : Array Slot), va_P D vwCl (wM y q F G) H → va_D A (wM y q F G) → va_S A s.heap H locs → lv_has ls 5 [(0, .ref (q 0)), (1, .int v1)] → f_X4_as_B65 N F G v1 = some res → W p l e ({ frames := 2, cells := 0, slots := 0, locals := 44 } : Room) s m ([.ref (q 0), .int p1, .int p2] : List Value).toArray below meth c H locs 0 0 (MQ below (pQi D y (res.1) (wM y q (res.2) G) A) ([.ref (q 0), .int p1, .int p2] : List Value).toArray s 0 0 A) (F0 m 65 ls []) := by
    intro F G v1 H locs ls hP hD hS hl h
    unfold f_X4_as_B65 at h
    refine lv_iconst (v := 0) hx hb dX4_as_65 (by decide) ?_
    exact B66 F G v1 (0 : Int32) _ _ _ hP hD hS (lv_sub hl [0, 1] rfl) h
  have B51 : ∀ (F : Nat → Nat → Int32) (G : Nat → Int64) (v1 : Int32) (v2 : Int32) (v3 : Int32) (H : Heap) (locs : List Loc) (ls : Array Slot), va_P D vwCl (wM y q F G) H → va_D A (wM y q F G) → va_S A s.heap H locs → lv_has ls 5 [(0, .ref (q 0)), (1, .int v1), (2, .int v2), (3, .int v3)] → f_X4_as_B51 N F G v1 v2 v3 = some res → W p l e ({ frames := 2, cells := 0, slots := 0, locals := 44 } : Room) s m ([.ref (q 0), .int p1, .int p2] : List Value).toArray below meth c H locs 0 0 (MQ below (pQi D y (res.1) (wM y q (res.2) G) A) ([.ref (q 0), .int p1, .int p2] : List Value).toArray s 0 0 A) (F0 m 51 ls []) := by
    intro F G v1 v2 v3 H locs ls hP hD hS hl h
    unfold f_X4_as_B51 at h
    refine lv_iload_n hx hb dX4_as_51 rfl (lv_at hl 2 rfl) ?_
    refine lv_iconst (v := 2) hx hb dX4_as_52 (by decide) ?_
    refine lv_icmp_ne (tgt := 65) hx hb dX4_as_53 (by decide) (fun c_21 => ?_) (fun c_21 => ?_)
    · have h := q_f c_21 h
      exact B65 F G v1 _ _ _ hP hD hS (lv_sub hl [0, 1] rfl) h
    · have h := q_t c_21 h
      refine lv_iload_n hx hb dX4_as_56 rfl (lv_at hl 3 rfl) ?_
      refine lv_iconst (v := 5) hx hb dX4_as_57 (by decide) ?_
      refine lv_icmp_ne (tgt := 65) hx hb dX4_as_58 (by decide) (fun c_22 => ?_) (fun c_22 => ?_)
      · have h := q_f c_22 h
        exact B65 F G v1 _ _ _ hP hD hS (lv_sub hl [0, 1] rfl) h
      · have h := q_t c_22 h
        exact B61 F G v1 _ _ _ hP hD hS (lv_sub hl [0, 1] rfl) h
  unfold f_X4_as at h
  refine lv_aload_n hx hb dX4_as_0 rfl (lv_at hl 0 rfl) ?_
  refine lv_iload_n hx hb dX4_as_1 rfl (lv_at hl 1 rfl) ?_
  obtain ⟨r_1, hc_2, h⟩ := q_bd_ok h
  refine q_ci (r := r_1) (va_runV (As := [.int p1]) (rest := []) ⟨hx, hb, hml, hown, hts⟩ (c_X4_isThing l D y t q _ N F G p1 r_1 hc_2) (cwV 1 hts gX4_as_X4_isThing rfl rfl rfl eX4_isThing ⟨Nat.le_of_ble_eq_true rfl, Nat.le_of_ble_eq_true rfl⟩) ⟨q_blind, (va_recv hK hP (ci := 4) (q0 := 0) rfl rfl), (q_pre hP hK hZ hD hA hS [0, 1, 2, 3, 4, 5, 6, 7, 8] rfl (by decide))⟩ rfl rfl hl.1 rfl (lv_room (Nat.le_of_ble_eq_true rfl)) dX4_as_2 ⟨Nat.zero_le _, Nat.zero_le _⟩) hP hD hA hS [0, 1, 2, 3, 4, 5, 6, 7, 8] rfl (by decide) rfl (fun H locs hP hD hS => ?_)
  have hP : va_P D vwCl (wM y q F G) H := hP
  have hD : va_D A (wM y q F G) := hD
  refine lv_if_eq (tgt := 18) hx hb dX4_as_5 (by decide) (fun c_3 => ?_) (fun c_3 => ?_)
  · have h := q_t c_3 h
    exact B18 F G _ _ _ hP hD hS (lv_sub hl [0] rfl) h
  · have h := q_f c_3 h
    refine lv_iload_n hx hb dX4_as_8 rfl (lv_at hl 2 rfl) ?_
    refine lv_i2l hx hb dX4_as_9 rfl ?_
    refine lv_iconst (v := 0) hx hb dX4_as_10 (by decide) ?_
    refine lv_iconst (v := 5) hx hb dX4_as_11 (by decide) ?_
    obtain ⟨r_7, hc_8, h⟩ := q_bd_ok h
    refine q_ci (r := r_7) (va_runS (As := [.long (p2.toInt64), .int (0 : Int32), .int (5 : Int32)]) (rest := []) ⟨hx, hb, hml, hown, hts⟩ (c_X4_in l D y t q _ N (p2.toInt64) (0 : Int32) (5 : Int32) r_7 hc_8) (va_cwS 3 hts gX4_as_X4_in rfl rfl rfl eX4_in ⟨Nat.le_of_ble_eq_true rfl, Nat.le_of_ble_eq_true rfl⟩) ⟨q_blind, (q_pre hP hK hZ hD hA hS [] rfl (by decide))⟩ rfl rfl hl.1 rfl (lv_room (Nat.le_of_ble_eq_true rfl)) dX4_as_12 ⟨Nat.zero_le _, Nat.zero_le _⟩) hP hD hA hS [] rfl (by decide) rfl (fun H locs hP hD hS => ?_)
    have hP : va_P D vwCl (wM y q F G) H := hP
    have hD : va_D A (wM y q F G) := hD
    refine lv_if_ne (tgt := 25) hx hb dX4_as_15 (by decide) (fun c_9 => ?_) (fun c_9 => ?_)
    · have h := q_f c_9 h
      refine lv_aload_n hx hb dX4_as_25 rfl (lv_at hl 0 rfl) ?_
      refine lv_iload_n hx hb dX4_as_26 rfl (lv_at hl 1 rfl) ?_
      refine lv_iconst (v := 0) hx hb dX4_as_27 (by decide) ?_
      obtain ⟨r_10, hc_11, h⟩ := q_bd_ok h
      refine q_ci (r := r_10) (va_runV (As := [.int p1, .int (0 : Int32)]) (rest := []) ⟨hx, hb, hml, hown, hts⟩ (c_X4_it l D y t q _ N F G p1 (0 : Int32) r_10 hc_11) (cwV 2 hts gX4_as_X4_it rfl rfl rfl eX4_it ⟨Nat.le_of_ble_eq_true rfl, Nat.le_of_ble_eq_true rfl⟩) ⟨q_blind, (va_recv hK hP (ci := 4) (q0 := 0) rfl rfl), (q_pre hP hK hZ hD hA hS [0, 1, 2, 3, 4, 5, 6, 7, 8] rfl (by decide))⟩ rfl rfl hl.1 rfl (lv_room (Nat.le_of_ble_eq_true rfl)) dX4_as_28 ⟨Nat.zero_le _, Nat.zero_le _⟩) hP hD hA hS [0, 1, 2, 3, 4, 5, 6, 7, 8] rfl (by decide) rfl (fun H locs hP hD hS => ?_)
      have hP : va_P D vwCl (wM y q F G) H := hP
      have hD : va_D A (wM y q F G) := hD
      refine lv_istore_n (lv' := [(3, .int r_10), (0, .ref (q 0)), (1, .int p1), (2, .int p2)]) hx hb dX4_as_31 rfl hl (by decide) rfl (fun ls hl => ?_)
      refine lv_iload_n hx hb dX4_as_32 rfl (lv_at hl 3 rfl) ?_
      refine lv_if_eq (tgt := 61) hx hb dX4_as_33 (by decide) (fun c_12 => ?_) (fun c_12 => ?_)
      · have h := q_t c_12 h
        exact B61 F G p1 _ _ _ hP hD hS (lv_sub hl [1, 2] rfl) h
      · have h := q_f c_12 h
        refine lv_iload_n hx hb dX4_as_36 rfl (lv_at hl 3 rfl) ?_
        refine lv_iload_n hx hb dX4_as_37 rfl (lv_at hl 0 rfl) ?_
        refine lv_icmp_eq (tgt := 61) hx hb dX4_as_38 (by decide) (fun c_19 => ?_) (fun c_19 => ?_)
        · have h := q_t c_19 h
          exact B61 F G p1 _ _ _ hP hD hS (lv_sub hl [1, 2] rfl) h
        · have h := q_f c_19 h
          refine lv_iload_n hx hb dX4_as_41 rfl (lv_at hl 3 rfl) ?_
          refine lv_iconst (v := 1) hx hb dX4_as_42 (by decide) ?_
          refine lv_icmp_ne (tgt := 51) hx hb dX4_as_43 (by decide) (fun c_20 => ?_) (fun c_20 => ?_)
          · have h := q_f c_20 h
            exact B51 F G p1 p2 r_10 _ _ _ hP hD hS (lv_sub hl [1, 2, 3, 0] rfl) h
          · have h := q_t c_20 h
            refine lv_iload_n hx hb dX4_as_46 rfl (lv_at hl 0 rfl) ?_
            refine lv_iconst (v := 4) hx hb dX4_as_47 (by decide) ?_
            refine lv_icmp_eq (tgt := 61) hx hb dX4_as_48 (by decide) (fun c_23 => ?_) (fun c_23 => ?_)
            · have h := q_t c_23 h
              exact B61 F G p1 _ _ _ hP hD hS (lv_sub hl [1, 2] rfl) h
            · have h := q_f c_23 h
              exact B51 F G p1 p2 r_10 _ _ _ hP hD hS (lv_sub hl [1, 2, 3, 0] rfl) h
    · have h := q_t c_9 h
      exact B18 F G _ _ _ hP hD hS (lv_sub hl [0] rfl) h
theorem eX4_as : yX4_as.cls = RX4 ∧ yX4_as.cls ≠ "java/lang/invoke/MethodHandle" ∧ yX4_as.cls ≠ "java/lang/invoke/VarHandle" ∧ (parseMethodDescriptor yX4_as.desc).map (fun d => d.parameters.length) = some 2 := by decide +kernel
def f_X4_comesOn (N : Nat) (F : Nat → Nat → Int32) (G : Nat → Int64) (p1 : Int32) : Option ((Nat → Nat → Int32)) :=
  q_bd (f_X4_put N F G p1 (3 : Int32) (1 : Int32)) (fun F_1 =>
  q_bd (f_X4_it N F_1 G p1 (7 : Int32)) (fun r_3 =>
  q_bd (f_X4_held N (r_3 + (1 : Int32)) (0 : Int32) (9999 : Int32)) (fun r_5 =>
  q_bd (f_X4_put N F_1 G p1 (7 : Int32) r_5) (fun F_7 =>
  some F_7))))
set_option maxHeartbeats 4000000 in
set_option maxRecDepth 100000 in
theorem c_X4_comesOn (l : Launch) (D : va_G) (y : Nat → ClassId) (t : Nat → Nat) (q : Nat → Nat) (sz N : Nat) (F : Nat → Nat → Int32) (G : Nat → Int64) (p1 : Int32) (res : (Nat → Nat → Int32)) (h : f_X4_comesOn N F G p1 = some res) : Met l yX4_comesOn wsX4_comesOn ({ frames := 1, cells := 0, slots := 0, locals := 23 } : Room) (pPre D y t [.ref (q 0), .int p1] (wM y q F G) sz) (pQv D y (wM y q res G) (va_A (wM y q F G) sz)) 0 0 (va_A (wM y q F G) sz) := by
  refine q_start (Qc := (fun A => pQv D y (wM y q res G) A)) (cc := cX4_comesOn) (maxL := 2) (ret := none) (by decide) rfl (Nat.le_of_ble_eq_true rfl) ?_
  intro p e s m below meth c A ls hx hb hr hts hown hlocks hmn hml hP hK hZ hD hA hS hl
  have hl : lv_has ls 2 [(0, .ref (q 0)), (1, .int p1)] := hl
  have hown : s.vm.findClass RX4 = some m.cls := hown
  unfold f_X4_comesOn at h
  refine lv_aload_n hx hb dX4_comesOn_0 rfl (lv_at hl 0 rfl) ?_
  refine lv_iload_n hx hb dX4_comesOn_1 rfl (lv_at hl 1 rfl) ?_
  refine lv_iconst (v := 3) hx hb dX4_comesOn_2 (by decide) ?_
  refine lv_iconst (v := 1) hx hb dX4_comesOn_3 (by decide) ?_
  obtain ⟨F_1, hc_2, h⟩ := q_bd_ok h
  refine q_cv (va_runV (As := [.int p1, .int (3 : Int32), .int (1 : Int32)]) (rest := []) ⟨hx, hb, hml, hown, hts⟩ (c_X4_put l D y t q _ N F G p1 (3 : Int32) (1 : Int32) F_1 hc_2) (cwV 3 hts gX4_comesOn_X4_put rfl rfl rfl eX4_put ⟨Nat.le_of_ble_eq_true rfl, Nat.le_of_ble_eq_true rfl⟩) ⟨q_blind, (va_recv hK hP (ci := 4) (q0 := 0) rfl rfl), (q_pre hP hK hZ hD hA hS [0, 1, 2, 3, 4, 5, 6, 7, 8] rfl (by decide))⟩ rfl rfl hl.1 rfl (lv_room (Nat.le_of_ble_eq_true rfl)) dX4_comesOn_4 ⟨Nat.zero_le _, Nat.zero_le _⟩) hP hD hA hS [0, 1, 2, 3, 4, 5, 6, 7, 8] rfl (by decide) rfl (fun H locs hP hD hS => ?_)
  have hP : va_P D vwCl (wM y q F_1 G) H := hP
  have hD : va_D A (wM y q F_1 G) := hD
  refine lv_aload_n hx hb dX4_comesOn_7 rfl (lv_at hl 0 rfl) ?_
  refine lv_iload_n hx hb dX4_comesOn_8 rfl (lv_at hl 1 rfl) ?_
  refine lv_bipush (v := 7) hx hb dX4_comesOn_9 (by decide) ?_
  refine lv_aload_n hx hb dX4_comesOn_11 rfl (lv_at hl 0 rfl) ?_
  refine lv_iload_n hx hb dX4_comesOn_12 rfl (lv_at hl 1 rfl) ?_
  refine lv_bipush (v := 7) hx hb dX4_comesOn_13 (by decide) ?_
  obtain ⟨r_3, hc_4, h⟩ := q_bd_ok h
  refine q_ci (r := r_3) (va_runV (As := [.int p1, .int (7 : Int32)]) (rest := [.int (7 : Int32), .int p1, .ref (q 0)]) ⟨hx, hb, hml, hown, hts⟩ (c_X4_it l D y t q _ N F_1 G p1 (7 : Int32) r_3 hc_4) (cwV 2 hts gX4_comesOn_X4_it rfl rfl rfl eX4_it ⟨Nat.le_of_ble_eq_true rfl, Nat.le_of_ble_eq_true rfl⟩) ⟨q_blind, (va_recv hK hP (ci := 4) (q0 := 0) rfl rfl), (q_pre hP hK hZ hD hA hS [0, 1, 2, 3, 4, 5, 6, 7, 8] rfl (by decide))⟩ rfl rfl hl.1 rfl (lv_room (Nat.le_of_ble_eq_true rfl)) dX4_comesOn_15 ⟨Nat.zero_le _, Nat.zero_le _⟩) hP hD hA hS [0, 1, 2, 3, 4, 5, 6, 7, 8] rfl (by decide) rfl (fun H locs hP hD hS => ?_)
  have hP : va_P D vwCl (wM y q F_1 G) H := hP
  have hD : va_D A (wM y q F_1 G) := hD
  refine lv_iconst (v := 1) hx hb dX4_comesOn_18 (by decide) ?_
  refine lv_iadd hx hb dX4_comesOn_19 ?_
  refine lv_iconst (v := 0) hx hb dX4_comesOn_20 (by decide) ?_
  refine lv_sipush (v := 9999) hx hb dX4_comesOn_21 (by decide) ?_
  obtain ⟨r_5, hc_6, h⟩ := q_bd_ok h
  refine q_ci (r := r_5) (va_runS (As := [.int (r_3 + (1 : Int32)), .int (0 : Int32), .int (9999 : Int32)]) (rest := [.int (7 : Int32), .int p1, .ref (q 0)]) ⟨hx, hb, hml, hown, hts⟩ (c_X4_held l D y t q _ N (r_3 + (1 : Int32)) (0 : Int32) (9999 : Int32) r_5 hc_6) (va_cwS 3 hts gX4_comesOn_X4_held rfl rfl rfl eX4_held ⟨Nat.le_of_ble_eq_true rfl, Nat.le_of_ble_eq_true rfl⟩) ⟨q_blind, (q_pre hP hK hZ hD hA hS [] rfl (by decide))⟩ rfl rfl hl.1 rfl (lv_room (Nat.le_of_ble_eq_true rfl)) dX4_comesOn_24 ⟨Nat.zero_le _, Nat.zero_le _⟩) hP hD hA hS [] rfl (by decide) rfl (fun H locs hP hD hS => ?_)
  have hP : va_P D vwCl (wM y q F_1 G) H := hP
  have hD : va_D A (wM y q F_1 G) := hD
  obtain ⟨F_7, hc_8, h⟩ := q_bd_ok h
  refine q_cv (va_runV (As := [.int p1, .int (7 : Int32), .int r_5]) (rest := []) ⟨hx, hb, hml, hown, hts⟩ (c_X4_put l D y t q _ N F_1 G p1 (7 : Int32) r_5 F_7 hc_8) (cwV 3 hts gX4_comesOn_X4_put rfl rfl rfl eX4_put ⟨Nat.le_of_ble_eq_true rfl, Nat.le_of_ble_eq_true rfl⟩) ⟨q_blind, (va_recv hK hP (ci := 4) (q0 := 0) rfl rfl), (q_pre hP hK hZ hD hA hS [0, 1, 2, 3, 4, 5, 6, 7, 8] rfl (by decide))⟩ rfl rfl hl.1 rfl (lv_room (Nat.le_of_ble_eq_true rfl)) dX4_comesOn_27 ⟨Nat.zero_le _, Nat.zero_le _⟩) hP hD hA hS [0, 1, 2, 3, 4, 5, 6, 7, 8] rfl (by decide) rfl (fun H locs hP hD hS => ?_)
  have hP : va_P D vwCl (wM y q F_7 G) H := hP
  have hD : va_D A (wM y q F_7 G) := hD
  have e9 := Option.some.inj h
  exact q_vret hx hb hr hlocks hK hP hD hS dX4_comesOn_30 (by first | rw [← e9] | rfl)
theorem eX4_comesOn : yX4_comesOn.cls = RX4 ∧ yX4_comesOn.cls ≠ "java/lang/invoke/MethodHandle" ∧ yX4_comesOn.cls ≠ "java/lang/invoke/VarHandle" ∧ (parseMethodDescriptor yX4_comesOn.desc).map (fun d => d.parameters.length) = some 1 := by decide +kernel
def f_X4_goesOff (N : Nat) (F : Nat → Nat → Int32) (G : Nat → Int64) (p1 : Int32) (p2 : Int32) : Option ((Nat → Nat → Int32)) :=
  q_bd (f_X4_put N F G p1 (3 : Int32) (0 : Int32)) (fun F_1 =>
  q_bd (f_X4_put N F_1 G p1 (1 : Int32) p2) (fun F_3 =>
  some F_3))
set_option maxHeartbeats 4000000 in
set_option maxRecDepth 100000 in
theorem c_X4_goesOff (l : Launch) (D : va_G) (y : Nat → ClassId) (t : Nat → Nat) (q : Nat → Nat) (sz N : Nat) (F : Nat → Nat → Int32) (G : Nat → Int64) (p1 : Int32) (p2 : Int32) (res : (Nat → Nat → Int32)) (h : f_X4_goesOff N F G p1 p2 = some res) : Met l yX4_goesOff wsX4_goesOff ({ frames := 1, cells := 0, slots := 0, locals := 23 } : Room) (pPre D y t [.ref (q 0), .int p1, .int p2] (wM y q F G) sz) (pQv D y (wM y q res G) (va_A (wM y q F G) sz)) 0 0 (va_A (wM y q F G) sz) := by
  refine q_start (Qc := (fun A => pQv D y (wM y q res G) A)) (cc := cX4_goesOff) (maxL := 3) (ret := none) (by decide) rfl (Nat.le_of_ble_eq_true rfl) ?_
  intro p e s m below meth c A ls hx hb hr hts hown hlocks hmn hml hP hK hZ hD hA hS hl
  have hl : lv_has ls 3 [(0, .ref (q 0)), (1, .int p1), (2, .int p2)] := hl
  have hown : s.vm.findClass RX4 = some m.cls := hown
  unfold f_X4_goesOff at h
  refine lv_aload_n hx hb dX4_goesOff_0 rfl (lv_at hl 0 rfl) ?_
  refine lv_iload_n hx hb dX4_goesOff_1 rfl (lv_at hl 1 rfl) ?_
  refine lv_iconst (v := 3) hx hb dX4_goesOff_2 (by decide) ?_
  refine lv_iconst (v := 0) hx hb dX4_goesOff_3 (by decide) ?_
  obtain ⟨F_1, hc_2, h⟩ := q_bd_ok h
  refine q_cv (va_runV (As := [.int p1, .int (3 : Int32), .int (0 : Int32)]) (rest := []) ⟨hx, hb, hml, hown, hts⟩ (c_X4_put l D y t q _ N F G p1 (3 : Int32) (0 : Int32) F_1 hc_2) (cwV 3 hts gX4_goesOff_X4_put rfl rfl rfl eX4_put ⟨Nat.le_of_ble_eq_true rfl, Nat.le_of_ble_eq_true rfl⟩) ⟨q_blind, (va_recv hK hP (ci := 4) (q0 := 0) rfl rfl), (q_pre hP hK hZ hD hA hS [0, 1, 2, 3, 4, 5, 6, 7, 8] rfl (by decide))⟩ rfl rfl hl.1 rfl (lv_room (Nat.le_of_ble_eq_true rfl)) dX4_goesOff_4 ⟨Nat.zero_le _, Nat.zero_le _⟩) hP hD hA hS [0, 1, 2, 3, 4, 5, 6, 7, 8] rfl (by decide) rfl (fun H locs hP hD hS => ?_)
  have hP : va_P D vwCl (wM y q F_1 G) H := hP
  have hD : va_D A (wM y q F_1 G) := hD
  refine lv_aload_n hx hb dX4_goesOff_7 rfl (lv_at hl 0 rfl) ?_
  refine lv_iload_n hx hb dX4_goesOff_8 rfl (lv_at hl 1 rfl) ?_
  refine lv_iconst (v := 1) hx hb dX4_goesOff_9 (by decide) ?_
  refine lv_iload_n hx hb dX4_goesOff_10 rfl (lv_at hl 2 rfl) ?_
  obtain ⟨F_3, hc_4, h⟩ := q_bd_ok h
  refine q_cv (va_runV (As := [.int p1, .int (1 : Int32), .int p2]) (rest := []) ⟨hx, hb, hml, hown, hts⟩ (c_X4_put l D y t q _ N F_1 G p1 (1 : Int32) p2 F_3 hc_4) (cwV 3 hts gX4_goesOff_X4_put rfl rfl rfl eX4_put ⟨Nat.le_of_ble_eq_true rfl, Nat.le_of_ble_eq_true rfl⟩) ⟨q_blind, (va_recv hK hP (ci := 4) (q0 := 0) rfl rfl), (q_pre hP hK hZ hD hA hS [0, 1, 2, 3, 4, 5, 6, 7, 8] rfl (by decide))⟩ rfl rfl hl.1 rfl (lv_room (Nat.le_of_ble_eq_true rfl)) dX4_goesOff_11 ⟨Nat.zero_le _, Nat.zero_le _⟩) hP hD hA hS [0, 1, 2, 3, 4, 5, 6, 7, 8] rfl (by decide) rfl (fun H locs hP hD hS => ?_)
  have hP : va_P D vwCl (wM y q F_3 G) H := hP
  have hD : va_D A (wM y q F_3 G) := hD
  have e9 := Option.some.inj h
  exact q_vret hx hb hr hlocks hK hP hD hS dX4_goesOff_14 (by first | rw [← e9] | rfl)
theorem eX4_goesOff : yX4_goesOff.cls = RX4 ∧ yX4_goesOff.cls ≠ "java/lang/invoke/MethodHandle" ∧ yX4_goesOff.cls ≠ "java/lang/invoke/VarHandle" ∧ (parseMethodDescriptor yX4_goesOff.desc).map (fun d => d.parameters.length) = some 2 := by decide +kernel
theorem kX4_lay_0 : Cond.constant RX4 103 (-1000000005) ∈ wsX4_lay := List.mem_of_getElem? (i := 2) (by decide +kernel)
theorem uX4_lay_X4 : ∀ w ∈ u_ws RX4 TX4 15, w ∈ wsX4_lay := by decide +kernel
theorem kX4_lay_2 : Cond.fieldLink RX4 9 "BeamSeatsModel" "m" "[I" ∈ wsX4_lay := List.mem_of_getElem? (i := 4) (by decide +kernel)
theorem kX4_lay_3 : Cond.constant RX4 89 (-1000000002) ∈ wsX4_lay := List.mem_of_getElem? (i := 3) (by decide +kernel)
theorem kX4_lay_4 : Cond.constant RX4 35 (-1000000001) ∈ wsX4_lay := List.mem_of_getElem? (i := 1) (by decide +kernel)
def f_X4_lay_B34 (N : Nat) (F : Nat → Nat → Int32) (G : Nat → Int64) : Option (Int32 × (Nat → Nat → Int32)) :=
  q_bd2 (f_X4_finds N F G (-1000000005 : Int32)) (fun r_7 F_8 =>
  some (r_7, F_8))
def f_X4_lay (N : Nat) (F : Nat → Nat → Int32) (G : Nat → Int64) (p1 : Int32) : Option (Int32 × (Nat → Nat → Int32)) :=
  q_bd (f_X4_isThing N F G p1) (fun r_1 =>
  if r_1 = 0 then
    q_bd2 (f_X4_finds N F G (-1000000001 : Int32)) (fun r_28 F_29 =>
    some (r_28, F_29))
  else
    q_bd (f_X4_isOn N F G p1) (fun r_4 =>
    if r_4 = 0 then
      q_bd (f_X4_it N F G p1 (6 : Int32)) (fun r_10 =>
      if r_10 = (1 : Int32) then
        f_X4_lay_B34 N F G
      else
        q_bd (f_X4_isBorne N F G p1) (fun r_13 =>
        if r_13 = 0 then
          q_bd2 (f_X4_finds N F G (-1000000002 : Int32)) (fun r_25 F_26 =>
          some (r_25, F_26))
        else
          q_bd (f_X4_comesOn N F G p1) (fun F_16 =>
          q_grd (1 : Int32) 69 (
          q_bd (f_X4_put N F_16 G p1 (1 : Int32) (F_16 1 (1 : Int32).toNatClampNeg)) (fun F_19 =>
          q_bd (f_X4_it N F_19 G p1 (2 : Int32)) (fun r_21 =>
          q_bd (f_X4_loadAt N F_19 G r_21) (fun r_23 =>
          some (r_23, F_19))))))))
    else
      f_X4_lay_B34 N F G))
set_option maxHeartbeats 4000000 in
set_option maxRecDepth 100000 in
theorem c_X4_lay (l : Launch) (D : va_G) (y : Nat → ClassId) (t : Nat → Nat) (q : Nat → Nat) (sz N : Nat) (F : Nat → Nat → Int32) (G : Nat → Int64) (p1 : Int32) (res : Int32 × (Nat → Nat → Int32)) (h : f_X4_lay N F G p1 = some res) : Met l yX4_lay wsX4_lay ({ frames := 4, cells := 0, slots := 0, locals := 88 } : Room) (pPre D y t [.ref (q 0), .int p1] (wM y q F G) sz) (pQi D y (res.1) (wM y q (res.2) G) (va_A (wM y q F G) sz)) 0 0 (va_A (wM y q F G) sz) := by
  refine q_start (Qc := (fun A => pQi D y (res.1) (wM y q (res.2) G) A)) (cc := cX4_lay) (maxL := 2) (ret := (some .int)) (by decide) rfl (Nat.le_of_ble_eq_true rfl) ?_
  intro p e s m below meth c A ls hx hb hr hts hown hlocks hmn hml hP hK hZ hD hA hS hl
  have hl : lv_has ls 2 [(0, .ref (q 0)), (1, .int p1)] := hl
  have hown : s.vm.findClass RX4 = some m.cls := hown
  have B34 : ∀ (F : Nat → Nat → Int32) (G : Nat → Int64) (H : Heap) (locs : List Loc) (ls : Array Slot), va_P D vwCl (wM y q F G) H → va_D A (wM y q F G) → va_S A s.heap H locs → lv_has ls 2 [(0, .ref (q 0))] → f_X4_lay_B34 N F G = some res → W p l e ({ frames := 4, cells := 0, slots := 0, locals := 88 } : Room) s m ([.ref (q 0), .int p1] : List Value).toArray below meth c H locs 0 0 (MQ below (pQi D y (res.1) (wM y q (res.2) G) A) ([.ref (q 0), .int p1] : List Value).toArray s 0 0 A) (F0 m 34 ls []) := by
    intro F G H locs ls hP hD hS hl h
    unfold f_X4_lay_B34 at h
    refine lv_aload_n hx hb dX4_lay_34 rfl (lv_at hl 0 rfl) ?_
    refine lv_ldc (v := -1000000005) hx hb hown (hts _ kX4_lay_0) dX4_lay_35 ?_
    obtain ⟨r_7, F_8, hc_9, h⟩ := q_bd2_ok h
    refine q_ci (r := r_7) (va_runV (As := [.int (-1000000005 : Int32)]) (rest := []) ⟨hx, hb, hml, hown, hts⟩ (c_X4_finds l D y t q _ N F G (-1000000005 : Int32) (r_7, F_8) hc_9) (cwV 1 hts gX4_lay_X4_finds rfl rfl rfl eX4_finds ⟨Nat.le_of_ble_eq_true rfl, Nat.le_of_ble_eq_true rfl⟩) ⟨q_blind, (va_recv hK hP (ci := 4) (q0 := 0) rfl rfl), (q_pre hP hK hZ hD hA hS [0, 1, 2, 3, 4, 5, 6, 7, 8] rfl (by decide))⟩ rfl rfl hl.1 rfl (lv_room (Nat.le_of_ble_eq_true rfl)) dX4_lay_37 ⟨Nat.zero_le _, Nat.zero_le _⟩) hP hD hA hS [0, 1, 2, 3, 4, 5, 6, 7, 8] rfl (by decide) rfl (fun H locs hP hD hS => ?_)
    have hP : va_P D vwCl (wM y q F_8 G) H := hP
    have hD : va_D A (wM y q F_8 G) := hD
    have e9 := Option.some.inj h
    exact q_iret hx hb hr hlocks hK hP hD hS dX4_lay_40 (by first | rw [← e9] | rfl) (by first | rw [← e9] | rfl)
  unfold f_X4_lay at h
  refine lv_aload_n hx hb dX4_lay_0 rfl (lv_at hl 0 rfl) ?_
  refine lv_iload_n hx hb dX4_lay_1 rfl (lv_at hl 1 rfl) ?_
  obtain ⟨r_1, hc_2, h⟩ := q_bd_ok h
  refine q_ci (r := r_1) (va_runV (As := [.int p1]) (rest := []) ⟨hx, hb, hml, hown, hts⟩ (c_X4_isThing l D y t q _ N F G p1 r_1 hc_2) (cwV 1 hts gX4_lay_X4_isThing rfl rfl rfl eX4_isThing ⟨Nat.le_of_ble_eq_true rfl, Nat.le_of_ble_eq_true rfl⟩) ⟨q_blind, (va_recv hK hP (ci := 4) (q0 := 0) rfl rfl), (q_pre hP hK hZ hD hA hS [0, 1, 2, 3, 4, 5, 6, 7, 8] rfl (by decide))⟩ rfl rfl hl.1 rfl (lv_room (Nat.le_of_ble_eq_true rfl)) dX4_lay_2 ⟨Nat.zero_le _, Nat.zero_le _⟩) hP hD hA hS [0, 1, 2, 3, 4, 5, 6, 7, 8] rfl (by decide) rfl (fun H locs hP hD hS => ?_)
  have hP : va_P D vwCl (wM y q F G) H := hP
  have hD : va_D A (wM y q F G) := hD
  refine lv_if_ne (tgt := 15) hx hb dX4_lay_5 (by decide) (fun c_3 => ?_) (fun c_3 => ?_)
  · have h := q_f c_3 h
    refine lv_aload_n hx hb dX4_lay_15 rfl (lv_at hl 0 rfl) ?_
    refine lv_iload_n hx hb dX4_lay_16 rfl (lv_at hl 1 rfl) ?_
    obtain ⟨r_4, hc_5, h⟩ := q_bd_ok h
    refine q_ci (r := r_4) (va_runV (As := [.int p1]) (rest := []) ⟨hx, hb, hml, hown, hts⟩ (c_X4_isOn l D y t q _ N F G p1 r_4 hc_5) (cwV 1 hts gX4_lay_X4_isOn rfl rfl rfl eX4_isOn ⟨Nat.le_of_ble_eq_true rfl, Nat.le_of_ble_eq_true rfl⟩) ⟨q_blind, (va_recv hK hP (ci := 4) (q0 := 0) rfl rfl), (q_pre hP hK hZ hD hA hS [0, 1, 2, 3, 4, 5, 6, 7, 8] rfl (by decide))⟩ rfl rfl hl.1 rfl (lv_room (Nat.le_of_ble_eq_true rfl)) dX4_lay_17 ⟨Nat.zero_le _, Nat.zero_le _⟩) hP hD hA hS [0, 1, 2, 3, 4, 5, 6, 7, 8] rfl (by decide) rfl (fun H locs hP hD hS => ?_)
    have hP : va_P D vwCl (wM y q F G) H := hP
    have hD : va_D A (wM y q F G) := hD
    refine lv_if_ne (tgt := 34) hx hb dX4_lay_20 (by decide) (fun c_6 => ?_) (fun c_6 => ?_)
    · have h := q_f c_6 h
      exact B34 F G _ _ _ hP hD hS (lv_sub hl [0] rfl) h
    · have h := q_t c_6 h
      refine lv_aload_n hx hb dX4_lay_23 rfl (lv_at hl 0 rfl) ?_
      refine lv_iload_n hx hb dX4_lay_24 rfl (lv_at hl 1 rfl) ?_
      refine lv_bipush (v := 6) hx hb dX4_lay_25 (by decide) ?_
      obtain ⟨r_10, hc_11, h⟩ := q_bd_ok h
      refine q_ci (r := r_10) (va_runV (As := [.int p1, .int (6 : Int32)]) (rest := []) ⟨hx, hb, hml, hown, hts⟩ (c_X4_it l D y t q _ N F G p1 (6 : Int32) r_10 hc_11) (cwV 2 hts gX4_lay_X4_it rfl rfl rfl eX4_it ⟨Nat.le_of_ble_eq_true rfl, Nat.le_of_ble_eq_true rfl⟩) ⟨q_blind, (va_recv hK hP (ci := 4) (q0 := 0) rfl rfl), (q_pre hP hK hZ hD hA hS [0, 1, 2, 3, 4, 5, 6, 7, 8] rfl (by decide))⟩ rfl rfl hl.1 rfl (lv_room (Nat.le_of_ble_eq_true rfl)) dX4_lay_27 ⟨Nat.zero_le _, Nat.zero_le _⟩) hP hD hA hS [0, 1, 2, 3, 4, 5, 6, 7, 8] rfl (by decide) rfl (fun H locs hP hD hS => ?_)
      have hP : va_P D vwCl (wM y q F G) H := hP
      have hD : va_D A (wM y q F G) := hD
      refine lv_iconst (v := 1) hx hb dX4_lay_30 (by decide) ?_
      refine lv_icmp_ne (tgt := 41) hx hb dX4_lay_31 (by decide) (fun c_12 => ?_) (fun c_12 => ?_)
      · have h := q_f c_12 h
        refine lv_aload_n hx hb dX4_lay_41 rfl (lv_at hl 0 rfl) ?_
        refine lv_iload_n hx hb dX4_lay_42 rfl (lv_at hl 1 rfl) ?_
        obtain ⟨r_13, hc_14, h⟩ := q_bd_ok h
        refine q_ci (r := r_13) (va_runV (As := [.int p1]) (rest := []) ⟨hx, hb, hml, hown, hts⟩ (c_X4_isBorne l D y t q _ N F G p1 r_13 hc_14) (cwV 1 hts gX4_lay_X4_isBorne rfl rfl rfl eX4_isBorne ⟨Nat.le_of_ble_eq_true rfl, Nat.le_of_ble_eq_true rfl⟩) ⟨q_blind, (va_recv hK hP (ci := 4) (q0 := 0) rfl rfl), (q_pre hP hK hZ hD hA hS [0, 1, 2, 3, 4, 5, 6, 7, 8] rfl (by decide))⟩ rfl rfl hl.1 rfl (lv_room (Nat.le_of_ble_eq_true rfl)) dX4_lay_43 ⟨Nat.zero_le _, Nat.zero_le _⟩) hP hD hA hS [0, 1, 2, 3, 4, 5, 6, 7, 8] rfl (by decide) rfl (fun H locs hP hD hS => ?_)
        have hP : va_P D vwCl (wM y q F G) H := hP
        have hD : va_D A (wM y q F G) := hD
        refine lv_if_ne (tgt := 56) hx hb dX4_lay_46 (by decide) (fun c_15 => ?_) (fun c_15 => ?_)
        · have h := q_f c_15 h
          refine lv_aload_n hx hb dX4_lay_56 rfl (lv_at hl 0 rfl) ?_
          refine lv_iload_n hx hb dX4_lay_57 rfl (lv_at hl 1 rfl) ?_
          obtain ⟨F_16, hc_17, h⟩ := q_bd_ok h
          refine q_cv (va_runV (As := [.int p1]) (rest := []) ⟨hx, hb, hml, hown, hts⟩ (c_X4_comesOn l D y t q _ N F G p1 F_16 hc_17) (cwV 1 hts gX4_lay_X4_comesOn rfl rfl rfl eX4_comesOn ⟨Nat.le_of_ble_eq_true rfl, Nat.le_of_ble_eq_true rfl⟩) ⟨q_blind, (va_recv hK hP (ci := 4) (q0 := 0) rfl rfl), (q_pre hP hK hZ hD hA hS [0, 1, 2, 3, 4, 5, 6, 7, 8] rfl (by decide))⟩ rfl rfl hl.1 rfl (lv_room (Nat.le_of_ble_eq_true rfl)) dX4_lay_58 ⟨Nat.zero_le _, Nat.zero_le _⟩) hP hD hA hS [0, 1, 2, 3, 4, 5, 6, 7, 8] rfl (by decide) rfl (fun H locs hP hD hS => ?_)
          have hP : va_P D vwCl (wM y q F_16 G) H := hP
          have hD : va_D A (wM y q F_16 G) := hD
          refine lv_aload_n hx hb dX4_lay_61 rfl (lv_at hl 0 rfl) ?_
          refine lv_iload_n hx hb dX4_lay_62 rfl (lv_at hl 1 rfl) ?_
          refine lv_iconst (v := 1) hx hb dX4_lay_63 (by decide) ?_
          refine lv_aload_n hx hb dX4_lay_64 rfl (lv_at hl 0 rfl) ?_
          refine va_get (D := D) (ci := 4) (v := .ref (q 1)) (C := RX4) (T := TX4) (N := 15) hx hb hts uX4_lay_X4 hown hK hP 0 rfl rfl 0 (by decide) (hts _ kX4_lay_2) (fun _ h9 => h9) rfl dX4_lay_65 ?_
          refine lv_iconst (v := 1) hx hb dX4_lay_68 (by decide) ?_
          obtain ⟨z_18, h⟩ := q_grd_ok h
          refine va_iald hx hb hK hP 1 0 rfl rfl z_18 dX4_lay_69 ?_
          obtain ⟨F_19, hc_20, h⟩ := q_bd_ok h
          refine q_cv (va_runV (As := [.int p1, .int (1 : Int32), .int (F_16 1 (1 : Int32).toNatClampNeg)]) (rest := []) ⟨hx, hb, hml, hown, hts⟩ (c_X4_put l D y t q _ N F_16 G p1 (1 : Int32) (F_16 1 (1 : Int32).toNatClampNeg) F_19 hc_20) (cwV 3 hts gX4_lay_X4_put rfl rfl rfl eX4_put ⟨Nat.le_of_ble_eq_true rfl, Nat.le_of_ble_eq_true rfl⟩) ⟨q_blind, (va_recv hK hP (ci := 4) (q0 := 0) rfl rfl), (q_pre hP hK hZ hD hA hS [0, 1, 2, 3, 4, 5, 6, 7, 8] rfl (by decide))⟩ rfl rfl hl.1 rfl (lv_room (Nat.le_of_ble_eq_true rfl)) dX4_lay_70 ⟨Nat.zero_le _, Nat.zero_le _⟩) hP hD hA hS [0, 1, 2, 3, 4, 5, 6, 7, 8] rfl (by decide) rfl (fun H locs hP hD hS => ?_)
          have hP : va_P D vwCl (wM y q F_19 G) H := hP
          have hD : va_D A (wM y q F_19 G) := hD
          refine lv_aload_n hx hb dX4_lay_73 rfl (lv_at hl 0 rfl) ?_
          refine lv_aload_n hx hb dX4_lay_74 rfl (lv_at hl 0 rfl) ?_
          refine lv_iload_n hx hb dX4_lay_75 rfl (lv_at hl 1 rfl) ?_
          refine lv_iconst (v := 2) hx hb dX4_lay_76 (by decide) ?_
          obtain ⟨r_21, hc_22, h⟩ := q_bd_ok h
          refine q_ci (r := r_21) (va_runV (As := [.int p1, .int (2 : Int32)]) (rest := [.ref (q 0)]) ⟨hx, hb, hml, hown, hts⟩ (c_X4_it l D y t q _ N F_19 G p1 (2 : Int32) r_21 hc_22) (cwV 2 hts gX4_lay_X4_it rfl rfl rfl eX4_it ⟨Nat.le_of_ble_eq_true rfl, Nat.le_of_ble_eq_true rfl⟩) ⟨q_blind, (va_recv hK hP (ci := 4) (q0 := 0) rfl rfl), (q_pre hP hK hZ hD hA hS [0, 1, 2, 3, 4, 5, 6, 7, 8] rfl (by decide))⟩ rfl rfl hl.1 rfl (lv_room (Nat.le_of_ble_eq_true rfl)) dX4_lay_77 ⟨Nat.zero_le _, Nat.zero_le _⟩) hP hD hA hS [0, 1, 2, 3, 4, 5, 6, 7, 8] rfl (by decide) rfl (fun H locs hP hD hS => ?_)
          have hP : va_P D vwCl (wM y q F_19 G) H := hP
          have hD : va_D A (wM y q F_19 G) := hD
          obtain ⟨r_23, hc_24, h⟩ := q_bd_ok h
          refine q_ci (r := r_23) (va_runV (As := [.int r_21]) (rest := []) ⟨hx, hb, hml, hown, hts⟩ (c_X4_loadAt l D y t q _ N F_19 G r_21 r_23 hc_24) (cwV 1 hts gX4_lay_X4_loadAt rfl rfl rfl eX4_loadAt ⟨Nat.le_of_ble_eq_true rfl, Nat.le_of_ble_eq_true rfl⟩) ⟨q_blind, (va_recv hK hP (ci := 4) (q0 := 0) rfl rfl), (q_pre hP hK hZ hD hA hS [0, 1, 2, 3, 4, 5, 6, 7, 8] rfl (by decide))⟩ rfl rfl hl.1 rfl (lv_room (Nat.le_of_ble_eq_true rfl)) dX4_lay_80 ⟨Nat.zero_le _, Nat.zero_le _⟩) hP hD hA hS [0, 1, 2, 3, 4, 5, 6, 7, 8] rfl (by decide) rfl (fun H locs hP hD hS => ?_)
          have hP : va_P D vwCl (wM y q F_19 G) H := hP
          have hD : va_D A (wM y q F_19 G) := hD
          have e9 := Option.some.inj h
          exact q_iret hx hb hr hlocks hK hP hD hS dX4_lay_83 (by first | rw [← e9] | rfl) (by first | rw [← e9] | rfl)
        · have h := q_t c_15 h
          refine lv_aload_n hx hb dX4_lay_49 rfl (lv_at hl 0 rfl) ?_
          refine lv_ldc (v := -1000000002) hx hb hown (hts _ kX4_lay_3) dX4_lay_50 ?_
          obtain ⟨r_25, F_26, hc_27, h⟩ := q_bd2_ok h
          refine q_ci (r := r_25) (va_runV (As := [.int (-1000000002 : Int32)]) (rest := []) ⟨hx, hb, hml, hown, hts⟩ (c_X4_finds l D y t q _ N F G (-1000000002 : Int32) (r_25, F_26) hc_27) (cwV 1 hts gX4_lay_X4_finds rfl rfl rfl eX4_finds ⟨Nat.le_of_ble_eq_true rfl, Nat.le_of_ble_eq_true rfl⟩) ⟨q_blind, (va_recv hK hP (ci := 4) (q0 := 0) rfl rfl), (q_pre hP hK hZ hD hA hS [0, 1, 2, 3, 4, 5, 6, 7, 8] rfl (by decide))⟩ rfl rfl hl.1 rfl (lv_room (Nat.le_of_ble_eq_true rfl)) dX4_lay_52 ⟨Nat.zero_le _, Nat.zero_le _⟩) hP hD hA hS [0, 1, 2, 3, 4, 5, 6, 7, 8] rfl (by decide) rfl (fun H locs hP hD hS => ?_)
          have hP : va_P D vwCl (wM y q F_26 G) H := hP
          have hD : va_D A (wM y q F_26 G) := hD
          have e9 := Option.some.inj h
          exact q_iret hx hb hr hlocks hK hP hD hS dX4_lay_55 (by first | rw [← e9] | rfl) (by first | rw [← e9] | rfl)
      · have h := q_t c_12 h
        exact B34 F G _ _ _ hP hD hS (lv_sub hl [0] rfl) h
  · have h := q_t c_3 h
    refine lv_aload_n hx hb dX4_lay_8 rfl (lv_at hl 0 rfl) ?_
    refine lv_ldc (v := -1000000001) hx hb hown (hts _ kX4_lay_4) dX4_lay_9 ?_
    obtain ⟨r_28, F_29, hc_30, h⟩ := q_bd2_ok h
    refine q_ci (r := r_28) (va_runV (As := [.int (-1000000001 : Int32)]) (rest := []) ⟨hx, hb, hml, hown, hts⟩ (c_X4_finds l D y t q _ N F G (-1000000001 : Int32) (r_28, F_29) hc_30) (cwV 1 hts gX4_lay_X4_finds rfl rfl rfl eX4_finds ⟨Nat.le_of_ble_eq_true rfl, Nat.le_of_ble_eq_true rfl⟩) ⟨q_blind, (va_recv hK hP (ci := 4) (q0 := 0) rfl rfl), (q_pre hP hK hZ hD hA hS [0, 1, 2, 3, 4, 5, 6, 7, 8] rfl (by decide))⟩ rfl rfl hl.1 rfl (lv_room (Nat.le_of_ble_eq_true rfl)) dX4_lay_11 ⟨Nat.zero_le _, Nat.zero_le _⟩) hP hD hA hS [0, 1, 2, 3, 4, 5, 6, 7, 8] rfl (by decide) rfl (fun H locs hP hD hS => ?_)
    have hP : va_P D vwCl (wM y q F_29 G) H := hP
    have hD : va_D A (wM y q F_29 G) := hD
    have e9 := Option.some.inj h
    exact q_iret hx hb hr hlocks hK hP hD hS dX4_lay_14 (by first | rw [← e9] | rfl) (by first | rw [← e9] | rfl)
theorem eX4_lay : yX4_lay.cls = RX4 ∧ yX4_lay.cls ≠ "java/lang/invoke/MethodHandle" ∧ yX4_lay.cls ≠ "java/lang/invoke/VarHandle" ∧ (parseMethodDescriptor yX4_lay.desc).map (fun d => d.parameters.length) = some 1 := by decide +kernel
theorem uX4_take_X4 : ∀ w ∈ u_ws RX4 TX4 15, w ∈ wsX4_take := by decide +kernel
theorem kX4_take_1 : Cond.fieldLink RX4 9 "BeamSeatsModel" "m" "[I" ∈ wsX4_take := List.mem_of_getElem? (i := 3) (by decide +kernel)
theorem kX4_take_2 : Cond.constant RX4 103 (-1000000005) ∈ wsX4_take := List.mem_of_getElem? (i := 2) (by decide +kernel)
theorem kX4_take_3 : Cond.constant RX4 35 (-1000000001) ∈ wsX4_take := List.mem_of_getElem? (i := 1) (by decide +kernel)
def f_X4_take (N : Nat) (F : Nat → Nat → Int32) (G : Nat → Int64) (p1 : Int32) : Option (Int32 × (Nat → Nat → Int32)) :=
  q_bd (f_X4_isThing N F G p1) (fun r_1 =>
  if r_1 = 0 then
    q_bd2 (f_X4_finds N F G (-1000000001 : Int32)) (fun r_14 F_15 =>
    some (r_14, F_15))
  else
    q_bd (f_X4_isOn N F G p1) (fun r_4 =>
    if r_4 = 0 then
      q_bd2 (f_X4_finds N F G (-1000000005 : Int32)) (fun r_11 F_12 =>
      some (r_11, F_12))
    else
      q_grd (1 : Int32) 69 (
      q_bd (f_X4_goesOff N F G p1 (F 1 (1 : Int32).toNatClampNeg)) (fun F_8 =>
      q_grd (1 : Int32) 69 (
      some ((F_8 1 (1 : Int32).toNatClampNeg), F_8))))))
set_option maxHeartbeats 4000000 in
set_option maxRecDepth 100000 in
theorem c_X4_take (l : Launch) (D : va_G) (y : Nat → ClassId) (t : Nat → Nat) (q : Nat → Nat) (sz N : Nat) (F : Nat → Nat → Int32) (G : Nat → Int64) (p1 : Int32) (res : Int32 × (Nat → Nat → Int32)) (h : f_X4_take N F G p1 = some res) : Met l yX4_take wsX4_take ({ frames := 2, cells := 0, slots := 0, locals := 45 } : Room) (pPre D y t [.ref (q 0), .int p1] (wM y q F G) sz) (pQi D y (res.1) (wM y q (res.2) G) (va_A (wM y q F G) sz)) 0 0 (va_A (wM y q F G) sz) := by
  refine q_start (Qc := (fun A => pQi D y (res.1) (wM y q (res.2) G) A)) (cc := cX4_take) (maxL := 2) (ret := (some .int)) (by decide) rfl (Nat.le_of_ble_eq_true rfl) ?_
  intro p e s m below meth c A ls hx hb hr hts hown hlocks hmn hml hP hK hZ hD hA hS hl
  have hl : lv_has ls 2 [(0, .ref (q 0)), (1, .int p1)] := hl
  have hown : s.vm.findClass RX4 = some m.cls := hown
  unfold f_X4_take at h
  refine lv_aload_n hx hb dX4_take_0 rfl (lv_at hl 0 rfl) ?_
  refine lv_iload_n hx hb dX4_take_1 rfl (lv_at hl 1 rfl) ?_
  obtain ⟨r_1, hc_2, h⟩ := q_bd_ok h
  refine q_ci (r := r_1) (va_runV (As := [.int p1]) (rest := []) ⟨hx, hb, hml, hown, hts⟩ (c_X4_isThing l D y t q _ N F G p1 r_1 hc_2) (cwV 1 hts gX4_take_X4_isThing rfl rfl rfl eX4_isThing ⟨Nat.le_of_ble_eq_true rfl, Nat.le_of_ble_eq_true rfl⟩) ⟨q_blind, (va_recv hK hP (ci := 4) (q0 := 0) rfl rfl), (q_pre hP hK hZ hD hA hS [0, 1, 2, 3, 4, 5, 6, 7, 8] rfl (by decide))⟩ rfl rfl hl.1 rfl (lv_room (Nat.le_of_ble_eq_true rfl)) dX4_take_2 ⟨Nat.zero_le _, Nat.zero_le _⟩) hP hD hA hS [0, 1, 2, 3, 4, 5, 6, 7, 8] rfl (by decide) rfl (fun H locs hP hD hS => ?_)
  have hP : va_P D vwCl (wM y q F G) H := hP
  have hD : va_D A (wM y q F G) := hD
  refine lv_if_ne (tgt := 15) hx hb dX4_take_5 (by decide) (fun c_3 => ?_) (fun c_3 => ?_)
  · have h := q_f c_3 h
    refine lv_aload_n hx hb dX4_take_15 rfl (lv_at hl 0 rfl) ?_
    refine lv_iload_n hx hb dX4_take_16 rfl (lv_at hl 1 rfl) ?_
    obtain ⟨r_4, hc_5, h⟩ := q_bd_ok h
    refine q_ci (r := r_4) (va_runV (As := [.int p1]) (rest := []) ⟨hx, hb, hml, hown, hts⟩ (c_X4_isOn l D y t q _ N F G p1 r_4 hc_5) (cwV 1 hts gX4_take_X4_isOn rfl rfl rfl eX4_isOn ⟨Nat.le_of_ble_eq_true rfl, Nat.le_of_ble_eq_true rfl⟩) ⟨q_blind, (va_recv hK hP (ci := 4) (q0 := 0) rfl rfl), (q_pre hP hK hZ hD hA hS [0, 1, 2, 3, 4, 5, 6, 7, 8] rfl (by decide))⟩ rfl rfl hl.1 rfl (lv_room (Nat.le_of_ble_eq_true rfl)) dX4_take_17 ⟨Nat.zero_le _, Nat.zero_le _⟩) hP hD hA hS [0, 1, 2, 3, 4, 5, 6, 7, 8] rfl (by decide) rfl (fun H locs hP hD hS => ?_)
    have hP : va_P D vwCl (wM y q F G) H := hP
    have hD : va_D A (wM y q F G) := hD
    refine lv_if_ne (tgt := 30) hx hb dX4_take_20 (by decide) (fun c_6 => ?_) (fun c_6 => ?_)
    · have h := q_f c_6 h
      refine lv_aload_n hx hb dX4_take_30 rfl (lv_at hl 0 rfl) ?_
      refine lv_iload_n hx hb dX4_take_31 rfl (lv_at hl 1 rfl) ?_
      refine lv_aload_n hx hb dX4_take_32 rfl (lv_at hl 0 rfl) ?_
      refine va_get (D := D) (ci := 4) (v := .ref (q 1)) (C := RX4) (T := TX4) (N := 15) hx hb hts uX4_take_X4 hown hK hP 0 rfl rfl 0 (by decide) (hts _ kX4_take_1) (fun _ h9 => h9) rfl dX4_take_33 ?_
      refine lv_iconst (v := 1) hx hb dX4_take_36 (by decide) ?_
      obtain ⟨z_7, h⟩ := q_grd_ok h
      refine va_iald hx hb hK hP 1 0 rfl rfl z_7 dX4_take_37 ?_
      obtain ⟨F_8, hc_9, h⟩ := q_bd_ok h
      refine q_cv (va_runV (As := [.int p1, .int (F 1 (1 : Int32).toNatClampNeg)]) (rest := []) ⟨hx, hb, hml, hown, hts⟩ (c_X4_goesOff l D y t q _ N F G p1 (F 1 (1 : Int32).toNatClampNeg) F_8 hc_9) (cwV 2 hts gX4_take_X4_goesOff rfl rfl rfl eX4_goesOff ⟨Nat.le_of_ble_eq_true rfl, Nat.le_of_ble_eq_true rfl⟩) ⟨q_blind, (va_recv hK hP (ci := 4) (q0 := 0) rfl rfl), (q_pre hP hK hZ hD hA hS [0, 1, 2, 3, 4, 5, 6, 7, 8] rfl (by decide))⟩ rfl rfl hl.1 rfl (lv_room (Nat.le_of_ble_eq_true rfl)) dX4_take_38 ⟨Nat.zero_le _, Nat.zero_le _⟩) hP hD hA hS [0, 1, 2, 3, 4, 5, 6, 7, 8] rfl (by decide) rfl (fun H locs hP hD hS => ?_)
      have hP : va_P D vwCl (wM y q F_8 G) H := hP
      have hD : va_D A (wM y q F_8 G) := hD
      refine lv_aload_n hx hb dX4_take_41 rfl (lv_at hl 0 rfl) ?_
      refine va_get (D := D) (ci := 4) (v := .ref (q 1)) (C := RX4) (T := TX4) (N := 15) hx hb hts uX4_take_X4 hown hK hP 0 rfl rfl 0 (by decide) (hts _ kX4_take_1) (fun _ h9 => h9) rfl dX4_take_42 ?_
      refine lv_iconst (v := 1) hx hb dX4_take_45 (by decide) ?_
      obtain ⟨z_10, h⟩ := q_grd_ok h
      refine va_iald hx hb hK hP 1 0 rfl rfl z_10 dX4_take_46 ?_
      have e9 := Option.some.inj h
      exact q_iret hx hb hr hlocks hK hP hD hS dX4_take_47 (by first | rw [← e9] | rfl) (by first | rw [← e9] | rfl)
    · have h := q_t c_6 h
      refine lv_aload_n hx hb dX4_take_23 rfl (lv_at hl 0 rfl) ?_
      refine lv_ldc (v := -1000000005) hx hb hown (hts _ kX4_take_2) dX4_take_24 ?_
      obtain ⟨r_11, F_12, hc_13, h⟩ := q_bd2_ok h
      refine q_ci (r := r_11) (va_runV (As := [.int (-1000000005 : Int32)]) (rest := []) ⟨hx, hb, hml, hown, hts⟩ (c_X4_finds l D y t q _ N F G (-1000000005 : Int32) (r_11, F_12) hc_13) (cwV 1 hts gX4_take_X4_finds rfl rfl rfl eX4_finds ⟨Nat.le_of_ble_eq_true rfl, Nat.le_of_ble_eq_true rfl⟩) ⟨q_blind, (va_recv hK hP (ci := 4) (q0 := 0) rfl rfl), (q_pre hP hK hZ hD hA hS [0, 1, 2, 3, 4, 5, 6, 7, 8] rfl (by decide))⟩ rfl rfl hl.1 rfl (lv_room (Nat.le_of_ble_eq_true rfl)) dX4_take_26 ⟨Nat.zero_le _, Nat.zero_le _⟩) hP hD hA hS [0, 1, 2, 3, 4, 5, 6, 7, 8] rfl (by decide) rfl (fun H locs hP hD hS => ?_)
      have hP : va_P D vwCl (wM y q F_12 G) H := hP
      have hD : va_D A (wM y q F_12 G) := hD
      have e9 := Option.some.inj h
      exact q_iret hx hb hr hlocks hK hP hD hS dX4_take_29 (by first | rw [← e9] | rfl) (by first | rw [← e9] | rfl)
  · have h := q_t c_3 h
    refine lv_aload_n hx hb dX4_take_8 rfl (lv_at hl 0 rfl) ?_
    refine lv_ldc (v := -1000000001) hx hb hown (hts _ kX4_take_3) dX4_take_9 ?_
    obtain ⟨r_14, F_15, hc_16, h⟩ := q_bd2_ok h
    refine q_ci (r := r_14) (va_runV (As := [.int (-1000000001 : Int32)]) (rest := []) ⟨hx, hb, hml, hown, hts⟩ (c_X4_finds l D y t q _ N F G (-1000000001 : Int32) (r_14, F_15) hc_16) (cwV 1 hts gX4_take_X4_finds rfl rfl rfl eX4_finds ⟨Nat.le_of_ble_eq_true rfl, Nat.le_of_ble_eq_true rfl⟩) ⟨q_blind, (va_recv hK hP (ci := 4) (q0 := 0) rfl rfl), (q_pre hP hK hZ hD hA hS [0, 1, 2, 3, 4, 5, 6, 7, 8] rfl (by decide))⟩ rfl rfl hl.1 rfl (lv_room (Nat.le_of_ble_eq_true rfl)) dX4_take_11 ⟨Nat.zero_le _, Nat.zero_le _⟩) hP hD hA hS [0, 1, 2, 3, 4, 5, 6, 7, 8] rfl (by decide) rfl (fun H locs hP hD hS => ?_)
    have hP : va_P D vwCl (wM y q F_15 G) H := hP
    have hD : va_D A (wM y q F_15 G) := hD
    have e9 := Option.some.inj h
    exact q_iret hx hb hr hlocks hK hP hD hS dX4_take_14 (by first | rw [← e9] | rfl) (by first | rw [← e9] | rfl)
theorem eX4_take : yX4_take.cls = RX4 ∧ yX4_take.cls ≠ "java/lang/invoke/MethodHandle" ∧ yX4_take.cls ≠ "java/lang/invoke/VarHandle" ∧ (parseMethodDescriptor yX4_take.desc).map (fun d => d.parameters.length) = some 1 := by decide +kernel
def f_X4_passes_B57 (N : Nat) (F : Nat → Nat → Int32) (G : Nat → Int64) (v1 : Int32) (v2 : Int32) (v3 : Int32) : Option ((Nat → Nat → Int32)) :=
  q_bd (f_X4_isOn N F G v1) (fun r_7 =>
  if r_7 = 0 then
    if ((v3 >>> (v1 &&& 31)) &&& (1 : Int32)) = 0 then
      q_bd (f_X4_it N F G v1 (6 : Int32)) (fun r_11 =>
      if r_11 = 0 then
        q_bd (f_X4_it N F G v1 (1 : Int32)) (fun r_14 =>
        if r_14 = v2 then
          q_bd (f_X4_getsOn N F G v1) (fun r_17 =>
          if r_17 = 0 then
            some F
          else
            q_bd (f_X4_isBorne N F G v1) (fun r_20 =>
            if r_20 = 0 then
              some F
            else
              q_bd (f_X4_comesOn N F G v1) (fun F_23 =>
              some F_23)))
        else
          some F)
      else
        some F)
    else
      some F
  else
    some F)
def f_X4_passes_B26 (N : Nat) (F : Nat → Nat → Int32) (G : Nat → Int64) (v1 : Int32) (v2 : Int32) (v3 : Int32) : Option ((Nat → Nat → Int32)) :=
  q_bd (f_X4_isOn N F G v1) (fun r_4 =>
  if r_4 = 0 then
    f_X4_passes_B57 N F G v1 v2 v3
  else
    if v2 = (58 : Int32) then
      q_bd (f_X4_goesOff N F G v1 v2) (fun F_26 =>
      q_bd (f_X4_put N F_26 G v1 (6 : Int32) (1 : Int32)) (fun F_28 =>
      some F_28))
    else
      f_X4_passes_B57 N F G v1 v2 v3)
def f_X4_passes (N : Nat) (F : Nat → Nat → Int32) (G : Nat → Int64) (p1 : Int32) (p2 : Int32) (p3 : Int32) : Option ((Nat → Nat → Int32)) :=
  q_bd (f_X4_isOn N F G p1) (fun r_1 =>
  if r_1 = 0 then
    f_X4_passes_B26 N F G p1 p2 p3
  else
    q_bd (f_X4_getsOff N F G p1 p2) (fun r_30 =>
    if r_30 = 0 then
      f_X4_passes_B26 N F G p1 p2 p3
    else
      q_bd (f_X4_goesOff N F G p1 p2) (fun F_33 =>
      some F_33)))
set_option maxHeartbeats 4000000 in
set_option maxRecDepth 100000 in
theorem c_X4_passes (l : Launch) (D : va_G) (y : Nat → ClassId) (t : Nat → Nat) (q : Nat → Nat) (sz N : Nat) (F : Nat → Nat → Int32) (G : Nat → Int64) (p1 : Int32) (p2 : Int32) (p3 : Int32) (res : (Nat → Nat → Int32)) (h : f_X4_passes N F G p1 p2 p3 = some res) : Met l yX4_passes wsX4_passes ({ frames := 4, cells := 0, slots := 0, locals := 88 } : Room) (pPre D y t [.ref (q 0), .int p1, .int p2, .int p3] (wM y q F G) sz) (pQv D y (wM y q res G) (va_A (wM y q F G) sz)) 0 0 (va_A (wM y q F G) sz) := by
  refine q_start (Qc := (fun A => pQv D y (wM y q res G) A)) (cc := cX4_passes) (maxL := 4) (ret := none) (by decide) rfl (Nat.le_of_ble_eq_true rfl) ?_
  intro p e s m below meth c A ls hx hb hr hts hown hlocks hmn hml hP hK hZ hD hA hS hl
  have hl : lv_has ls 4 [(0, .ref (q 0)), (1, .int p1), (2, .int p2), (3, .int p3)] := hl
  have hown : s.vm.findClass RX4 = some m.cls := hown
  have B57 : ∀ (F : Nat → Nat → Int32) (G : Nat → Int64) (v1 : Int32) (v2 : Int32) (v3 : Int32) (H : Heap) (locs : List Loc) (ls : Array Slot), va_P D vwCl (wM y q F G) H → va_D A (wM y q F G) → va_S A s.heap H locs → lv_has ls 4 [(0, .ref (q 0)), (1, .int v1), (2, .int v2), (3, .int v3)] → f_X4_passes_B57 N F G v1 v2 v3 = some res → W p l e ({ frames := 4, cells := 0, slots := 0, locals := 88 } : Room) s m ([.ref (q 0), .int p1, .int p2, .int p3] : List Value).toArray below meth c H locs 0 0 (MQ below (pQv D y (wM y q res G) A) ([.ref (q 0), .int p1, .int p2, .int p3] : List Value).toArray s 0 0 A) (F0 m 57 ls []) := by
    intro F G v1 v2 v3 H locs ls hP hD hS hl h
    unfold f_X4_passes_B57 at h
    refine lv_aload_n hx hb dX4_passes_57 rfl (lv_at hl 0 rfl) ?_
    refine lv_iload_n hx hb dX4_passes_58 rfl (lv_at hl 1 rfl) ?_
    obtain ⟨r_7, hc_8, h⟩ := q_bd_ok h
    refine q_ci (r := r_7) (va_runV (As := [.int v1]) (rest := []) ⟨hx, hb, hml, hown, hts⟩ (c_X4_isOn l D y t q _ N F G v1 r_7 hc_8) (cwV 1 hts gX4_passes_X4_isOn rfl rfl rfl eX4_isOn ⟨Nat.le_of_ble_eq_true rfl, Nat.le_of_ble_eq_true rfl⟩) ⟨q_blind, (va_recv hK hP (ci := 4) (q0 := 0) rfl rfl), (q_pre hP hK hZ hD hA hS [0, 1, 2, 3, 4, 5, 6, 7, 8] rfl (by decide))⟩ rfl rfl hl.1 rfl (lv_room (Nat.le_of_ble_eq_true rfl)) dX4_passes_59 ⟨Nat.zero_le _, Nat.zero_le _⟩) hP hD hA hS [0, 1, 2, 3, 4, 5, 6, 7, 8] rfl (by decide) rfl (fun H locs hP hD hS => ?_)
    have hP : va_P D vwCl (wM y q F G) H := hP
    have hD : va_D A (wM y q F G) := hD
    refine lv_if_ne (tgt := 114) hx hb dX4_passes_62 (by decide) (fun c_9 => ?_) (fun c_9 => ?_)
    · have h := q_f c_9 h
      have e9 := Option.some.inj h
      exact q_vret hx hb hr hlocks hK hP hD hS dX4_passes_114 (by first | rw [← e9] | rfl)
    · have h := q_t c_9 h
      refine lv_iload_n hx hb dX4_passes_65 rfl (lv_at hl 3 rfl) ?_
      refine lv_iload_n hx hb dX4_passes_66 rfl (lv_at hl 1 rfl) ?_
      refine lv_ishr hx hb dX4_passes_67 ?_
      refine lv_iconst (v := 1) hx hb dX4_passes_68 (by decide) ?_
      refine lv_iand hx hb dX4_passes_69 ?_
      refine lv_if_ne (tgt := 114) hx hb dX4_passes_70 (by decide) (fun c_10 => ?_) (fun c_10 => ?_)
      · have h := q_f c_10 h
        have e9 := Option.some.inj h
        exact q_vret hx hb hr hlocks hK hP hD hS dX4_passes_114 (by first | rw [← e9] | rfl)
      · have h := q_t c_10 h
        refine lv_aload_n hx hb dX4_passes_73 rfl (lv_at hl 0 rfl) ?_
        refine lv_iload_n hx hb dX4_passes_74 rfl (lv_at hl 1 rfl) ?_
        refine lv_bipush (v := 6) hx hb dX4_passes_75 (by decide) ?_
        obtain ⟨r_11, hc_12, h⟩ := q_bd_ok h
        refine q_ci (r := r_11) (va_runV (As := [.int v1, .int (6 : Int32)]) (rest := []) ⟨hx, hb, hml, hown, hts⟩ (c_X4_it l D y t q _ N F G v1 (6 : Int32) r_11 hc_12) (cwV 2 hts gX4_passes_X4_it rfl rfl rfl eX4_it ⟨Nat.le_of_ble_eq_true rfl, Nat.le_of_ble_eq_true rfl⟩) ⟨q_blind, (va_recv hK hP (ci := 4) (q0 := 0) rfl rfl), (q_pre hP hK hZ hD hA hS [0, 1, 2, 3, 4, 5, 6, 7, 8] rfl (by decide))⟩ rfl rfl hl.1 rfl (lv_room (Nat.le_of_ble_eq_true rfl)) dX4_passes_77 ⟨Nat.zero_le _, Nat.zero_le _⟩) hP hD hA hS [0, 1, 2, 3, 4, 5, 6, 7, 8] rfl (by decide) rfl (fun H locs hP hD hS => ?_)
        have hP : va_P D vwCl (wM y q F G) H := hP
        have hD : va_D A (wM y q F G) := hD
        refine lv_if_ne (tgt := 114) hx hb dX4_passes_80 (by decide) (fun c_13 => ?_) (fun c_13 => ?_)
        · have h := q_f c_13 h
          have e9 := Option.some.inj h
          exact q_vret hx hb hr hlocks hK hP hD hS dX4_passes_114 (by first | rw [← e9] | rfl)
        · have h := q_t c_13 h
          refine lv_aload_n hx hb dX4_passes_83 rfl (lv_at hl 0 rfl) ?_
          refine lv_iload_n hx hb dX4_passes_84 rfl (lv_at hl 1 rfl) ?_
          refine lv_iconst (v := 1) hx hb dX4_passes_85 (by decide) ?_
          obtain ⟨r_14, hc_15, h⟩ := q_bd_ok h
          refine q_ci (r := r_14) (va_runV (As := [.int v1, .int (1 : Int32)]) (rest := []) ⟨hx, hb, hml, hown, hts⟩ (c_X4_it l D y t q _ N F G v1 (1 : Int32) r_14 hc_15) (cwV 2 hts gX4_passes_X4_it rfl rfl rfl eX4_it ⟨Nat.le_of_ble_eq_true rfl, Nat.le_of_ble_eq_true rfl⟩) ⟨q_blind, (va_recv hK hP (ci := 4) (q0 := 0) rfl rfl), (q_pre hP hK hZ hD hA hS [0, 1, 2, 3, 4, 5, 6, 7, 8] rfl (by decide))⟩ rfl rfl hl.1 rfl (lv_room (Nat.le_of_ble_eq_true rfl)) dX4_passes_86 ⟨Nat.zero_le _, Nat.zero_le _⟩) hP hD hA hS [0, 1, 2, 3, 4, 5, 6, 7, 8] rfl (by decide) rfl (fun H locs hP hD hS => ?_)
          have hP : va_P D vwCl (wM y q F G) H := hP
          have hD : va_D A (wM y q F G) := hD
          refine lv_iload_n hx hb dX4_passes_89 rfl (lv_at hl 2 rfl) ?_
          refine lv_icmp_ne (tgt := 114) hx hb dX4_passes_90 (by decide) (fun c_16 => ?_) (fun c_16 => ?_)
          · have h := q_f c_16 h
            have e9 := Option.some.inj h
            exact q_vret hx hb hr hlocks hK hP hD hS dX4_passes_114 (by first | rw [← e9] | rfl)
          · have h := q_t c_16 h
            refine lv_aload_n hx hb dX4_passes_93 rfl (lv_at hl 0 rfl) ?_
            refine lv_iload_n hx hb dX4_passes_94 rfl (lv_at hl 1 rfl) ?_
            obtain ⟨r_17, hc_18, h⟩ := q_bd_ok h
            refine q_ci (r := r_17) (va_runV (As := [.int v1]) (rest := []) ⟨hx, hb, hml, hown, hts⟩ (c_X4_getsOn l D y t q _ N F G v1 r_17 hc_18) (cwV 1 hts gX4_passes_X4_getsOn rfl rfl rfl eX4_getsOn ⟨Nat.le_of_ble_eq_true rfl, Nat.le_of_ble_eq_true rfl⟩) ⟨q_blind, (va_recv hK hP (ci := 4) (q0 := 0) rfl rfl), (q_pre hP hK hZ hD hA hS [0, 1, 2, 3, 4, 5, 6, 7, 8] rfl (by decide))⟩ rfl rfl hl.1 rfl (lv_room (Nat.le_of_ble_eq_true rfl)) dX4_passes_95 ⟨Nat.zero_le _, Nat.zero_le _⟩) hP hD hA hS [0, 1, 2, 3, 4, 5, 6, 7, 8] rfl (by decide) rfl (fun H locs hP hD hS => ?_)
            have hP : va_P D vwCl (wM y q F G) H := hP
            have hD : va_D A (wM y q F G) := hD
            refine lv_if_eq (tgt := 114) hx hb dX4_passes_98 (by decide) (fun c_19 => ?_) (fun c_19 => ?_)
            · have h := q_t c_19 h
              have e9 := Option.some.inj h
              exact q_vret hx hb hr hlocks hK hP hD hS dX4_passes_114 (by first | rw [← e9] | rfl)
            · have h := q_f c_19 h
              refine lv_aload_n hx hb dX4_passes_101 rfl (lv_at hl 0 rfl) ?_
              refine lv_iload_n hx hb dX4_passes_102 rfl (lv_at hl 1 rfl) ?_
              obtain ⟨r_20, hc_21, h⟩ := q_bd_ok h
              refine q_ci (r := r_20) (va_runV (As := [.int v1]) (rest := []) ⟨hx, hb, hml, hown, hts⟩ (c_X4_isBorne l D y t q _ N F G v1 r_20 hc_21) (cwV 1 hts gX4_passes_X4_isBorne rfl rfl rfl eX4_isBorne ⟨Nat.le_of_ble_eq_true rfl, Nat.le_of_ble_eq_true rfl⟩) ⟨q_blind, (va_recv hK hP (ci := 4) (q0 := 0) rfl rfl), (q_pre hP hK hZ hD hA hS [0, 1, 2, 3, 4, 5, 6, 7, 8] rfl (by decide))⟩ rfl rfl hl.1 rfl (lv_room (Nat.le_of_ble_eq_true rfl)) dX4_passes_103 ⟨Nat.zero_le _, Nat.zero_le _⟩) hP hD hA hS [0, 1, 2, 3, 4, 5, 6, 7, 8] rfl (by decide) rfl (fun H locs hP hD hS => ?_)
              have hP : va_P D vwCl (wM y q F G) H := hP
              have hD : va_D A (wM y q F G) := hD
              refine lv_if_eq (tgt := 114) hx hb dX4_passes_106 (by decide) (fun c_22 => ?_) (fun c_22 => ?_)
              · have h := q_t c_22 h
                have e9 := Option.some.inj h
                exact q_vret hx hb hr hlocks hK hP hD hS dX4_passes_114 (by first | rw [← e9] | rfl)
              · have h := q_f c_22 h
                refine lv_aload_n hx hb dX4_passes_109 rfl (lv_at hl 0 rfl) ?_
                refine lv_iload_n hx hb dX4_passes_110 rfl (lv_at hl 1 rfl) ?_
                obtain ⟨F_23, hc_24, h⟩ := q_bd_ok h
                refine q_cv (va_runV (As := [.int v1]) (rest := []) ⟨hx, hb, hml, hown, hts⟩ (c_X4_comesOn l D y t q _ N F G v1 F_23 hc_24) (cwV 1 hts gX4_passes_X4_comesOn rfl rfl rfl eX4_comesOn ⟨Nat.le_of_ble_eq_true rfl, Nat.le_of_ble_eq_true rfl⟩) ⟨q_blind, (va_recv hK hP (ci := 4) (q0 := 0) rfl rfl), (q_pre hP hK hZ hD hA hS [0, 1, 2, 3, 4, 5, 6, 7, 8] rfl (by decide))⟩ rfl rfl hl.1 rfl (lv_room (Nat.le_of_ble_eq_true rfl)) dX4_passes_111 ⟨Nat.zero_le _, Nat.zero_le _⟩) hP hD hA hS [0, 1, 2, 3, 4, 5, 6, 7, 8] rfl (by decide) rfl (fun H locs hP hD hS => ?_)
                have hP : va_P D vwCl (wM y q F_23 G) H := hP
                have hD : va_D A (wM y q F_23 G) := hD
                have e9 := Option.some.inj h
                exact q_vret hx hb hr hlocks hK hP hD hS dX4_passes_114 (by first | rw [← e9] | rfl)
  have B26 : ∀ (F : Nat → Nat → Int32) (G : Nat → Int64) (v1 : Int32) (v2 : Int32) (v3 : Int32) (H : Heap) (locs : List Loc) (ls : Array Slot), va_P D vwCl (wM y q F G) H → va_D A (wM y q F G) → va_S A s.heap H locs → lv_has ls 4 [(0, .ref (q 0)), (1, .int v1), (2, .int v2), (3, .int v3)] → f_X4_passes_B26 N F G v1 v2 v3 = some res → W p l e ({ frames := 4, cells := 0, slots := 0, locals := 88 } : Room) s m ([.ref (q 0), .int p1, .int p2, .int p3] : List Value).toArray below meth c H locs 0 0 (MQ below (pQv D y (wM y q res G) A) ([.ref (q 0), .int p1, .int p2, .int p3] : List Value).toArray s 0 0 A) (F0 m 26 ls []) := by
    intro F G v1 v2 v3 H locs ls hP hD hS hl h
    unfold f_X4_passes_B26 at h
    refine lv_aload_n hx hb dX4_passes_26 rfl (lv_at hl 0 rfl) ?_
    refine lv_iload_n hx hb dX4_passes_27 rfl (lv_at hl 1 rfl) ?_
    obtain ⟨r_4, hc_5, h⟩ := q_bd_ok h
    refine q_ci (r := r_4) (va_runV (As := [.int v1]) (rest := []) ⟨hx, hb, hml, hown, hts⟩ (c_X4_isOn l D y t q _ N F G v1 r_4 hc_5) (cwV 1 hts gX4_passes_X4_isOn rfl rfl rfl eX4_isOn ⟨Nat.le_of_ble_eq_true rfl, Nat.le_of_ble_eq_true rfl⟩) ⟨q_blind, (va_recv hK hP (ci := 4) (q0 := 0) rfl rfl), (q_pre hP hK hZ hD hA hS [0, 1, 2, 3, 4, 5, 6, 7, 8] rfl (by decide))⟩ rfl rfl hl.1 rfl (lv_room (Nat.le_of_ble_eq_true rfl)) dX4_passes_28 ⟨Nat.zero_le _, Nat.zero_le _⟩) hP hD hA hS [0, 1, 2, 3, 4, 5, 6, 7, 8] rfl (by decide) rfl (fun H locs hP hD hS => ?_)
    have hP : va_P D vwCl (wM y q F G) H := hP
    have hD : va_D A (wM y q F G) := hD
    refine lv_if_eq (tgt := 57) hx hb dX4_passes_31 (by decide) (fun c_6 => ?_) (fun c_6 => ?_)
    · have h := q_t c_6 h
      exact B57 F G v1 v2 v3 _ _ _ hP hD hS (lv_sub hl [0, 1, 2, 3] rfl) h
    · have h := q_f c_6 h
      refine lv_iload_n hx hb dX4_passes_34 rfl (lv_at hl 2 rfl) ?_
      refine lv_bipush (v := 58) hx hb dX4_passes_35 (by decide) ?_
      refine lv_icmp_ne (tgt := 57) hx hb dX4_passes_37 (by decide) (fun c_25 => ?_) (fun c_25 => ?_)
      · have h := q_f c_25 h
        exact B57 F G v1 v2 v3 _ _ _ hP hD hS (lv_sub hl [0, 1, 2, 3] rfl) h
      · have h := q_t c_25 h
        refine lv_aload_n hx hb dX4_passes_40 rfl (lv_at hl 0 rfl) ?_
        refine lv_iload_n hx hb dX4_passes_41 rfl (lv_at hl 1 rfl) ?_
        refine lv_iload_n hx hb dX4_passes_42 rfl (lv_at hl 2 rfl) ?_
        obtain ⟨F_26, hc_27, h⟩ := q_bd_ok h
        refine q_cv (va_runV (As := [.int v1, .int v2]) (rest := []) ⟨hx, hb, hml, hown, hts⟩ (c_X4_goesOff l D y t q _ N F G v1 v2 F_26 hc_27) (cwV 2 hts gX4_passes_X4_goesOff rfl rfl rfl eX4_goesOff ⟨Nat.le_of_ble_eq_true rfl, Nat.le_of_ble_eq_true rfl⟩) ⟨q_blind, (va_recv hK hP (ci := 4) (q0 := 0) rfl rfl), (q_pre hP hK hZ hD hA hS [0, 1, 2, 3, 4, 5, 6, 7, 8] rfl (by decide))⟩ rfl rfl hl.1 rfl (lv_room (Nat.le_of_ble_eq_true rfl)) dX4_passes_43 ⟨Nat.zero_le _, Nat.zero_le _⟩) hP hD hA hS [0, 1, 2, 3, 4, 5, 6, 7, 8] rfl (by decide) rfl (fun H locs hP hD hS => ?_)
        have hP : va_P D vwCl (wM y q F_26 G) H := hP
        have hD : va_D A (wM y q F_26 G) := hD
        refine lv_aload_n hx hb dX4_passes_46 rfl (lv_at hl 0 rfl) ?_
        refine lv_iload_n hx hb dX4_passes_47 rfl (lv_at hl 1 rfl) ?_
        refine lv_bipush (v := 6) hx hb dX4_passes_48 (by decide) ?_
        refine lv_iconst (v := 1) hx hb dX4_passes_50 (by decide) ?_
        obtain ⟨F_28, hc_29, h⟩ := q_bd_ok h
        refine q_cv (va_runV (As := [.int v1, .int (6 : Int32), .int (1 : Int32)]) (rest := []) ⟨hx, hb, hml, hown, hts⟩ (c_X4_put l D y t q _ N F_26 G v1 (6 : Int32) (1 : Int32) F_28 hc_29) (cwV 3 hts gX4_passes_X4_put rfl rfl rfl eX4_put ⟨Nat.le_of_ble_eq_true rfl, Nat.le_of_ble_eq_true rfl⟩) ⟨q_blind, (va_recv hK hP (ci := 4) (q0 := 0) rfl rfl), (q_pre hP hK hZ hD hA hS [0, 1, 2, 3, 4, 5, 6, 7, 8] rfl (by decide))⟩ rfl rfl hl.1 rfl (lv_room (Nat.le_of_ble_eq_true rfl)) dX4_passes_51 ⟨Nat.zero_le _, Nat.zero_le _⟩) hP hD hA hS [0, 1, 2, 3, 4, 5, 6, 7, 8] rfl (by decide) rfl (fun H locs hP hD hS => ?_)
        have hP : va_P D vwCl (wM y q F_28 G) H := hP
        have hD : va_D A (wM y q F_28 G) := hD
        refine lv_goto (tgt := 114) hx hb dX4_passes_54 (by decide) ?_
        have e9 := Option.some.inj h
        exact q_vret hx hb hr hlocks hK hP hD hS dX4_passes_114 (by first | rw [← e9] | rfl)
  unfold f_X4_passes at h
  refine lv_aload_n hx hb dX4_passes_0 rfl (lv_at hl 0 rfl) ?_
  refine lv_iload_n hx hb dX4_passes_1 rfl (lv_at hl 1 rfl) ?_
  obtain ⟨r_1, hc_2, h⟩ := q_bd_ok h
  refine q_ci (r := r_1) (va_runV (As := [.int p1]) (rest := []) ⟨hx, hb, hml, hown, hts⟩ (c_X4_isOn l D y t q _ N F G p1 r_1 hc_2) (cwV 1 hts gX4_passes_X4_isOn rfl rfl rfl eX4_isOn ⟨Nat.le_of_ble_eq_true rfl, Nat.le_of_ble_eq_true rfl⟩) ⟨q_blind, (va_recv hK hP (ci := 4) (q0 := 0) rfl rfl), (q_pre hP hK hZ hD hA hS [0, 1, 2, 3, 4, 5, 6, 7, 8] rfl (by decide))⟩ rfl rfl hl.1 rfl (lv_room (Nat.le_of_ble_eq_true rfl)) dX4_passes_2 ⟨Nat.zero_le _, Nat.zero_le _⟩) hP hD hA hS [0, 1, 2, 3, 4, 5, 6, 7, 8] rfl (by decide) rfl (fun H locs hP hD hS => ?_)
  have hP : va_P D vwCl (wM y q F G) H := hP
  have hD : va_D A (wM y q F G) := hD
  refine lv_if_eq (tgt := 26) hx hb dX4_passes_5 (by decide) (fun c_3 => ?_) (fun c_3 => ?_)
  · have h := q_t c_3 h
    exact B26 F G p1 p2 p3 _ _ _ hP hD hS (lv_sub hl [0, 1, 2, 3] rfl) h
  · have h := q_f c_3 h
    refine lv_aload_n hx hb dX4_passes_8 rfl (lv_at hl 0 rfl) ?_
    refine lv_iload_n hx hb dX4_passes_9 rfl (lv_at hl 1 rfl) ?_
    refine lv_iload_n hx hb dX4_passes_10 rfl (lv_at hl 2 rfl) ?_
    obtain ⟨r_30, hc_31, h⟩ := q_bd_ok h
    refine q_ci (r := r_30) (va_runV (As := [.int p1, .int p2]) (rest := []) ⟨hx, hb, hml, hown, hts⟩ (c_X4_getsOff l D y t q _ N F G p1 p2 r_30 hc_31) (cwV 2 hts gX4_passes_X4_getsOff rfl rfl rfl eX4_getsOff ⟨Nat.le_of_ble_eq_true rfl, Nat.le_of_ble_eq_true rfl⟩) ⟨q_blind, (va_recv hK hP (ci := 4) (q0 := 0) rfl rfl), (q_pre hP hK hZ hD hA hS [0, 1, 2, 3, 4, 5, 6, 7, 8] rfl (by decide))⟩ rfl rfl hl.1 rfl (lv_room (Nat.le_of_ble_eq_true rfl)) dX4_passes_11 ⟨Nat.zero_le _, Nat.zero_le _⟩) hP hD hA hS [0, 1, 2, 3, 4, 5, 6, 7, 8] rfl (by decide) rfl (fun H locs hP hD hS => ?_)
    have hP : va_P D vwCl (wM y q F G) H := hP
    have hD : va_D A (wM y q F G) := hD
    refine lv_if_eq (tgt := 26) hx hb dX4_passes_14 (by decide) (fun c_32 => ?_) (fun c_32 => ?_)
    · have h := q_t c_32 h
      exact B26 F G p1 p2 p3 _ _ _ hP hD hS (lv_sub hl [0, 1, 2, 3] rfl) h
    · have h := q_f c_32 h
      refine lv_aload_n hx hb dX4_passes_17 rfl (lv_at hl 0 rfl) ?_
      refine lv_iload_n hx hb dX4_passes_18 rfl (lv_at hl 1 rfl) ?_
      refine lv_iload_n hx hb dX4_passes_19 rfl (lv_at hl 2 rfl) ?_
      obtain ⟨F_33, hc_34, h⟩ := q_bd_ok h
      refine q_cv (va_runV (As := [.int p1, .int p2]) (rest := []) ⟨hx, hb, hml, hown, hts⟩ (c_X4_goesOff l D y t q _ N F G p1 p2 F_33 hc_34) (cwV 2 hts gX4_passes_X4_goesOff rfl rfl rfl eX4_goesOff ⟨Nat.le_of_ble_eq_true rfl, Nat.le_of_ble_eq_true rfl⟩) ⟨q_blind, (va_recv hK hP (ci := 4) (q0 := 0) rfl rfl), (q_pre hP hK hZ hD hA hS [0, 1, 2, 3, 4, 5, 6, 7, 8] rfl (by decide))⟩ rfl rfl hl.1 rfl (lv_room (Nat.le_of_ble_eq_true rfl)) dX4_passes_20 ⟨Nat.zero_le _, Nat.zero_le _⟩) hP hD hA hS [0, 1, 2, 3, 4, 5, 6, 7, 8] rfl (by decide) rfl (fun H locs hP hD hS => ?_)
      have hP : va_P D vwCl (wM y q F_33 G) H := hP
      have hD : va_D A (wM y q F_33 G) := hD
      refine lv_goto (tgt := 114) hx hb dX4_passes_23 (by decide) ?_
      have e9 := Option.some.inj h
      exact q_vret hx hb hr hlocks hK hP hD hS dX4_passes_114 (by first | rw [← e9] | rfl)
theorem eX4_passes : yX4_passes.cls = RX4 ∧ yX4_passes.cls ≠ "java/lang/invoke/MethodHandle" ∧ yX4_passes.cls ≠ "java/lang/invoke/VarHandle" ∧ (parseMethodDescriptor yX4_passes.desc).map (fun d => d.parameters.length) = some 3 := by decide +kernel
theorem uX4_allDry_X4 : ∀ w ∈ u_ws RX4 TX4 15, w ∈ wsX4_allDry := by decide +kernel
theorem kX4_allDry_1 : Cond.fieldLink RX4 9 "BeamSeatsModel" "m" "[I" ∈ wsX4_allDry := List.mem_of_getElem? (i := 1) (by decide +kernel)
def f_X4_allDry_L2 (N : Nat) (G : Nat → Int64) : Nat → Int32 → (Nat → Nat → Int32) → Option (Int32 × (Nat → Nat → Int32))
  | 0, _, _ => none
  | k + 1, v1, F =>
    q_grd (4 : Int32) 69 (
    if (F 1 (4 : Int32).toNatClampNeg) ≤ v1 then
      some (v1, F)
    else
      q_bd (f_X4_isOn N F G v1) (fun r_6 =>
      if r_6 = 0 then
        q_let (v1 + 1) (fun x_9 =>
        f_X4_allDry_L2 N G k x_9 F)
      else
        q_bd (f_X4_it N F G v1 (4 : Int32)) (fun r_10 =>
        q_bd (f_X4_dries N F G v1) (fun r_12 =>
        q_bd (f_X4_held N (r_10 - r_12) (0 : Int32) (99 : Int32)) (fun r_14 =>
        q_bd (f_X4_put N F G v1 (4 : Int32) r_14) (fun F_16 =>
        q_grd (1 : Int32) 69 (
        q_bd (f_X4_put N F_16 G v1 (1 : Int32) (F_16 1 (1 : Int32).toNatClampNeg)) (fun F_19 =>
        q_let (v1 + 1) (fun x_21 =>
        f_X4_allDry_L2 N G k x_21 F_19)))))))))
def f_X4_allDry (N : Nat) (F : Nat → Nat → Int32) (G : Nat → Int64) : Option ((Nat → Nat → Int32)) :=
  q_bd2 (f_X4_allDry_L2 N G N (0 : Int32) F) (fun x_2 F_3 =>
  some F_3)
set_option maxHeartbeats 4000000 in
set_option maxRecDepth 100000 in
theorem c_X4_allDry (l : Launch) (D : va_G) (y : Nat → ClassId) (t : Nat → Nat) (q : Nat → Nat) (sz N : Nat) (F : Nat → Nat → Int32) (G : Nat → Int64) (res : (Nat → Nat → Int32)) (h : f_X4_allDry N F G = some res) : Met l yX4_allDry wsX4_allDry ({ frames := 2, cells := 0, slots := 0, locals := 44 } : Room) (pPre D y t [.ref (q 0)] (wM y q F G) sz) (pQv D y (wM y q res G) (va_A (wM y q F G) sz)) 0 0 (va_A (wM y q F G) sz) := by
  refine q_start (Qc := (fun A => pQv D y (wM y q res G) A)) (cc := cX4_allDry) (maxL := 2) (ret := none) (by decide) rfl (Nat.le_of_ble_eq_true rfl) ?_
  intro p e s m below meth c A ls hx hb hr hts hown hlocks hmn hml hP hK hZ hD hA hS hl
  have hl : lv_has ls 2 [(0, .ref (q 0))] := hl
  have hown : s.vm.findClass RX4 = some m.cls := hown
  unfold f_X4_allDry at h
  refine lv_iconst (v := 0) hx hb dX4_allDry_0 (by decide) ?_
  refine lv_istore_n (lv' := [(1, .int (0 : Int32)), (0, .ref (q 0))]) hx hb dX4_allDry_1 rfl hl (by decide) rfl (fun ls hl => ?_)
  obtain ⟨x_2, F_3, hL1, h⟩ := q_bd2_ok h
  have K2_1 : ∀ (H : Heap) (locs : List Loc) (ls : Array Slot), va_P D vwCl (wM y q F_3 G) H → va_D A (wM y q F_3 G) → va_S A s.heap H locs → lv_has ls 2 [(0, .ref (q 0)), (1, .int x_2)] → W p l e ({ frames := 2, cells := 0, slots := 0, locals := 44 } : Room) s m ([.ref (q 0)] : List Value).toArray below meth c H locs 0 0 (MQ below (pQv D y (wM y q res G) A) ([.ref (q 0)] : List Value).toArray s 0 0 A) (F0 m 62 ls []) := by
    intro H locs ls hP hD hS hl
    have e9 := Option.some.inj h
    exact q_vret hx hb hr hlocks hK hP hD hS dX4_allDry_62 (by first | rw [← e9] | rfl)
  have L2_1 : ∀ (G : Nat → Int64) (k : Nat) (v1 : Int32) (F : Nat → Nat → Int32), (∀ (H : Heap) (locs : List Loc) (ls : Array Slot), va_P D vwCl (wM y q F_3 G) H → va_D A (wM y q F_3 G) → va_S A s.heap H locs → lv_has ls 2 [(0, .ref (q 0)), (1, .int x_2)] → W p l e ({ frames := 2, cells := 0, slots := 0, locals := 44 } : Room) s m ([.ref (q 0)] : List Value).toArray below meth c H locs 0 0 (MQ below (pQv D y (wM y q res G) A) ([.ref (q 0)] : List Value).toArray s 0 0 A) (F0 m 62 ls [])) → ∀ (H : Heap) (locs : List Loc) (ls : Array Slot), va_P D vwCl (wM y q F G) H → va_D A (wM y q F G) → va_S A s.heap H locs → lv_has ls 2 [(0, .ref (q 0)), (1, .int v1)] → f_X4_allDry_L2 N G k v1 F = some (x_2, F_3) → W p l e ({ frames := 2, cells := 0, slots := 0, locals := 44 } : Room) s m ([.ref (q 0)] : List Value).toArray below meth c H locs 0 0 (MQ below (pQv D y (wM y q res G) A) ([.ref (q 0)] : List Value).toArray s 0 0 A) (F0 m 2 ls []) := by
    intro G k
    induction k with
    | zero =>
      intro v1 F K2_1 H locs ls hP hD hS hl h
      have h : (none : Option (Int32 × (Nat → Nat → Int32))) = some _ := h
      cases h
    | succ k ih2_1 =>
      intro v1 F K2_1 H locs ls hP hD hS hl h
      rw [f_X4_allDry_L2] at h
      refine lv_iload_n hx hb dX4_allDry_2 rfl (lv_at hl 1 rfl) ?_
      refine lv_aload_n hx hb dX4_allDry_3 rfl (lv_at hl 0 rfl) ?_
      refine va_get (D := D) (ci := 4) (v := .ref (q 1)) (C := RX4) (T := TX4) (N := 15) hx hb hts uX4_allDry_X4 hown hK hP 0 rfl rfl 0 (by decide) (hts _ kX4_allDry_1) (fun _ h9 => h9) rfl dX4_allDry_4 ?_
      refine lv_iconst (v := 4) hx hb dX4_allDry_7 (by decide) ?_
      obtain ⟨z_4, h⟩ := q_grd_ok h
      refine va_iald hx hb hK hP 1 0 rfl rfl z_4 dX4_allDry_8 ?_
      refine lv_icmp_ge (tgt := 62) hx hb dX4_allDry_9 (by decide) (fun c_5 => ?_) (fun c_5 => ?_)
      · have h := q_t c_5 h
        cases h
        exact K2_1 _ _ _ hP hD hS (lv_sub hl [0, 1] rfl)
      · have h := q_f c_5 h
        refine lv_aload_n hx hb dX4_allDry_12 rfl (lv_at hl 0 rfl) ?_
        refine lv_iload_n hx hb dX4_allDry_13 rfl (lv_at hl 1 rfl) ?_
        obtain ⟨r_6, hc_7, h⟩ := q_bd_ok h
        refine q_ci (r := r_6) (va_runV (As := [.int v1]) (rest := []) ⟨hx, hb, hml, hown, hts⟩ (c_X4_isOn l D y t q _ N F G v1 r_6 hc_7) (cwV 1 hts gX4_allDry_X4_isOn rfl rfl rfl eX4_isOn ⟨Nat.le_of_ble_eq_true rfl, Nat.le_of_ble_eq_true rfl⟩) ⟨q_blind, (va_recv hK hP (ci := 4) (q0 := 0) rfl rfl), (q_pre hP hK hZ hD hA hS [0, 1, 2, 3, 4, 5, 6, 7, 8] rfl (by decide))⟩ rfl rfl hl.1 rfl (lv_room (Nat.le_of_ble_eq_true rfl)) dX4_allDry_14 ⟨Nat.zero_le _, Nat.zero_le _⟩) hP hD hA hS [0, 1, 2, 3, 4, 5, 6, 7, 8] rfl (by decide) rfl (fun H locs hP hD hS => ?_)
        have hP : va_P D vwCl (wM y q F G) H := hP
        have hD : va_D A (wM y q F G) := hD
        refine lv_if_eq (tgt := 56) hx hb dX4_allDry_17 (by decide) (fun c_8 => ?_) (fun c_8 => ?_)
        · have h := q_t c_8 h
          obtain ⟨x_9, ex_9, h⟩ := q_let_ok h
          refine lv_iinc (v := x_9) (lv' := [(1, .int x_9), (0, .ref (q 0))]) hx hb dX4_allDry_56 hl (k := 1) rfl (by rw [ex_9]; rfl) (by decide) rfl (fun ls hl => ?_)
          refine lv_goto (tgt := 2) hx hb dX4_allDry_59 (by decide) ?_
          exact ih2_1 x_9 F K2_1 _ _ _ hP hD hS (lv_sub hl [1, 0] rfl) h
        · have h := q_f c_8 h
          refine lv_aload_n hx hb dX4_allDry_20 rfl (lv_at hl 0 rfl) ?_
          refine lv_iload_n hx hb dX4_allDry_21 rfl (lv_at hl 1 rfl) ?_
          refine lv_iconst (v := 4) hx hb dX4_allDry_22 (by decide) ?_
          refine lv_aload_n hx hb dX4_allDry_23 rfl (lv_at hl 0 rfl) ?_
          refine lv_iload_n hx hb dX4_allDry_24 rfl (lv_at hl 1 rfl) ?_
          refine lv_iconst (v := 4) hx hb dX4_allDry_25 (by decide) ?_
          obtain ⟨r_10, hc_11, h⟩ := q_bd_ok h
          refine q_ci (r := r_10) (va_runV (As := [.int v1, .int (4 : Int32)]) (rest := [.int (4 : Int32), .int v1, .ref (q 0)]) ⟨hx, hb, hml, hown, hts⟩ (c_X4_it l D y t q _ N F G v1 (4 : Int32) r_10 hc_11) (cwV 2 hts gX4_allDry_X4_it rfl rfl rfl eX4_it ⟨Nat.le_of_ble_eq_true rfl, Nat.le_of_ble_eq_true rfl⟩) ⟨q_blind, (va_recv hK hP (ci := 4) (q0 := 0) rfl rfl), (q_pre hP hK hZ hD hA hS [0, 1, 2, 3, 4, 5, 6, 7, 8] rfl (by decide))⟩ rfl rfl hl.1 rfl (lv_room (Nat.le_of_ble_eq_true rfl)) dX4_allDry_26 ⟨Nat.zero_le _, Nat.zero_le _⟩) hP hD hA hS [0, 1, 2, 3, 4, 5, 6, 7, 8] rfl (by decide) rfl (fun H locs hP hD hS => ?_)
          have hP : va_P D vwCl (wM y q F G) H := hP
          have hD : va_D A (wM y q F G) := hD
          refine lv_aload_n hx hb dX4_allDry_29 rfl (lv_at hl 0 rfl) ?_
          refine lv_iload_n hx hb dX4_allDry_30 rfl (lv_at hl 1 rfl) ?_
          obtain ⟨r_12, hc_13, h⟩ := q_bd_ok h
          refine q_ci (r := r_12) (va_runV (As := [.int v1]) (rest := [.int r_10, .int (4 : Int32), .int v1, .ref (q 0)]) ⟨hx, hb, hml, hown, hts⟩ (c_X4_dries l D y t q _ N F G v1 r_12 hc_13) (cwV 1 hts gX4_allDry_X4_dries rfl rfl rfl eX4_dries ⟨Nat.le_of_ble_eq_true rfl, Nat.le_of_ble_eq_true rfl⟩) ⟨q_blind, (va_recv hK hP (ci := 4) (q0 := 0) rfl rfl), (q_pre hP hK hZ hD hA hS [0, 1, 2, 3, 4, 5, 6, 7, 8] rfl (by decide))⟩ rfl rfl hl.1 rfl (lv_room (Nat.le_of_ble_eq_true rfl)) dX4_allDry_31 ⟨Nat.zero_le _, Nat.zero_le _⟩) hP hD hA hS [0, 1, 2, 3, 4, 5, 6, 7, 8] rfl (by decide) rfl (fun H locs hP hD hS => ?_)
          have hP : va_P D vwCl (wM y q F G) H := hP
          have hD : va_D A (wM y q F G) := hD
          refine lv_isub hx hb dX4_allDry_34 ?_
          refine lv_iconst (v := 0) hx hb dX4_allDry_35 (by decide) ?_
          refine lv_bipush (v := 99) hx hb dX4_allDry_36 (by decide) ?_
          obtain ⟨r_14, hc_15, h⟩ := q_bd_ok h
          refine q_ci (r := r_14) (va_runS (As := [.int (r_10 - r_12), .int (0 : Int32), .int (99 : Int32)]) (rest := [.int (4 : Int32), .int v1, .ref (q 0)]) ⟨hx, hb, hml, hown, hts⟩ (c_X4_held l D y t q _ N (r_10 - r_12) (0 : Int32) (99 : Int32) r_14 hc_15) (va_cwS 3 hts gX4_allDry_X4_held rfl rfl rfl eX4_held ⟨Nat.le_of_ble_eq_true rfl, Nat.le_of_ble_eq_true rfl⟩) ⟨q_blind, (q_pre hP hK hZ hD hA hS [] rfl (by decide))⟩ rfl rfl hl.1 rfl (lv_room (Nat.le_of_ble_eq_true rfl)) dX4_allDry_38 ⟨Nat.zero_le _, Nat.zero_le _⟩) hP hD hA hS [] rfl (by decide) rfl (fun H locs hP hD hS => ?_)
          have hP : va_P D vwCl (wM y q F G) H := hP
          have hD : va_D A (wM y q F G) := hD
          obtain ⟨F_16, hc_17, h⟩ := q_bd_ok h
          refine q_cv (va_runV (As := [.int v1, .int (4 : Int32), .int r_14]) (rest := []) ⟨hx, hb, hml, hown, hts⟩ (c_X4_put l D y t q _ N F G v1 (4 : Int32) r_14 F_16 hc_17) (cwV 3 hts gX4_allDry_X4_put rfl rfl rfl eX4_put ⟨Nat.le_of_ble_eq_true rfl, Nat.le_of_ble_eq_true rfl⟩) ⟨q_blind, (va_recv hK hP (ci := 4) (q0 := 0) rfl rfl), (q_pre hP hK hZ hD hA hS [0, 1, 2, 3, 4, 5, 6, 7, 8] rfl (by decide))⟩ rfl rfl hl.1 rfl (lv_room (Nat.le_of_ble_eq_true rfl)) dX4_allDry_41 ⟨Nat.zero_le _, Nat.zero_le _⟩) hP hD hA hS [0, 1, 2, 3, 4, 5, 6, 7, 8] rfl (by decide) rfl (fun H locs hP hD hS => ?_)
          have hP : va_P D vwCl (wM y q F_16 G) H := hP
          have hD : va_D A (wM y q F_16 G) := hD
          refine lv_aload_n hx hb dX4_allDry_44 rfl (lv_at hl 0 rfl) ?_
          refine lv_iload_n hx hb dX4_allDry_45 rfl (lv_at hl 1 rfl) ?_
          refine lv_iconst (v := 1) hx hb dX4_allDry_46 (by decide) ?_
          refine lv_aload_n hx hb dX4_allDry_47 rfl (lv_at hl 0 rfl) ?_
          refine va_get (D := D) (ci := 4) (v := .ref (q 1)) (C := RX4) (T := TX4) (N := 15) hx hb hts uX4_allDry_X4 hown hK hP 0 rfl rfl 0 (by decide) (hts _ kX4_allDry_1) (fun _ h9 => h9) rfl dX4_allDry_48 ?_
          refine lv_iconst (v := 1) hx hb dX4_allDry_51 (by decide) ?_
          obtain ⟨z_18, h⟩ := q_grd_ok h
          refine va_iald hx hb hK hP 1 0 rfl rfl z_18 dX4_allDry_52 ?_
          obtain ⟨F_19, hc_20, h⟩ := q_bd_ok h
          refine q_cv (va_runV (As := [.int v1, .int (1 : Int32), .int (F_16 1 (1 : Int32).toNatClampNeg)]) (rest := []) ⟨hx, hb, hml, hown, hts⟩ (c_X4_put l D y t q _ N F_16 G v1 (1 : Int32) (F_16 1 (1 : Int32).toNatClampNeg) F_19 hc_20) (cwV 3 hts gX4_allDry_X4_put rfl rfl rfl eX4_put ⟨Nat.le_of_ble_eq_true rfl, Nat.le_of_ble_eq_true rfl⟩) ⟨q_blind, (va_recv hK hP (ci := 4) (q0 := 0) rfl rfl), (q_pre hP hK hZ hD hA hS [0, 1, 2, 3, 4, 5, 6, 7, 8] rfl (by decide))⟩ rfl rfl hl.1 rfl (lv_room (Nat.le_of_ble_eq_true rfl)) dX4_allDry_53 ⟨Nat.zero_le _, Nat.zero_le _⟩) hP hD hA hS [0, 1, 2, 3, 4, 5, 6, 7, 8] rfl (by decide) rfl (fun H locs hP hD hS => ?_)
          have hP : va_P D vwCl (wM y q F_19 G) H := hP
          have hD : va_D A (wM y q F_19 G) := hD
          obtain ⟨x_21, ex_21, h⟩ := q_let_ok h
          refine lv_iinc (v := x_21) (lv' := [(1, .int x_21), (0, .ref (q 0))]) hx hb dX4_allDry_56 hl (k := 1) rfl (by rw [ex_21]; rfl) (by decide) rfl (fun ls hl => ?_)
          refine lv_goto (tgt := 2) hx hb dX4_allDry_59 (by decide) ?_
          exact ih2_1 x_21 F_19 K2_1 _ _ _ hP hD hS (lv_sub hl [1, 0] rfl) h
  exact L2_1 G N (0 : Int32) F K2_1 _ _ _ hP hD hS (lv_sub hl [1, 0] rfl) hL1
theorem eX4_allDry : yX4_allDry.cls = RX4 ∧ yX4_allDry.cls ≠ "java/lang/invoke/MethodHandle" ∧ yX4_allDry.cls ≠ "java/lang/invoke/VarHandle" ∧ (parseMethodDescriptor yX4_allDry.desc).map (fun d => d.parameters.length) = some 0 := by decide +kernel
theorem uX4_goes_X4 : ∀ w ∈ u_ws RX4 TX4 15, w ∈ wsX4_goes := by decide +kernel
theorem kX4_goes_1 : Cond.fieldLink RX4 9 "BeamSeatsModel" "m" "[I" ∈ wsX4_goes := List.mem_of_getElem? (i := 1) (by decide +kernel)
def f_X4_goes_L37 (N : Nat) (G : Nat → Int64) (v1 : Int32) (v2 : Int32) : Nat → Int32 → (Nat → Nat → Int32) → Option (Int32 × (Nat → Nat → Int32))
  | 0, _, _ => none
  | k + 1, v3, F =>
    q_grd (4 : Int32) 69 (
    if (F 1 (4 : Int32).toNatClampNeg) ≤ v3 then
      some (v3, F)
    else
      q_grd (1 : Int32) 69 (
      q_bd (f_X4_passes N F G v3 (F 1 (1 : Int32).toNatClampNeg) v1) (fun F_17 =>
      q_let (v3 + 1) (fun x_19 =>
      f_X4_goes_L37 N G v1 v2 k x_19 F_17))))
def f_X4_goes_L8 (N : Nat) (G : Nat → Int64) (v1 : Int32) : Nat → Int32 → (Nat → Nat → Int32) → Option (Int32 × (Nat → Nat → Int32))
  | 0, _, _ => none
  | k + 1, v2, F =>
    q_grd (2 : Int32) 69 (
    if (F 1 (2 : Int32).toNatClampNeg) ≤ v2 then
      some (v2, F)
    else
      q_grd (1 : Int32) 69 (
      q_grd (1 : Int32) 69 (
      q_let (q_up F 1 (1 : Int32).toNatClampNeg (((F 1 (1 : Int32).toNatClampNeg) + (1 : Int32)) - ((F 1 (1 : Int32).toNatClampNeg) + (1 : Int32)) / (60 : Int32) * (60 : Int32))) (fun F_10 =>
      q_bd2 (f_X4_goes_L37 N G v1 v2 N (0 : Int32) F_10) (fun x_12 F_13 =>
      q_let (v2 + 1) (fun x_20 =>
      f_X4_goes_L8 N G v1 k x_20 F_13))))))
def f_X4_goes (N : Nat) (F : Nat → Nat → Int32) (G : Nat → Int64) : Option ((Nat → Nat → Int32)) :=
  q_bd (f_X4_setOf N F G (3 : Int32)) (fun r_1 =>
  q_bd2 (f_X4_goes_L8 N G r_1 N (0 : Int32) F) (fun x_4 F_5 =>
  q_bd (f_X4_allDry N F_5 G) (fun F_21 =>
  q_grd (0 : Int32) 69 (
  q_grd (0 : Int32) 69 (
  q_let (q_up F_21 1 (0 : Int32).toNatClampNeg ((F_21 1 (0 : Int32).toNatClampNeg) + (1 : Int32))) (fun F_25 =>
  some F_25))))))
set_option maxHeartbeats 4000000 in
set_option maxRecDepth 100000 in
theorem c_X4_goes (l : Launch) (D : va_G) (y : Nat → ClassId) (t : Nat → Nat) (q : Nat → Nat) (sz N : Nat) (F : Nat → Nat → Int32) (G : Nat → Int64) (res : (Nat → Nat → Int32)) (h : f_X4_goes N F G = some res) : Met l yX4_goes wsX4_goes ({ frames := 5, cells := 0, slots := 0, locals := 111 } : Room) (pPre D y t [.ref (q 0)] (wM y q F G) sz) (pQv D y (wM y q res G) (va_A (wM y q F G) sz)) 0 0 (va_A (wM y q F G) sz) := by
  refine q_start (Qc := (fun A => pQv D y (wM y q res G) A)) (cc := cX4_goes) (maxL := 4) (ret := none) (by decide) rfl (Nat.le_of_ble_eq_true rfl) ?_
  intro p e s m below meth c A ls hx hb hr hts hown hlocks hmn hml hP hK hZ hD hA hS hl
  have hl : lv_has ls 4 [(0, .ref (q 0))] := hl
  have hown : s.vm.findClass RX4 = some m.cls := hown
  unfold f_X4_goes at h
  refine lv_aload_n hx hb dX4_goes_0 rfl (lv_at hl 0 rfl) ?_
  refine lv_iconst (v := 3) hx hb dX4_goes_1 (by decide) ?_
  obtain ⟨r_1, hc_2, h⟩ := q_bd_ok h
  refine q_ci (r := r_1) (va_runV (As := [.int (3 : Int32)]) (rest := []) ⟨hx, hb, hml, hown, hts⟩ (c_X4_setOf l D y t q _ N F G (3 : Int32) r_1 hc_2) (cwV 1 hts gX4_goes_X4_setOf rfl rfl rfl eX4_setOf ⟨Nat.le_of_ble_eq_true rfl, Nat.le_of_ble_eq_true rfl⟩) ⟨q_blind, (va_recv hK hP (ci := 4) (q0 := 0) rfl rfl), (q_pre hP hK hZ hD hA hS [0, 1, 2, 3, 4, 5, 6, 7, 8] rfl (by decide))⟩ rfl rfl hl.1 rfl (lv_room (Nat.le_of_ble_eq_true rfl)) dX4_goes_2 ⟨Nat.zero_le _, Nat.zero_le _⟩) hP hD hA hS [0, 1, 2, 3, 4, 5, 6, 7, 8] rfl (by decide) rfl (fun H locs hP hD hS => ?_)
  have hP : va_P D vwCl (wM y q F G) H := hP
  have hD : va_D A (wM y q F G) := hD
  refine lv_istore_n (lv' := [(1, .int r_1), (0, .ref (q 0))]) hx hb dX4_goes_5 rfl hl (by decide) rfl (fun ls hl => ?_)
  refine lv_iconst (v := 0) hx hb dX4_goes_6 (by decide) ?_
  refine lv_istore_n (lv' := [(2, .int (0 : Int32)), (1, .int r_1), (0, .ref (q 0))]) hx hb dX4_goes_7 rfl hl (by decide) rfl (fun ls hl => ?_)
  obtain ⟨x_4, F_5, hL3, h⟩ := q_bd2_ok h
  have K8_3 : ∀ (H : Heap) (locs : List Loc) (ls : Array Slot), va_P D vwCl (wM y q F_5 G) H → va_D A (wM y q F_5 G) → va_S A s.heap H locs → lv_has ls 4 [(0, .ref (q 0)), (1, .int r_1), (2, .int x_4)] → W p l e ({ frames := 5, cells := 0, slots := 0, locals := 111 } : Room) s m ([.ref (q 0)] : List Value).toArray below meth c H locs 0 0 (MQ below (pQv D y (wM y q res G) A) ([.ref (q 0)] : List Value).toArray s 0 0 A) (F0 m 71 ls []) := by
    intro H locs ls hP hD hS hl
    refine lv_aload_n hx hb dX4_goes_71 rfl (lv_at hl 0 rfl) ?_
    obtain ⟨F_21, hc_22, h⟩ := q_bd_ok h
    refine q_cv (va_runV (As := []) (rest := []) ⟨hx, hb, hml, hown, hts⟩ (c_X4_allDry l D y t q _ N F_5 G F_21 hc_22) (cwV 0 hts gX4_goes_X4_allDry rfl rfl rfl eX4_allDry ⟨Nat.le_of_ble_eq_true rfl, Nat.le_of_ble_eq_true rfl⟩) ⟨q_blind, (va_recv hK hP (ci := 4) (q0 := 0) rfl rfl), (q_pre hP hK hZ hD hA hS [0, 1, 2, 3, 4, 5, 6, 7, 8] rfl (by decide))⟩ rfl rfl hl.1 rfl (lv_room (Nat.le_of_ble_eq_true rfl)) dX4_goes_72 ⟨Nat.zero_le _, Nat.zero_le _⟩) hP hD hA hS [0, 1, 2, 3, 4, 5, 6, 7, 8] rfl (by decide) rfl (fun H locs hP hD hS => ?_)
    have hP : va_P D vwCl (wM y q F_21 G) H := hP
    have hD : va_D A (wM y q F_21 G) := hD
    refine lv_aload_n hx hb dX4_goes_75 rfl (lv_at hl 0 rfl) ?_
    refine va_get (D := D) (ci := 4) (v := .ref (q 1)) (C := RX4) (T := TX4) (N := 15) hx hb hts uX4_goes_X4 hown hK hP 0 rfl rfl 0 (by decide) (hts _ kX4_goes_1) (fun _ h9 => h9) rfl dX4_goes_76 ?_
    refine lv_iconst (v := 0) hx hb dX4_goes_79 (by decide) ?_
    refine lv_dup2_11 hx hb dX4_goes_80 rfl rfl ?_
    obtain ⟨z_23, h⟩ := q_grd_ok h
    refine va_iald hx hb hK hP 1 0 rfl rfl z_23 dX4_goes_81 ?_
    refine lv_iconst (v := 1) hx hb dX4_goes_82 (by decide) ?_
    refine lv_iadd hx hb dX4_goes_83 ?_
    obtain ⟨z_24, h⟩ := q_grd_ok h
    obtain ⟨F_25, eF_25, h⟩ := q_let_ok h
    refine va_iast hx hb hK hP hD hS 1 0 rfl rfl z_24 dX4_goes_84 (fun H locs hP hD hS => ?_)
    have hP : va_P D vwCl (wM y q F_25 G) H := by rw [eF_25]; exact hP
    have hD : va_D A (wM y q F_25 G) := by rw [eF_25]; exact hD
    have e9 := Option.some.inj h
    exact q_vret hx hb hr hlocks hK hP hD hS dX4_goes_85 (by first | rw [← e9] | rfl)
  have L8_3 : ∀ (G : Nat → Int64) (v1 : Int32) (k : Nat) (v2 : Int32) (F : Nat → Nat → Int32), (∀ (H : Heap) (locs : List Loc) (ls : Array Slot), va_P D vwCl (wM y q F_5 G) H → va_D A (wM y q F_5 G) → va_S A s.heap H locs → lv_has ls 4 [(0, .ref (q 0)), (1, .int v1), (2, .int x_4)] → W p l e ({ frames := 5, cells := 0, slots := 0, locals := 111 } : Room) s m ([.ref (q 0)] : List Value).toArray below meth c H locs 0 0 (MQ below (pQv D y (wM y q res G) A) ([.ref (q 0)] : List Value).toArray s 0 0 A) (F0 m 71 ls [])) → ∀ (H : Heap) (locs : List Loc) (ls : Array Slot), va_P D vwCl (wM y q F G) H → va_D A (wM y q F G) → va_S A s.heap H locs → lv_has ls 4 [(0, .ref (q 0)), (1, .int v1), (2, .int v2)] → f_X4_goes_L8 N G v1 k v2 F = some (x_4, F_5) → W p l e ({ frames := 5, cells := 0, slots := 0, locals := 111 } : Room) s m ([.ref (q 0)] : List Value).toArray below meth c H locs 0 0 (MQ below (pQv D y (wM y q res G) A) ([.ref (q 0)] : List Value).toArray s 0 0 A) (F0 m 8 ls []) := by
    intro G v1 k
    induction k with
    | zero =>
      intro v2 F K8_3 H locs ls hP hD hS hl h
      have h : (none : Option (Int32 × (Nat → Nat → Int32))) = some _ := h
      cases h
    | succ k ih8_3 =>
      intro v2 F K8_3 H locs ls hP hD hS hl h
      rw [f_X4_goes_L8] at h
      refine lv_iload_n hx hb dX4_goes_8 rfl (lv_at hl 2 rfl) ?_
      refine lv_aload_n hx hb dX4_goes_9 rfl (lv_at hl 0 rfl) ?_
      refine va_get (D := D) (ci := 4) (v := .ref (q 1)) (C := RX4) (T := TX4) (N := 15) hx hb hts uX4_goes_X4 hown hK hP 0 rfl rfl 0 (by decide) (hts _ kX4_goes_1) (fun _ h9 => h9) rfl dX4_goes_10 ?_
      refine lv_iconst (v := 2) hx hb dX4_goes_13 (by decide) ?_
      obtain ⟨z_6, h⟩ := q_grd_ok h
      refine va_iald hx hb hK hP 1 0 rfl rfl z_6 dX4_goes_14 ?_
      refine lv_icmp_ge (tgt := 71) hx hb dX4_goes_15 (by decide) (fun c_7 => ?_) (fun c_7 => ?_)
      · have h := q_t c_7 h
        cases h
        exact K8_3 _ _ _ hP hD hS (lv_sub hl [0, 1, 2] rfl)
      · have h := q_f c_7 h
        refine lv_aload_n hx hb dX4_goes_18 rfl (lv_at hl 0 rfl) ?_
        refine va_get (D := D) (ci := 4) (v := .ref (q 1)) (C := RX4) (T := TX4) (N := 15) hx hb hts uX4_goes_X4 hown hK hP 0 rfl rfl 0 (by decide) (hts _ kX4_goes_1) (fun _ h9 => h9) rfl dX4_goes_19 ?_
        refine lv_iconst (v := 1) hx hb dX4_goes_22 (by decide) ?_
        refine lv_aload_n hx hb dX4_goes_23 rfl (lv_at hl 0 rfl) ?_
        refine va_get (D := D) (ci := 4) (v := .ref (q 1)) (C := RX4) (T := TX4) (N := 15) hx hb hts uX4_goes_X4 hown hK hP 0 rfl rfl 0 (by decide) (hts _ kX4_goes_1) (fun _ h9 => h9) rfl dX4_goes_24 ?_
        refine lv_iconst (v := 1) hx hb dX4_goes_27 (by decide) ?_
        obtain ⟨z_8, h⟩ := q_grd_ok h
        refine va_iald hx hb hK hP 1 0 rfl rfl z_8 dX4_goes_28 ?_
        refine lv_iconst (v := 1) hx hb dX4_goes_29 (by decide) ?_
        refine lv_iadd hx hb dX4_goes_30 ?_
        refine lv_bipush (v := 60) hx hb dX4_goes_31 (by decide) ?_
        refine lv_irem hx hb dX4_goes_33 (by decide) ?_
        obtain ⟨z_9, h⟩ := q_grd_ok h
        obtain ⟨F_10, eF_10, h⟩ := q_let_ok h
        refine va_iast hx hb hK hP hD hS 1 0 rfl rfl z_9 dX4_goes_34 (fun H locs hP hD hS => ?_)
        have hP : va_P D vwCl (wM y q F_10 G) H := by rw [eF_10]; exact hP
        have hD : va_D A (wM y q F_10 G) := by rw [eF_10]; exact hD
        refine lv_iconst (v := 0) hx hb dX4_goes_35 (by decide) ?_
        refine lv_istore_n (lv' := [(3, .int (0 : Int32)), (0, .ref (q 0)), (1, .int v1), (2, .int v2)]) hx hb dX4_goes_36 rfl hl (by decide) rfl (fun ls hl => ?_)
        obtain ⟨x_12, F_13, hL11, h⟩ := q_bd2_ok h
        have K37_11 : ∀ (H : Heap) (locs : List Loc) (ls : Array Slot), va_P D vwCl (wM y q F_13 G) H → va_D A (wM y q F_13 G) → va_S A s.heap H locs → lv_has ls 4 [(0, .ref (q 0)), (1, .int v1), (2, .int v2), (3, .int x_12)] → W p l e ({ frames := 5, cells := 0, slots := 0, locals := 111 } : Room) s m ([.ref (q 0)] : List Value).toArray below meth c H locs 0 0 (MQ below (pQv D y (wM y q res G) A) ([.ref (q 0)] : List Value).toArray s 0 0 A) (F0 m 65 ls []) := by
          intro H locs ls hP hD hS hl
          obtain ⟨x_20, ex_20, h⟩ := q_let_ok h
          refine lv_iinc (v := x_20) (lv' := [(2, .int x_20), (0, .ref (q 0)), (1, .int v1), (3, .int x_12)]) hx hb dX4_goes_65 hl (k := 2) rfl (by rw [ex_20]; rfl) (by decide) rfl (fun ls hl => ?_)
          refine lv_goto (tgt := 8) hx hb dX4_goes_68 (by decide) ?_
          exact ih8_3 x_20 F_13 K8_3 _ _ _ hP hD hS (lv_sub hl [1, 2, 0] rfl) h
        have L37_11 : ∀ (G : Nat → Int64) (v1 : Int32) (v2 : Int32) (k : Nat) (v3 : Int32) (F : Nat → Nat → Int32), (∀ (H : Heap) (locs : List Loc) (ls : Array Slot), va_P D vwCl (wM y q F_13 G) H → va_D A (wM y q F_13 G) → va_S A s.heap H locs → lv_has ls 4 [(0, .ref (q 0)), (1, .int v1), (2, .int v2), (3, .int x_12)] → W p l e ({ frames := 5, cells := 0, slots := 0, locals := 111 } : Room) s m ([.ref (q 0)] : List Value).toArray below meth c H locs 0 0 (MQ below (pQv D y (wM y q res G) A) ([.ref (q 0)] : List Value).toArray s 0 0 A) (F0 m 65 ls [])) → ∀ (H : Heap) (locs : List Loc) (ls : Array Slot), va_P D vwCl (wM y q F G) H → va_D A (wM y q F G) → va_S A s.heap H locs → lv_has ls 4 [(0, .ref (q 0)), (1, .int v1), (2, .int v2), (3, .int v3)] → f_X4_goes_L37 N G v1 v2 k v3 F = some (x_12, F_13) → W p l e ({ frames := 5, cells := 0, slots := 0, locals := 111 } : Room) s m ([.ref (q 0)] : List Value).toArray below meth c H locs 0 0 (MQ below (pQv D y (wM y q res G) A) ([.ref (q 0)] : List Value).toArray s 0 0 A) (F0 m 37 ls []) := by
          intro G v1 v2 k
          induction k with
          | zero =>
            intro v3 F K37_11 H locs ls hP hD hS hl h
            have h : (none : Option (Int32 × (Nat → Nat → Int32))) = some _ := h
            cases h
          | succ k ih37_11 =>
            intro v3 F K37_11 H locs ls hP hD hS hl h
            rw [f_X4_goes_L37] at h
            refine lv_iload_n hx hb dX4_goes_37 rfl (lv_at hl 3 rfl) ?_
            refine lv_aload_n hx hb dX4_goes_38 rfl (lv_at hl 0 rfl) ?_
            refine va_get (D := D) (ci := 4) (v := .ref (q 1)) (C := RX4) (T := TX4) (N := 15) hx hb hts uX4_goes_X4 hown hK hP 0 rfl rfl 0 (by decide) (hts _ kX4_goes_1) (fun _ h9 => h9) rfl dX4_goes_39 ?_
            refine lv_iconst (v := 4) hx hb dX4_goes_42 (by decide) ?_
            obtain ⟨z_14, h⟩ := q_grd_ok h
            refine va_iald hx hb hK hP 1 0 rfl rfl z_14 dX4_goes_43 ?_
            refine lv_icmp_ge (tgt := 65) hx hb dX4_goes_44 (by decide) (fun c_15 => ?_) (fun c_15 => ?_)
            · have h := q_t c_15 h
              cases h
              exact K37_11 _ _ _ hP hD hS (lv_sub hl [0, 1, 2, 3] rfl)
            · have h := q_f c_15 h
              refine lv_aload_n hx hb dX4_goes_47 rfl (lv_at hl 0 rfl) ?_
              refine lv_iload_n hx hb dX4_goes_48 rfl (lv_at hl 3 rfl) ?_
              refine lv_aload_n hx hb dX4_goes_49 rfl (lv_at hl 0 rfl) ?_
              refine va_get (D := D) (ci := 4) (v := .ref (q 1)) (C := RX4) (T := TX4) (N := 15) hx hb hts uX4_goes_X4 hown hK hP 0 rfl rfl 0 (by decide) (hts _ kX4_goes_1) (fun _ h9 => h9) rfl dX4_goes_50 ?_
              refine lv_iconst (v := 1) hx hb dX4_goes_53 (by decide) ?_
              obtain ⟨z_16, h⟩ := q_grd_ok h
              refine va_iald hx hb hK hP 1 0 rfl rfl z_16 dX4_goes_54 ?_
              refine lv_iload_n hx hb dX4_goes_55 rfl (lv_at hl 1 rfl) ?_
              obtain ⟨F_17, hc_18, h⟩ := q_bd_ok h
              refine q_cv (va_runV (As := [.int v3, .int (F 1 (1 : Int32).toNatClampNeg), .int v1]) (rest := []) ⟨hx, hb, hml, hown, hts⟩ (c_X4_passes l D y t q _ N F G v3 (F 1 (1 : Int32).toNatClampNeg) v1 F_17 hc_18) (cwV 3 hts gX4_goes_X4_passes rfl rfl rfl eX4_passes ⟨Nat.le_of_ble_eq_true rfl, Nat.le_of_ble_eq_true rfl⟩) ⟨q_blind, (va_recv hK hP (ci := 4) (q0 := 0) rfl rfl), (q_pre hP hK hZ hD hA hS [0, 1, 2, 3, 4, 5, 6, 7, 8] rfl (by decide))⟩ rfl rfl hl.1 rfl (lv_room (Nat.le_of_ble_eq_true rfl)) dX4_goes_56 ⟨Nat.zero_le _, Nat.zero_le _⟩) hP hD hA hS [0, 1, 2, 3, 4, 5, 6, 7, 8] rfl (by decide) rfl (fun H locs hP hD hS => ?_)
              have hP : va_P D vwCl (wM y q F_17 G) H := hP
              have hD : va_D A (wM y q F_17 G) := hD
              obtain ⟨x_19, ex_19, h⟩ := q_let_ok h
              refine lv_iinc (v := x_19) (lv' := [(3, .int x_19), (0, .ref (q 0)), (1, .int v1), (2, .int v2)]) hx hb dX4_goes_59 hl (k := 3) rfl (by rw [ex_19]; rfl) (by decide) rfl (fun ls hl => ?_)
              refine lv_goto (tgt := 37) hx hb dX4_goes_62 (by decide) ?_
              exact ih37_11 x_19 F_17 K37_11 _ _ _ hP hD hS (lv_sub hl [1, 2, 3, 0] rfl) h
        exact L37_11 G v1 v2 N (0 : Int32) F_10 K37_11 _ _ _ hP hD hS (lv_sub hl [1, 2, 3, 0] rfl) hL11
  exact L8_3 G r_1 N (0 : Int32) F K8_3 _ _ _ hP hD hS (lv_sub hl [2, 1, 0] rfl) hL3
theorem eX4_goes : yX4_goes.cls = RX4 ∧ yX4_goes.cls ≠ "java/lang/invoke/MethodHandle" ∧ yX4_goes.cls ≠ "java/lang/invoke/VarHandle" ∧ (parseMethodDescriptor yX4_goes.desc).map (fun d => d.parameters.length) = some 0 := by decide +kernel
def f_X4_goesFor_L2 (N : Nat) (G : Nat → Int64) (v1 : Int32) : Nat → Int32 → (Nat → Nat → Int32) → Option (Int32 × (Nat → Nat → Int32))
  | 0, _, _ => none
  | k + 1, v2, F =>
    if v1 ≤ v2 then
      some (v2, F)
    else
      q_bd (f_X4_goes N F G) (fun F_5 =>
      q_let (v2 + 1) (fun x_7 =>
      f_X4_goesFor_L2 N G v1 k x_7 F_5))
def f_X4_goesFor (N : Nat) (F : Nat → Nat → Int32) (G : Nat → Int64) (p1 : Int32) : Option ((Nat → Nat → Int32)) :=
  q_bd2 (f_X4_goesFor_L2 N G p1 N (0 : Int32) F) (fun x_2 F_3 =>
  some F_3)
set_option maxHeartbeats 4000000 in
set_option maxRecDepth 100000 in
theorem c_X4_goesFor (l : Launch) (D : va_G) (y : Nat → ClassId) (t : Nat → Nat) (q : Nat → Nat) (sz N : Nat) (F : Nat → Nat → Int32) (G : Nat → Int64) (p1 : Int32) (res : (Nat → Nat → Int32)) (h : f_X4_goesFor N F G p1 = some res) : Met l yX4_goesFor wsX4_goesFor ({ frames := 6, cells := 0, slots := 0, locals := 134 } : Room) (pPre D y t [.ref (q 0), .int p1] (wM y q F G) sz) (pQv D y (wM y q res G) (va_A (wM y q F G) sz)) 0 0 (va_A (wM y q F G) sz) := by
  refine q_start (Qc := (fun A => pQv D y (wM y q res G) A)) (cc := cX4_goesFor) (maxL := 3) (ret := none) (by decide) rfl (Nat.le_of_ble_eq_true rfl) ?_
  intro p e s m below meth c A ls hx hb hr hts hown hlocks hmn hml hP hK hZ hD hA hS hl
  have hl : lv_has ls 3 [(0, .ref (q 0)), (1, .int p1)] := hl
  have hown : s.vm.findClass RX4 = some m.cls := hown
  unfold f_X4_goesFor at h
  refine lv_iconst (v := 0) hx hb dX4_goesFor_0 (by decide) ?_
  refine lv_istore_n (lv' := [(2, .int (0 : Int32)), (0, .ref (q 0)), (1, .int p1)]) hx hb dX4_goesFor_1 rfl hl (by decide) rfl (fun ls hl => ?_)
  obtain ⟨x_2, F_3, hL1, h⟩ := q_bd2_ok h
  have K2_1 : ∀ (H : Heap) (locs : List Loc) (ls : Array Slot), va_P D vwCl (wM y q F_3 G) H → va_D A (wM y q F_3 G) → va_S A s.heap H locs → lv_has ls 3 [(0, .ref (q 0)), (1, .int p1), (2, .int x_2)] → W p l e ({ frames := 6, cells := 0, slots := 0, locals := 134 } : Room) s m ([.ref (q 0), .int p1] : List Value).toArray below meth c H locs 0 0 (MQ below (pQv D y (wM y q res G) A) ([.ref (q 0), .int p1] : List Value).toArray s 0 0 A) (F0 m 17 ls []) := by
    intro H locs ls hP hD hS hl
    have e9 := Option.some.inj h
    exact q_vret hx hb hr hlocks hK hP hD hS dX4_goesFor_17 (by first | rw [← e9] | rfl)
  have L2_1 : ∀ (G : Nat → Int64) (v1 : Int32) (k : Nat) (v2 : Int32) (F : Nat → Nat → Int32), (∀ (H : Heap) (locs : List Loc) (ls : Array Slot), va_P D vwCl (wM y q F_3 G) H → va_D A (wM y q F_3 G) → va_S A s.heap H locs → lv_has ls 3 [(0, .ref (q 0)), (1, .int v1), (2, .int x_2)] → W p l e ({ frames := 6, cells := 0, slots := 0, locals := 134 } : Room) s m ([.ref (q 0), .int p1] : List Value).toArray below meth c H locs 0 0 (MQ below (pQv D y (wM y q res G) A) ([.ref (q 0), .int p1] : List Value).toArray s 0 0 A) (F0 m 17 ls [])) → ∀ (H : Heap) (locs : List Loc) (ls : Array Slot), va_P D vwCl (wM y q F G) H → va_D A (wM y q F G) → va_S A s.heap H locs → lv_has ls 3 [(0, .ref (q 0)), (1, .int v1), (2, .int v2)] → f_X4_goesFor_L2 N G v1 k v2 F = some (x_2, F_3) → W p l e ({ frames := 6, cells := 0, slots := 0, locals := 134 } : Room) s m ([.ref (q 0), .int p1] : List Value).toArray below meth c H locs 0 0 (MQ below (pQv D y (wM y q res G) A) ([.ref (q 0), .int p1] : List Value).toArray s 0 0 A) (F0 m 2 ls []) := by
    intro G v1 k
    induction k with
    | zero =>
      intro v2 F K2_1 H locs ls hP hD hS hl h
      have h : (none : Option (Int32 × (Nat → Nat → Int32))) = some _ := h
      cases h
    | succ k ih2_1 =>
      intro v2 F K2_1 H locs ls hP hD hS hl h
      rw [f_X4_goesFor_L2] at h
      refine lv_iload_n hx hb dX4_goesFor_2 rfl (lv_at hl 2 rfl) ?_
      refine lv_iload_n hx hb dX4_goesFor_3 rfl (lv_at hl 1 rfl) ?_
      refine lv_icmp_ge (tgt := 17) hx hb dX4_goesFor_4 (by decide) (fun c_4 => ?_) (fun c_4 => ?_)
      · have h := q_t c_4 h
        cases h
        exact K2_1 _ _ _ hP hD hS (lv_sub hl [0, 1, 2] rfl)
      · have h := q_f c_4 h
        refine lv_aload_n hx hb dX4_goesFor_7 rfl (lv_at hl 0 rfl) ?_
        obtain ⟨F_5, hc_6, h⟩ := q_bd_ok h
        refine q_cv (va_runV (As := []) (rest := []) ⟨hx, hb, hml, hown, hts⟩ (c_X4_goes l D y t q _ N F G F_5 hc_6) (cwV 0 hts gX4_goesFor_X4_goes rfl rfl rfl eX4_goes ⟨Nat.le_of_ble_eq_true rfl, Nat.le_of_ble_eq_true rfl⟩) ⟨q_blind, (va_recv hK hP (ci := 4) (q0 := 0) rfl rfl), (q_pre hP hK hZ hD hA hS [0, 1, 2, 3, 4, 5, 6, 7, 8] rfl (by decide))⟩ rfl rfl hl.1 rfl (lv_room (Nat.le_of_ble_eq_true rfl)) dX4_goesFor_8 ⟨Nat.zero_le _, Nat.zero_le _⟩) hP hD hA hS [0, 1, 2, 3, 4, 5, 6, 7, 8] rfl (by decide) rfl (fun H locs hP hD hS => ?_)
        have hP : va_P D vwCl (wM y q F_5 G) H := hP
        have hD : va_D A (wM y q F_5 G) := hD
        obtain ⟨x_7, ex_7, h⟩ := q_let_ok h
        refine lv_iinc (v := x_7) (lv' := [(2, .int x_7), (0, .ref (q 0)), (1, .int v1)]) hx hb dX4_goesFor_11 hl (k := 2) rfl (by rw [ex_7]; rfl) (by decide) rfl (fun ls hl => ?_)
        refine lv_goto (tgt := 2) hx hb dX4_goesFor_14 (by decide) ?_
        exact ih2_1 x_7 F_5 K2_1 _ _ _ hP hD hS (lv_sub hl [1, 2, 0] rfl) h
  exact L2_1 G p1 N (0 : Int32) F K2_1 _ _ _ hP hD hS (lv_sub hl [1, 2, 0] rfl) hL1
theorem eX4_goesFor : yX4_goesFor.cls = RX4 ∧ yX4_goesFor.cls ≠ "java/lang/invoke/MethodHandle" ∧ yX4_goesFor.cls ≠ "java/lang/invoke/VarHandle" ∧ (parseMethodDescriptor yX4_goesFor.desc).map (fun d => d.parameters.length) = some 1 := by decide +kernel
theorem kX4_seconds_0 : Cond.constant RX4 132 (99999) ∈ wsX4_seconds := List.mem_of_getElem? (i := 3) (by decide +kernel)
theorem kX4_seconds_1 : Cond.constant RX4 103 (-1000000005) ∈ wsX4_seconds := List.mem_of_getElem? (i := 4) (by decide +kernel)
theorem uX4_seconds_X4 : ∀ w ∈ u_ws RX4 TX4 15, w ∈ wsX4_seconds := by decide +kernel
theorem kX4_seconds_3 : Cond.fieldLink RX4 9 "BeamSeatsModel" "m" "[I" ∈ wsX4_seconds := List.mem_of_getElem? (i := 2) (by decide +kernel)
theorem kX4_seconds_4 : Cond.constant RX4 35 (-1000000001) ∈ wsX4_seconds := List.mem_of_getElem? (i := 1) (by decide +kernel)
def f_X4_seconds (N : Nat) (F : Nat → Nat → Int32) (G : Nat → Int64) (p1 : Int32) : Option (Int32 × (Nat → Nat → Int32)) :=
  q_bd (f_X4_in N (p1.toInt64) (1 : Int32) (200 : Int32)) (fun r_1 =>
  if r_1 = 0 then
    q_bd2 (f_X4_finds N F G (-1000000001 : Int32)) (fun r_13 F_14 =>
    some (r_13, F_14))
  else
    q_grd (0 : Int32) 69 (
    if ((F 1 (0 : Int32).toNatClampNeg) + p1) ≤ (99999 : Int32) then
      q_bd (f_X4_goesFor N F G p1) (fun F_6 =>
      q_bd (f_X4_setOf N F_6 G (3 : Int32)) (fun r_8 =>
      some (r_8, F_6)))
    else
      q_bd2 (f_X4_finds N F G (-1000000005 : Int32)) (fun r_10 F_11 =>
      some (r_10, F_11))))
set_option maxHeartbeats 4000000 in
set_option maxRecDepth 100000 in
theorem c_X4_seconds (l : Launch) (D : va_G) (y : Nat → ClassId) (t : Nat → Nat) (q : Nat → Nat) (sz N : Nat) (F : Nat → Nat → Int32) (G : Nat → Int64) (p1 : Int32) (res : Int32 × (Nat → Nat → Int32)) (h : f_X4_seconds N F G p1 = some res) : Met l yX4_seconds wsX4_seconds ({ frames := 7, cells := 0, slots := 0, locals := 156 } : Room) (pPre D y t [.ref (q 0), .int p1] (wM y q F G) sz) (pQi D y (res.1) (wM y q (res.2) G) (va_A (wM y q F G) sz)) 0 0 (va_A (wM y q F G) sz) := by
  refine q_start (Qc := (fun A => pQi D y (res.1) (wM y q (res.2) G) A)) (cc := cX4_seconds) (maxL := 2) (ret := (some .int)) (by decide) rfl (Nat.le_of_ble_eq_true rfl) ?_
  intro p e s m below meth c A ls hx hb hr hts hown hlocks hmn hml hP hK hZ hD hA hS hl
  have hl : lv_has ls 2 [(0, .ref (q 0)), (1, .int p1)] := hl
  have hown : s.vm.findClass RX4 = some m.cls := hown
  unfold f_X4_seconds at h
  refine lv_iload_n hx hb dX4_seconds_0 rfl (lv_at hl 1 rfl) ?_
  refine lv_i2l hx hb dX4_seconds_1 rfl ?_
  refine lv_iconst (v := 1) hx hb dX4_seconds_2 (by decide) ?_
  refine lv_sipush (v := 200) hx hb dX4_seconds_3 (by decide) ?_
  obtain ⟨r_1, hc_2, h⟩ := q_bd_ok h
  refine q_ci (r := r_1) (va_runS (As := [.long (p1.toInt64), .int (1 : Int32), .int (200 : Int32)]) (rest := []) ⟨hx, hb, hml, hown, hts⟩ (c_X4_in l D y t q _ N (p1.toInt64) (1 : Int32) (200 : Int32) r_1 hc_2) (va_cwS 3 hts gX4_seconds_X4_in rfl rfl rfl eX4_in ⟨Nat.le_of_ble_eq_true rfl, Nat.le_of_ble_eq_true rfl⟩) ⟨q_blind, (q_pre hP hK hZ hD hA hS [] rfl (by decide))⟩ rfl rfl hl.1 rfl (lv_room (Nat.le_of_ble_eq_true rfl)) dX4_seconds_6 ⟨Nat.zero_le _, Nat.zero_le _⟩) hP hD hA hS [] rfl (by decide) rfl (fun H locs hP hD hS => ?_)
  have hP : va_P D vwCl (wM y q F G) H := hP
  have hD : va_D A (wM y q F G) := hD
  refine lv_if_ne (tgt := 19) hx hb dX4_seconds_9 (by decide) (fun c_3 => ?_) (fun c_3 => ?_)
  · have h := q_f c_3 h
    refine lv_aload_n hx hb dX4_seconds_19 rfl (lv_at hl 0 rfl) ?_
    refine va_get (D := D) (ci := 4) (v := .ref (q 1)) (C := RX4) (T := TX4) (N := 15) hx hb hts uX4_seconds_X4 hown hK hP 0 rfl rfl 0 (by decide) (hts _ kX4_seconds_3) (fun _ h9 => h9) rfl dX4_seconds_20 ?_
    refine lv_iconst (v := 0) hx hb dX4_seconds_23 (by decide) ?_
    obtain ⟨z_4, h⟩ := q_grd_ok h
    refine va_iald hx hb hK hP 1 0 rfl rfl z_4 dX4_seconds_24 ?_
    refine lv_iload_n hx hb dX4_seconds_25 rfl (lv_at hl 1 rfl) ?_
    refine lv_iadd hx hb dX4_seconds_26 ?_
    refine lv_ldc (v := 99999) hx hb hown (hts _ kX4_seconds_0) dX4_seconds_27 ?_
    refine lv_icmp_le (tgt := 39) hx hb dX4_seconds_29 (by decide) (fun c_5 => ?_) (fun c_5 => ?_)
    · have h := q_t c_5 h
      refine lv_aload_n hx hb dX4_seconds_39 rfl (lv_at hl 0 rfl) ?_
      refine lv_iload_n hx hb dX4_seconds_40 rfl (lv_at hl 1 rfl) ?_
      obtain ⟨F_6, hc_7, h⟩ := q_bd_ok h
      refine q_cv (va_runV (As := [.int p1]) (rest := []) ⟨hx, hb, hml, hown, hts⟩ (c_X4_goesFor l D y t q _ N F G p1 F_6 hc_7) (cwV 1 hts gX4_seconds_X4_goesFor rfl rfl rfl eX4_goesFor ⟨Nat.le_of_ble_eq_true rfl, Nat.le_of_ble_eq_true rfl⟩) ⟨q_blind, (va_recv hK hP (ci := 4) (q0 := 0) rfl rfl), (q_pre hP hK hZ hD hA hS [0, 1, 2, 3, 4, 5, 6, 7, 8] rfl (by decide))⟩ rfl rfl hl.1 rfl (lv_room (Nat.le_of_ble_eq_true rfl)) dX4_seconds_41 ⟨Nat.zero_le _, Nat.zero_le _⟩) hP hD hA hS [0, 1, 2, 3, 4, 5, 6, 7, 8] rfl (by decide) rfl (fun H locs hP hD hS => ?_)
      have hP : va_P D vwCl (wM y q F_6 G) H := hP
      have hD : va_D A (wM y q F_6 G) := hD
      refine lv_aload_n hx hb dX4_seconds_44 rfl (lv_at hl 0 rfl) ?_
      refine lv_iconst (v := 3) hx hb dX4_seconds_45 (by decide) ?_
      obtain ⟨r_8, hc_9, h⟩ := q_bd_ok h
      refine q_ci (r := r_8) (va_runV (As := [.int (3 : Int32)]) (rest := []) ⟨hx, hb, hml, hown, hts⟩ (c_X4_setOf l D y t q _ N F_6 G (3 : Int32) r_8 hc_9) (cwV 1 hts gX4_seconds_X4_setOf rfl rfl rfl eX4_setOf ⟨Nat.le_of_ble_eq_true rfl, Nat.le_of_ble_eq_true rfl⟩) ⟨q_blind, (va_recv hK hP (ci := 4) (q0 := 0) rfl rfl), (q_pre hP hK hZ hD hA hS [0, 1, 2, 3, 4, 5, 6, 7, 8] rfl (by decide))⟩ rfl rfl hl.1 rfl (lv_room (Nat.le_of_ble_eq_true rfl)) dX4_seconds_46 ⟨Nat.zero_le _, Nat.zero_le _⟩) hP hD hA hS [0, 1, 2, 3, 4, 5, 6, 7, 8] rfl (by decide) rfl (fun H locs hP hD hS => ?_)
      have hP : va_P D vwCl (wM y q F_6 G) H := hP
      have hD : va_D A (wM y q F_6 G) := hD
      have e9 := Option.some.inj h
      exact q_iret hx hb hr hlocks hK hP hD hS dX4_seconds_49 (by first | rw [← e9] | rfl) (by first | rw [← e9] | rfl)
    · have h := q_f c_5 h
      refine lv_aload_n hx hb dX4_seconds_32 rfl (lv_at hl 0 rfl) ?_
      refine lv_ldc (v := -1000000005) hx hb hown (hts _ kX4_seconds_1) dX4_seconds_33 ?_
      obtain ⟨r_10, F_11, hc_12, h⟩ := q_bd2_ok h
      refine q_ci (r := r_10) (va_runV (As := [.int (-1000000005 : Int32)]) (rest := []) ⟨hx, hb, hml, hown, hts⟩ (c_X4_finds l D y t q _ N F G (-1000000005 : Int32) (r_10, F_11) hc_12) (cwV 1 hts gX4_seconds_X4_finds rfl rfl rfl eX4_finds ⟨Nat.le_of_ble_eq_true rfl, Nat.le_of_ble_eq_true rfl⟩) ⟨q_blind, (va_recv hK hP (ci := 4) (q0 := 0) rfl rfl), (q_pre hP hK hZ hD hA hS [0, 1, 2, 3, 4, 5, 6, 7, 8] rfl (by decide))⟩ rfl rfl hl.1 rfl (lv_room (Nat.le_of_ble_eq_true rfl)) dX4_seconds_35 ⟨Nat.zero_le _, Nat.zero_le _⟩) hP hD hA hS [0, 1, 2, 3, 4, 5, 6, 7, 8] rfl (by decide) rfl (fun H locs hP hD hS => ?_)
      have hP : va_P D vwCl (wM y q F_11 G) H := hP
      have hD : va_D A (wM y q F_11 G) := hD
      have e9 := Option.some.inj h
      exact q_iret hx hb hr hlocks hK hP hD hS dX4_seconds_38 (by first | rw [← e9] | rfl) (by first | rw [← e9] | rfl)
  · have h := q_t c_3 h
    refine lv_aload_n hx hb dX4_seconds_12 rfl (lv_at hl 0 rfl) ?_
    refine lv_ldc (v := -1000000001) hx hb hown (hts _ kX4_seconds_4) dX4_seconds_13 ?_
    obtain ⟨r_13, F_14, hc_15, h⟩ := q_bd2_ok h
    refine q_ci (r := r_13) (va_runV (As := [.int (-1000000001 : Int32)]) (rest := []) ⟨hx, hb, hml, hown, hts⟩ (c_X4_finds l D y t q _ N F G (-1000000001 : Int32) (r_13, F_14) hc_15) (cwV 1 hts gX4_seconds_X4_finds rfl rfl rfl eX4_finds ⟨Nat.le_of_ble_eq_true rfl, Nat.le_of_ble_eq_true rfl⟩) ⟨q_blind, (va_recv hK hP (ci := 4) (q0 := 0) rfl rfl), (q_pre hP hK hZ hD hA hS [0, 1, 2, 3, 4, 5, 6, 7, 8] rfl (by decide))⟩ rfl rfl hl.1 rfl (lv_room (Nat.le_of_ble_eq_true rfl)) dX4_seconds_15 ⟨Nat.zero_le _, Nat.zero_le _⟩) hP hD hA hS [0, 1, 2, 3, 4, 5, 6, 7, 8] rfl (by decide) rfl (fun H locs hP hD hS => ?_)
    have hP : va_P D vwCl (wM y q F_14 G) H := hP
    have hD : va_D A (wM y q F_14 G) := hD
    have e9 := Option.some.inj h
    exact q_iret hx hb hr hlocks hK hP hD hS dX4_seconds_18 (by first | rw [← e9] | rfl) (by first | rw [← e9] | rfl)
theorem eX4_seconds : yX4_seconds.cls = RX4 ∧ yX4_seconds.cls ≠ "java/lang/invoke/MethodHandle" ∧ yX4_seconds.cls ≠ "java/lang/invoke/VarHandle" ∧ (parseMethodDescriptor yX4_seconds.desc).map (fun d => d.parameters.length) = some 1 := by decide +kernel
theorem uX4_thinks_X4 : ∀ w ∈ u_ws RX4 TX4 15, w ∈ wsX4_thinks := by decide +kernel
theorem kX4_thinks_1 : Cond.fieldLink RX4 16 "BeamSeatsModel" "was" "[I" ∈ wsX4_thinks := List.mem_of_getElem? (i := 2) (by decide +kernel)
theorem kX4_thinks_2 : Cond.fieldLink RX4 9 "BeamSeatsModel" "m" "[I" ∈ wsX4_thinks := List.mem_of_getElem? (i := 1) (by decide +kernel)
def f_X4_thinks (N : Nat) (F : Nat → Nat → Int32) (G : Nat → Int64) : Option ((Nat → Nat → Int32)) :=
  q_bd (f_X4_copyAll N (F 1) (F 3)) (fun E_1 =>
  q_let (va_up F 3 E_1) (fun F_3 =>
  some F_3))
set_option maxHeartbeats 4000000 in
set_option maxRecDepth 100000 in
theorem c_X4_thinks (l : Launch) (D : va_G) (y : Nat → ClassId) (t : Nat → Nat) (q : Nat → Nat) (sz N : Nat) (F : Nat → Nat → Int32) (G : Nat → Int64) (res : (Nat → Nat → Int32)) (h : f_X4_thinks N F G = some res) : Met l yX4_thinks wsX4_thinks ({ frames := 1, cells := 0, slots := 0, locals := 22 } : Room) (pPre D y t [.ref (q 0)] (wM y q F G) sz) (pQv D y (wM y q res G) (va_A (wM y q F G) sz)) 0 0 (va_A (wM y q F G) sz) := by
  refine q_start (Qc := (fun A => pQv D y (wM y q res G) A)) (cc := cX4_thinks) (maxL := 1) (ret := none) (by decide) rfl (Nat.le_of_ble_eq_true rfl) ?_
  intro p e s m below meth c A ls hx hb hr hts hown hlocks hmn hml hP hK hZ hD hA hS hl
  have hl : lv_has ls 1 [(0, .ref (q 0))] := hl
  have hown : s.vm.findClass RX4 = some m.cls := hown
  unfold f_X4_thinks at h
  refine lv_aload_n hx hb dX4_thinks_0 rfl (lv_at hl 0 rfl) ?_
  refine va_get (D := D) (ci := 4) (v := .ref (q 1)) (C := RX4) (T := TX4) (N := 15) hx hb hts uX4_thinks_X4 hown hK hP 0 rfl rfl 0 (by decide) (hts _ kX4_thinks_2) (fun _ h9 => h9) rfl dX4_thinks_1 ?_
  refine lv_aload_n hx hb dX4_thinks_4 rfl (lv_at hl 0 rfl) ?_
  refine va_get (D := D) (ci := 4) (v := .ref (q 3)) (C := RX4) (T := TX4) (N := 15) hx hb hts uX4_thinks_X4 hown hK hP 0 rfl rfl 2 (by decide) (hts _ kX4_thinks_1) (fun _ h9 => h9) rfl dX4_thinks_5 ?_
  obtain ⟨E_1, hc_2, h⟩ := q_bd_ok h
  obtain ⟨F_3, eF_3, h⟩ := q_let_ok h
  refine q_cv (va_runS (As := [.ref (q 1), .ref (q 3)]) (rest := []) ⟨hx, hb, hml, hown, hts⟩ (c_X4_copyAll l D y t (fun k => if k < 1 then q 1 else q 3) _ N (F 1) (F 3) E_1 hc_2) (va_cwS 2 hts gX4_thinks_X4_copyAll rfl rfl rfl eX4_copyAll ⟨Nat.le_of_ble_eq_true rfl, Nat.le_of_ble_eq_true rfl⟩) ⟨q_blind, (q_pre hP hK hZ hD hA hS [1, 3] rfl (by decide))⟩ rfl rfl hl.1 rfl (lv_room (Nat.le_of_ble_eq_true rfl)) dX4_thinks_8 ⟨Nat.zero_le _, Nat.zero_le _⟩) hP hD hA hS [1, 3] rfl (by decide) rfl (fun H locs hP hD hS => ?_)
  have hP : va_P D vwCl (wM y q F_3 G) H := by rw [eF_3]; exact hP
  have hD : va_D A (wM y q F_3 G) := by rw [eF_3]; exact hD
  have e9 := Option.some.inj h
  exact q_vret hx hb hr hlocks hK hP hD hS dX4_thinks_11 (by first | rw [← e9] | rfl)
theorem eX4_thinks : yX4_thinks.cls = RX4 ∧ yX4_thinks.cls ≠ "java/lang/invoke/MethodHandle" ∧ yX4_thinks.cls ≠ "java/lang/invoke/VarHandle" ∧ (parseMethodDescriptor yX4_thinks.desc).map (fun d => d.parameters.length) = some 0 := by decide +kernel
theorem uX4_putsBack_X4 : ∀ w ∈ u_ws RX4 TX4 15, w ∈ wsX4_putsBack := by decide +kernel
theorem kX4_putsBack_1 : Cond.fieldLink RX4 9 "BeamSeatsModel" "m" "[I" ∈ wsX4_putsBack := List.mem_of_getElem? (i := 2) (by decide +kernel)
theorem kX4_putsBack_2 : Cond.fieldLink RX4 16 "BeamSeatsModel" "was" "[I" ∈ wsX4_putsBack := List.mem_of_getElem? (i := 1) (by decide +kernel)
def f_X4_putsBack (N : Nat) (F : Nat → Nat → Int32) (G : Nat → Int64) : Option ((Nat → Nat → Int32)) :=
  q_bd (f_X4_copyAll N (F 3) (F 1)) (fun E_1 =>
  q_let (va_up F 1 E_1) (fun F_3 =>
  some F_3))
set_option maxHeartbeats 4000000 in
set_option maxRecDepth 100000 in
theorem c_X4_putsBack (l : Launch) (D : va_G) (y : Nat → ClassId) (t : Nat → Nat) (q : Nat → Nat) (sz N : Nat) (F : Nat → Nat → Int32) (G : Nat → Int64) (res : (Nat → Nat → Int32)) (h : f_X4_putsBack N F G = some res) : Met l yX4_putsBack wsX4_putsBack ({ frames := 1, cells := 0, slots := 0, locals := 22 } : Room) (pPre D y t [.ref (q 0)] (wM y q F G) sz) (pQv D y (wM y q res G) (va_A (wM y q F G) sz)) 0 0 (va_A (wM y q F G) sz) := by
  refine q_start (Qc := (fun A => pQv D y (wM y q res G) A)) (cc := cX4_putsBack) (maxL := 1) (ret := none) (by decide) rfl (Nat.le_of_ble_eq_true rfl) ?_
  intro p e s m below meth c A ls hx hb hr hts hown hlocks hmn hml hP hK hZ hD hA hS hl
  have hl : lv_has ls 1 [(0, .ref (q 0))] := hl
  have hown : s.vm.findClass RX4 = some m.cls := hown
  unfold f_X4_putsBack at h
  refine lv_aload_n hx hb dX4_putsBack_0 rfl (lv_at hl 0 rfl) ?_
  refine va_get (D := D) (ci := 4) (v := .ref (q 3)) (C := RX4) (T := TX4) (N := 15) hx hb hts uX4_putsBack_X4 hown hK hP 0 rfl rfl 2 (by decide) (hts _ kX4_putsBack_2) (fun _ h9 => h9) rfl dX4_putsBack_1 ?_
  refine lv_aload_n hx hb dX4_putsBack_4 rfl (lv_at hl 0 rfl) ?_
  refine va_get (D := D) (ci := 4) (v := .ref (q 1)) (C := RX4) (T := TX4) (N := 15) hx hb hts uX4_putsBack_X4 hown hK hP 0 rfl rfl 0 (by decide) (hts _ kX4_putsBack_1) (fun _ h9 => h9) rfl dX4_putsBack_5 ?_
  obtain ⟨E_1, hc_2, h⟩ := q_bd_ok h
  obtain ⟨F_3, eF_3, h⟩ := q_let_ok h
  refine q_cv (va_runS (As := [.ref (q 3), .ref (q 1)]) (rest := []) ⟨hx, hb, hml, hown, hts⟩ (c_X4_copyAll l D y t (fun k => if k < 1 then q 3 else q 1) _ N (F 3) (F 1) E_1 hc_2) (va_cwS 2 hts gX4_putsBack_X4_copyAll rfl rfl rfl eX4_copyAll ⟨Nat.le_of_ble_eq_true rfl, Nat.le_of_ble_eq_true rfl⟩) ⟨q_blind, (q_pre hP hK hZ hD hA hS [3, 1] rfl (by decide))⟩ rfl rfl hl.1 rfl (lv_room (Nat.le_of_ble_eq_true rfl)) dX4_putsBack_8 ⟨Nat.zero_le _, Nat.zero_le _⟩) hP hD hA hS [3, 1] rfl (by decide) rfl (fun H locs hP hD hS => ?_)
  have hP : va_P D vwCl (wM y q F_3 G) H := by rw [eF_3]; exact hP
  have hD : va_D A (wM y q F_3 G) := by rw [eF_3]; exact hD
  have e9 := Option.some.inj h
  exact q_vret hx hb hr hlocks hK hP hD hS dX4_putsBack_11 (by first | rw [← e9] | rfl)
theorem eX4_putsBack : yX4_putsBack.cls = RX4 ∧ yX4_putsBack.cls ≠ "java/lang/invoke/MethodHandle" ∧ yX4_putsBack.cls ≠ "java/lang/invoke/VarHandle" ∧ (parseMethodDescriptor yX4_putsBack.desc).map (fun d => d.parameters.length) = some 0 := by decide +kernel
theorem kX4_on_0 : Cond.constant RX4 35 (-1000000001) ∈ wsX4_on := List.mem_of_getElem? (i := 1) (by decide +kernel)
def f_X4_on_B30 (N : Nat) (F : Nat → Nat → Int32) (G : Nat → Int64) : Option (Int32 × (Nat → Nat → Int32)) :=
  q_bd2 (f_X4_finds N F G (-1000000001 : Int32)) (fun r_4 F_5 =>
  some (r_4, F_5))
def f_X4_on_B86 (N : Nat) (F : Nat → Nat → Int32) (G : Nat → Int64) (s1 : Int32) (s2 : Int32) : Option (Int32 × (Nat → Nat → Int32)) :=
  q_bd (f_X4_it N F G s1 s2) (fun r_21 =>
  q_bd (f_X4_putsBack N F G) (fun F_23 =>
  some (r_21, F_23)))
def f_X4_on (N : Nat) (F : Nat → Nat → Int32) (G : Nat → Int64) (p1 : Int32) (p2 : Int32) (p3 : Int32) : Option (Int32 × (Nat → Nat → Int32)) :=
  q_bd (f_X4_isThing N F G p1) (fun r_1 =>
  if r_1 = 0 then
    f_X4_on_B30 N F G
  else
    q_bd (f_X4_in N (p2.toInt64) (0 : Int32) (400 : Int32)) (fun r_7 =>
    if r_7 = 0 then
      f_X4_on_B30 N F G
    else
      q_bd (f_X4_in N (p3.toInt64) (0 : Int32) (4 : Int32)) (fun r_10 =>
      if r_10 = 0 then
        f_X4_on_B30 N F G
      else
        q_bd (f_X4_thinks N F G) (fun F_13 =>
        q_bd (f_X4_goesFor N F_13 G p2) (fun F_15 =>
        if p3 = 0 then
          f_X4_on_B86 N F_15 G p1 (1 : Int32)
        else
          if p3 = (1 : Int32) then
            f_X4_on_B86 N F_15 G p1 (3 : Int32)
          else
            if p3 = (2 : Int32) then
              f_X4_on_B86 N F_15 G p1 (4 : Int32)
            else
              if p3 = (3 : Int32) then
                f_X4_on_B86 N F_15 G p1 (6 : Int32)
              else
                f_X4_on_B86 N F_15 G p1 (7 : Int32))))))
set_option maxHeartbeats 4000000 in
set_option maxRecDepth 100000 in
theorem c_X4_on (l : Launch) (D : va_G) (y : Nat → ClassId) (t : Nat → Nat) (q : Nat → Nat) (sz N : Nat) (F : Nat → Nat → Int32) (G : Nat → Int64) (p1 : Int32) (p2 : Int32) (p3 : Int32) (res : Int32 × (Nat → Nat → Int32)) (h : f_X4_on N F G p1 p2 p3 = some res) : Met l yX4_on wsX4_on ({ frames := 7, cells := 0, slots := 0, locals := 156 } : Room) (pPre D y t [.ref (q 0), .int p1, .int p2, .int p3] (wM y q F G) sz) (pQi D y (res.1) (wM y q (res.2) G) (va_A (wM y q F G) sz)) 0 0 (va_A (wM y q F G) sz) := by
  refine q_start (Qc := (fun A => pQi D y (res.1) (wM y q (res.2) G) A)) (cc := cX4_on) (maxL := 5) (ret := (some .int)) (by decide) rfl (Nat.le_of_ble_eq_true rfl) ?_
  intro p e s m below meth c A ls hx hb hr hts hown hlocks hmn hml hP hK hZ hD hA hS hl
  have hl : lv_has ls 5 [(0, .ref (q 0)), (1, .int p1), (2, .int p2), (3, .int p3)] := hl
  have hown : s.vm.findClass RX4 = some m.cls := hown
  have B30 : ∀ (F : Nat → Nat → Int32) (G : Nat → Int64) (H : Heap) (locs : List Loc) (ls : Array Slot), va_P D vwCl (wM y q F G) H → va_D A (wM y q F G) → va_S A s.heap H locs → lv_has ls 5 [(0, .ref (q 0))] → f_X4_on_B30 N F G = some res → W p l e ({ frames := 7, cells := 0, slots := 0, locals := 156 } : Room) s m ([.ref (q 0), .int p1, .int p2, .int p3] : List Value).toArray below meth c H locs 0 0 (MQ below (pQi D y (res.1) (wM y q (res.2) G) A) ([.ref (q 0), .int p1, .int p2, .int p3] : List Value).toArray s 0 0 A) (F0 m 30 ls []) := by
    intro F G H locs ls hP hD hS hl h
    unfold f_X4_on_B30 at h
    refine lv_aload_n hx hb dX4_on_30 rfl (lv_at hl 0 rfl) ?_
    refine lv_ldc (v := -1000000001) hx hb hown (hts _ kX4_on_0) dX4_on_31 ?_
    obtain ⟨r_4, F_5, hc_6, h⟩ := q_bd2_ok h
    refine q_ci (r := r_4) (va_runV (As := [.int (-1000000001 : Int32)]) (rest := []) ⟨hx, hb, hml, hown, hts⟩ (c_X4_finds l D y t q _ N F G (-1000000001 : Int32) (r_4, F_5) hc_6) (cwV 1 hts gX4_on_X4_finds rfl rfl rfl eX4_finds ⟨Nat.le_of_ble_eq_true rfl, Nat.le_of_ble_eq_true rfl⟩) ⟨q_blind, (va_recv hK hP (ci := 4) (q0 := 0) rfl rfl), (q_pre hP hK hZ hD hA hS [0, 1, 2, 3, 4, 5, 6, 7, 8] rfl (by decide))⟩ rfl rfl hl.1 rfl (lv_room (Nat.le_of_ble_eq_true rfl)) dX4_on_33 ⟨Nat.zero_le _, Nat.zero_le _⟩) hP hD hA hS [0, 1, 2, 3, 4, 5, 6, 7, 8] rfl (by decide) rfl (fun H locs hP hD hS => ?_)
    have hP : va_P D vwCl (wM y q F_5 G) H := hP
    have hD : va_D A (wM y q F_5 G) := hD
    have e9 := Option.some.inj h
    exact q_iret hx hb hr hlocks hK hP hD hS dX4_on_36 (by first | rw [← e9] | rfl) (by first | rw [← e9] | rfl)
  have B86 : ∀ (F : Nat → Nat → Int32) (G : Nat → Int64) (s1 : Int32) (s2 : Int32) (H : Heap) (locs : List Loc) (ls : Array Slot), va_P D vwCl (wM y q F G) H → va_D A (wM y q F G) → va_S A s.heap H locs → lv_has ls 5 [(0, .ref (q 0))] → f_X4_on_B86 N F G s1 s2 = some res → W p l e ({ frames := 7, cells := 0, slots := 0, locals := 156 } : Room) s m ([.ref (q 0), .int p1, .int p2, .int p3] : List Value).toArray below meth c H locs 0 0 (MQ below (pQi D y (res.1) (wM y q (res.2) G) A) ([.ref (q 0), .int p1, .int p2, .int p3] : List Value).toArray s 0 0 A) (F0 m 86 ls [.int s2, .int s1, .ref (q 0)]) := by
    intro F G s1 s2 H locs ls hP hD hS hl h
    unfold f_X4_on_B86 at h
    obtain ⟨r_21, hc_22, h⟩ := q_bd_ok h
    refine q_ci (r := r_21) (va_runV (As := [.int s1, .int s2]) (rest := []) ⟨hx, hb, hml, hown, hts⟩ (c_X4_it l D y t q _ N F G s1 s2 r_21 hc_22) (cwV 2 hts gX4_on_X4_it rfl rfl rfl eX4_it ⟨Nat.le_of_ble_eq_true rfl, Nat.le_of_ble_eq_true rfl⟩) ⟨q_blind, (va_recv hK hP (ci := 4) (q0 := 0) rfl rfl), (q_pre hP hK hZ hD hA hS [0, 1, 2, 3, 4, 5, 6, 7, 8] rfl (by decide))⟩ rfl rfl hl.1 rfl (lv_room (Nat.le_of_ble_eq_true rfl)) dX4_on_86 ⟨Nat.zero_le _, Nat.zero_le _⟩) hP hD hA hS [0, 1, 2, 3, 4, 5, 6, 7, 8] rfl (by decide) rfl (fun H locs hP hD hS => ?_)
    have hP : va_P D vwCl (wM y q F G) H := hP
    have hD : va_D A (wM y q F G) := hD
    refine lv_istore (lv' := [(4, .int r_21), (0, .ref (q 0))]) hx hb dX4_on_89 hl (by decide) rfl (fun ls hl => ?_)
    refine lv_aload_n hx hb dX4_on_91 rfl (lv_at hl 1 rfl) ?_
    obtain ⟨F_23, hc_24, h⟩ := q_bd_ok h
    refine q_cv (va_runV (As := []) (rest := []) ⟨hx, hb, hml, hown, hts⟩ (c_X4_putsBack l D y t q _ N F G F_23 hc_24) (cwV 0 hts gX4_on_X4_putsBack rfl rfl rfl eX4_putsBack ⟨Nat.le_of_ble_eq_true rfl, Nat.le_of_ble_eq_true rfl⟩) ⟨q_blind, (va_recv hK hP (ci := 4) (q0 := 0) rfl rfl), (q_pre hP hK hZ hD hA hS [0, 1, 2, 3, 4, 5, 6, 7, 8] rfl (by decide))⟩ rfl rfl hl.1 rfl (lv_room (Nat.le_of_ble_eq_true rfl)) dX4_on_92 ⟨Nat.zero_le _, Nat.zero_le _⟩) hP hD hA hS [0, 1, 2, 3, 4, 5, 6, 7, 8] rfl (by decide) rfl (fun H locs hP hD hS => ?_)
    have hP : va_P D vwCl (wM y q F_23 G) H := hP
    have hD : va_D A (wM y q F_23 G) := hD
    refine lv_iload hx hb dX4_on_95 (lv_at hl 0 rfl) ?_
    have e9 := Option.some.inj h
    exact q_iret hx hb hr hlocks hK hP hD hS dX4_on_97 (by first | rw [← e9] | rfl) (by first | rw [← e9] | rfl)
  unfold f_X4_on at h
  refine lv_aload_n hx hb dX4_on_0 rfl (lv_at hl 0 rfl) ?_
  refine lv_iload_n hx hb dX4_on_1 rfl (lv_at hl 1 rfl) ?_
  obtain ⟨r_1, hc_2, h⟩ := q_bd_ok h
  refine q_ci (r := r_1) (va_runV (As := [.int p1]) (rest := []) ⟨hx, hb, hml, hown, hts⟩ (c_X4_isThing l D y t q _ N F G p1 r_1 hc_2) (cwV 1 hts gX4_on_X4_isThing rfl rfl rfl eX4_isThing ⟨Nat.le_of_ble_eq_true rfl, Nat.le_of_ble_eq_true rfl⟩) ⟨q_blind, (va_recv hK hP (ci := 4) (q0 := 0) rfl rfl), (q_pre hP hK hZ hD hA hS [0, 1, 2, 3, 4, 5, 6, 7, 8] rfl (by decide))⟩ rfl rfl hl.1 rfl (lv_room (Nat.le_of_ble_eq_true rfl)) dX4_on_2 ⟨Nat.zero_le _, Nat.zero_le _⟩) hP hD hA hS [0, 1, 2, 3, 4, 5, 6, 7, 8] rfl (by decide) rfl (fun H locs hP hD hS => ?_)
  have hP : va_P D vwCl (wM y q F G) H := hP
  have hD : va_D A (wM y q F G) := hD
  refine lv_if_eq (tgt := 30) hx hb dX4_on_5 (by decide) (fun c_3 => ?_) (fun c_3 => ?_)
  · have h := q_t c_3 h
    exact B30 F G _ _ _ hP hD hS (lv_sub hl [0] rfl) h
  · have h := q_f c_3 h
    refine lv_iload_n hx hb dX4_on_8 rfl (lv_at hl 2 rfl) ?_
    refine lv_i2l hx hb dX4_on_9 rfl ?_
    refine lv_iconst (v := 0) hx hb dX4_on_10 (by decide) ?_
    refine lv_sipush (v := 400) hx hb dX4_on_11 (by decide) ?_
    obtain ⟨r_7, hc_8, h⟩ := q_bd_ok h
    refine q_ci (r := r_7) (va_runS (As := [.long (p2.toInt64), .int (0 : Int32), .int (400 : Int32)]) (rest := []) ⟨hx, hb, hml, hown, hts⟩ (c_X4_in l D y t q _ N (p2.toInt64) (0 : Int32) (400 : Int32) r_7 hc_8) (va_cwS 3 hts gX4_on_X4_in rfl rfl rfl eX4_in ⟨Nat.le_of_ble_eq_true rfl, Nat.le_of_ble_eq_true rfl⟩) ⟨q_blind, (q_pre hP hK hZ hD hA hS [] rfl (by decide))⟩ rfl rfl hl.1 rfl (lv_room (Nat.le_of_ble_eq_true rfl)) dX4_on_14 ⟨Nat.zero_le _, Nat.zero_le _⟩) hP hD hA hS [] rfl (by decide) rfl (fun H locs hP hD hS => ?_)
    have hP : va_P D vwCl (wM y q F G) H := hP
    have hD : va_D A (wM y q F G) := hD
    refine lv_if_eq (tgt := 30) hx hb dX4_on_17 (by decide) (fun c_9 => ?_) (fun c_9 => ?_)
    · have h := q_t c_9 h
      exact B30 F G _ _ _ hP hD hS (lv_sub hl [0] rfl) h
    · have h := q_f c_9 h
      refine lv_iload_n hx hb dX4_on_20 rfl (lv_at hl 3 rfl) ?_
      refine lv_i2l hx hb dX4_on_21 rfl ?_
      refine lv_iconst (v := 0) hx hb dX4_on_22 (by decide) ?_
      refine lv_iconst (v := 4) hx hb dX4_on_23 (by decide) ?_
      obtain ⟨r_10, hc_11, h⟩ := q_bd_ok h
      refine q_ci (r := r_10) (va_runS (As := [.long (p3.toInt64), .int (0 : Int32), .int (4 : Int32)]) (rest := []) ⟨hx, hb, hml, hown, hts⟩ (c_X4_in l D y t q _ N (p3.toInt64) (0 : Int32) (4 : Int32) r_10 hc_11) (va_cwS 3 hts gX4_on_X4_in rfl rfl rfl eX4_in ⟨Nat.le_of_ble_eq_true rfl, Nat.le_of_ble_eq_true rfl⟩) ⟨q_blind, (q_pre hP hK hZ hD hA hS [] rfl (by decide))⟩ rfl rfl hl.1 rfl (lv_room (Nat.le_of_ble_eq_true rfl)) dX4_on_24 ⟨Nat.zero_le _, Nat.zero_le _⟩) hP hD hA hS [] rfl (by decide) rfl (fun H locs hP hD hS => ?_)
      have hP : va_P D vwCl (wM y q F G) H := hP
      have hD : va_D A (wM y q F G) := hD
      refine lv_if_ne (tgt := 37) hx hb dX4_on_27 (by decide) (fun c_12 => ?_) (fun c_12 => ?_)
      · have h := q_f c_12 h
        refine lv_aload_n hx hb dX4_on_37 rfl (lv_at hl 0 rfl) ?_
        obtain ⟨F_13, hc_14, h⟩ := q_bd_ok h
        refine q_cv (va_runV (As := []) (rest := []) ⟨hx, hb, hml, hown, hts⟩ (c_X4_thinks l D y t q _ N F G F_13 hc_14) (cwV 0 hts gX4_on_X4_thinks rfl rfl rfl eX4_thinks ⟨Nat.le_of_ble_eq_true rfl, Nat.le_of_ble_eq_true rfl⟩) ⟨q_blind, (va_recv hK hP (ci := 4) (q0 := 0) rfl rfl), (q_pre hP hK hZ hD hA hS [0, 1, 2, 3, 4, 5, 6, 7, 8] rfl (by decide))⟩ rfl rfl hl.1 rfl (lv_room (Nat.le_of_ble_eq_true rfl)) dX4_on_38 ⟨Nat.zero_le _, Nat.zero_le _⟩) hP hD hA hS [0, 1, 2, 3, 4, 5, 6, 7, 8] rfl (by decide) rfl (fun H locs hP hD hS => ?_)
        have hP : va_P D vwCl (wM y q F_13 G) H := hP
        have hD : va_D A (wM y q F_13 G) := hD
        refine lv_aload_n hx hb dX4_on_41 rfl (lv_at hl 0 rfl) ?_
        refine lv_iload_n hx hb dX4_on_42 rfl (lv_at hl 2 rfl) ?_
        obtain ⟨F_15, hc_16, h⟩ := q_bd_ok h
        refine q_cv (va_runV (As := [.int p2]) (rest := []) ⟨hx, hb, hml, hown, hts⟩ (c_X4_goesFor l D y t q _ N F_13 G p2 F_15 hc_16) (cwV 1 hts gX4_on_X4_goesFor rfl rfl rfl eX4_goesFor ⟨Nat.le_of_ble_eq_true rfl, Nat.le_of_ble_eq_true rfl⟩) ⟨q_blind, (va_recv hK hP (ci := 4) (q0 := 0) rfl rfl), (q_pre hP hK hZ hD hA hS [0, 1, 2, 3, 4, 5, 6, 7, 8] rfl (by decide))⟩ rfl rfl hl.1 rfl (lv_room (Nat.le_of_ble_eq_true rfl)) dX4_on_43 ⟨Nat.zero_le _, Nat.zero_le _⟩) hP hD hA hS [0, 1, 2, 3, 4, 5, 6, 7, 8] rfl (by decide) rfl (fun H locs hP hD hS => ?_)
        have hP : va_P D vwCl (wM y q F_15 G) H := hP
        have hD : va_D A (wM y q F_15 G) := hD
        refine lv_aload_n hx hb dX4_on_46 rfl (lv_at hl 0 rfl) ?_
        refine lv_iload_n hx hb dX4_on_47 rfl (lv_at hl 1 rfl) ?_
        refine lv_iload_n hx hb dX4_on_48 rfl (lv_at hl 3 rfl) ?_
        refine lv_if_ne (tgt := 56) hx hb dX4_on_49 (by decide) (fun c_17 => ?_) (fun c_17 => ?_)
        · have h := q_f c_17 h
          refine lv_iload_n hx hb dX4_on_56 rfl (lv_at hl 3 rfl) ?_
          refine lv_iconst (v := 1) hx hb dX4_on_57 (by decide) ?_
          refine lv_icmp_ne (tgt := 65) hx hb dX4_on_58 (by decide) (fun c_18 => ?_) (fun c_18 => ?_)
          · have h := q_f c_18 h
            refine lv_iload_n hx hb dX4_on_65 rfl (lv_at hl 3 rfl) ?_
            refine lv_iconst (v := 2) hx hb dX4_on_66 (by decide) ?_
            refine lv_icmp_ne (tgt := 74) hx hb dX4_on_67 (by decide) (fun c_19 => ?_) (fun c_19 => ?_)
            · have h := q_f c_19 h
              refine lv_iload_n hx hb dX4_on_74 rfl (lv_at hl 3 rfl) ?_
              refine lv_iconst (v := 3) hx hb dX4_on_75 (by decide) ?_
              refine lv_icmp_ne (tgt := 84) hx hb dX4_on_76 (by decide) (fun c_20 => ?_) (fun c_20 => ?_)
              · have h := q_f c_20 h
                refine lv_bipush (v := 7) hx hb dX4_on_84 (by decide) ?_
                exact B86 F_15 G p1 (7 : Int32) _ _ _ hP hD hS (lv_sub hl [0] rfl) h
              · have h := q_t c_20 h
                refine lv_bipush (v := 6) hx hb dX4_on_79 (by decide) ?_
                refine lv_goto (tgt := 86) hx hb dX4_on_81 (by decide) ?_
                exact B86 F_15 G p1 (6 : Int32) _ _ _ hP hD hS (lv_sub hl [0] rfl) h
            · have h := q_t c_19 h
              refine lv_iconst (v := 4) hx hb dX4_on_70 (by decide) ?_
              refine lv_goto (tgt := 86) hx hb dX4_on_71 (by decide) ?_
              exact B86 F_15 G p1 (4 : Int32) _ _ _ hP hD hS (lv_sub hl [0] rfl) h
          · have h := q_t c_18 h
            refine lv_iconst (v := 3) hx hb dX4_on_61 (by decide) ?_
            refine lv_goto (tgt := 86) hx hb dX4_on_62 (by decide) ?_
            exact B86 F_15 G p1 (3 : Int32) _ _ _ hP hD hS (lv_sub hl [0] rfl) h
        · have h := q_t c_17 h
          refine lv_iconst (v := 1) hx hb dX4_on_52 (by decide) ?_
          refine lv_goto (tgt := 86) hx hb dX4_on_53 (by decide) ?_
          exact B86 F_15 G p1 (1 : Int32) _ _ _ hP hD hS (lv_sub hl [0] rfl) h
      · have h := q_t c_12 h
        exact B30 F G _ _ _ hP hD hS (lv_sub hl [0] rfl) h
theorem eX4_on : yX4_on.cls = RX4 ∧ yX4_on.cls ≠ "java/lang/invoke/MethodHandle" ∧ yX4_on.cls ≠ "java/lang/invoke/VarHandle" ∧ (parseMethodDescriptor yX4_on.desc).map (fun d => d.parameters.length) = some 3 := by decide +kernel
theorem kX4_then_0 : Cond.constant RX4 35 (-1000000001) ∈ wsX4_then := List.mem_of_getElem? (i := 1) (by decide +kernel)
def f_X4_then_B22 (N : Nat) (F : Nat → Nat → Int32) (G : Nat → Int64) : Option (Int32 × (Nat → Nat → Int32)) :=
  q_bd2 (f_X4_finds N F G (-1000000001 : Int32)) (fun r_4 F_5 =>
  some (r_4, F_5))
def f_X4_then_B49 (N : Nat) (F : Nat → Nat → Int32) (G : Nat → Int64) (s1 : Int32) : Option (Int32 × (Nat → Nat → Int32)) :=
  q_bd (f_X4_setOf N F G s1) (fun r_15 =>
  q_bd (f_X4_bits N r_15) (fun r_17 =>
  q_bd (f_X4_putsBack N F G) (fun F_19 =>
  some (r_17, F_19))))
def f_X4_then (N : Nat) (F : Nat → Nat → Int32) (G : Nat → Int64) (p1 : Int32) (p2 : Int32) : Option (Int32 × (Nat → Nat → Int32)) :=
  q_bd (f_X4_in N (p1.toInt64) (0 : Int32) (400 : Int32)) (fun r_1 =>
  if r_1 = 0 then
    f_X4_then_B22 N F G
  else
    q_bd (f_X4_in N (p2.toInt64) (0 : Int32) (1 : Int32)) (fun r_7 =>
    if r_7 = 0 then
      f_X4_then_B22 N F G
    else
      q_bd (f_X4_thinks N F G) (fun F_10 =>
      q_bd (f_X4_goesFor N F_10 G p1) (fun F_12 =>
      if p2 = 0 then
        f_X4_then_B49 N F_12 G (3 : Int32)
      else
        f_X4_then_B49 N F_12 G (6 : Int32)))))
set_option maxHeartbeats 4000000 in
set_option maxRecDepth 100000 in
theorem c_X4_then (l : Launch) (D : va_G) (y : Nat → ClassId) (t : Nat → Nat) (q : Nat → Nat) (sz N : Nat) (F : Nat → Nat → Int32) (G : Nat → Int64) (p1 : Int32) (p2 : Int32) (res : Int32 × (Nat → Nat → Int32)) (h : f_X4_then N F G p1 p2 = some res) : Met l yX4_then wsX4_then ({ frames := 7, cells := 0, slots := 0, locals := 156 } : Room) (pPre D y t [.ref (q 0), .int p1, .int p2] (wM y q F G) sz) (pQi D y (res.1) (wM y q (res.2) G) (va_A (wM y q F G) sz)) 0 0 (va_A (wM y q F G) sz) := by
  refine q_start (Qc := (fun A => pQi D y (res.1) (wM y q (res.2) G) A)) (cc := cX4_then) (maxL := 4) (ret := (some .int)) (by decide) rfl (Nat.le_of_ble_eq_true rfl) ?_
  intro p e s m below meth c A ls hx hb hr hts hown hlocks hmn hml hP hK hZ hD hA hS hl
  have hl : lv_has ls 4 [(0, .ref (q 0)), (1, .int p1), (2, .int p2)] := hl
  have hown : s.vm.findClass RX4 = some m.cls := hown
  have B22 : ∀ (F : Nat → Nat → Int32) (G : Nat → Int64) (H : Heap) (locs : List Loc) (ls : Array Slot), va_P D vwCl (wM y q F G) H → va_D A (wM y q F G) → va_S A s.heap H locs → lv_has ls 4 [(0, .ref (q 0))] → f_X4_then_B22 N F G = some res → W p l e ({ frames := 7, cells := 0, slots := 0, locals := 156 } : Room) s m ([.ref (q 0), .int p1, .int p2] : List Value).toArray below meth c H locs 0 0 (MQ below (pQi D y (res.1) (wM y q (res.2) G) A) ([.ref (q 0), .int p1, .int p2] : List Value).toArray s 0 0 A) (F0 m 22 ls []) := by
    intro F G H locs ls hP hD hS hl h
    unfold f_X4_then_B22 at h
    refine lv_aload_n hx hb dX4_then_22 rfl (lv_at hl 0 rfl) ?_
    refine lv_ldc (v := -1000000001) hx hb hown (hts _ kX4_then_0) dX4_then_23 ?_
    obtain ⟨r_4, F_5, hc_6, h⟩ := q_bd2_ok h
    refine q_ci (r := r_4) (va_runV (As := [.int (-1000000001 : Int32)]) (rest := []) ⟨hx, hb, hml, hown, hts⟩ (c_X4_finds l D y t q _ N F G (-1000000001 : Int32) (r_4, F_5) hc_6) (cwV 1 hts gX4_then_X4_finds rfl rfl rfl eX4_finds ⟨Nat.le_of_ble_eq_true rfl, Nat.le_of_ble_eq_true rfl⟩) ⟨q_blind, (va_recv hK hP (ci := 4) (q0 := 0) rfl rfl), (q_pre hP hK hZ hD hA hS [0, 1, 2, 3, 4, 5, 6, 7, 8] rfl (by decide))⟩ rfl rfl hl.1 rfl (lv_room (Nat.le_of_ble_eq_true rfl)) dX4_then_25 ⟨Nat.zero_le _, Nat.zero_le _⟩) hP hD hA hS [0, 1, 2, 3, 4, 5, 6, 7, 8] rfl (by decide) rfl (fun H locs hP hD hS => ?_)
    have hP : va_P D vwCl (wM y q F_5 G) H := hP
    have hD : va_D A (wM y q F_5 G) := hD
    have e9 := Option.some.inj h
    exact q_iret hx hb hr hlocks hK hP hD hS dX4_then_28 (by first | rw [← e9] | rfl) (by first | rw [← e9] | rfl)
  have B49 : ∀ (F : Nat → Nat → Int32) (G : Nat → Int64) (s1 : Int32) (H : Heap) (locs : List Loc) (ls : Array Slot), va_P D vwCl (wM y q F G) H → va_D A (wM y q F G) → va_S A s.heap H locs → lv_has ls 4 [(0, .ref (q 0))] → f_X4_then_B49 N F G s1 = some res → W p l e ({ frames := 7, cells := 0, slots := 0, locals := 156 } : Room) s m ([.ref (q 0), .int p1, .int p2] : List Value).toArray below meth c H locs 0 0 (MQ below (pQi D y (res.1) (wM y q (res.2) G) A) ([.ref (q 0), .int p1, .int p2] : List Value).toArray s 0 0 A) (F0 m 49 ls [.int s1, .ref (q 0)]) := by
    intro F G s1 H locs ls hP hD hS hl h
    unfold f_X4_then_B49 at h
    obtain ⟨r_15, hc_16, h⟩ := q_bd_ok h
    refine q_ci (r := r_15) (va_runV (As := [.int s1]) (rest := []) ⟨hx, hb, hml, hown, hts⟩ (c_X4_setOf l D y t q _ N F G s1 r_15 hc_16) (cwV 1 hts gX4_then_X4_setOf rfl rfl rfl eX4_setOf ⟨Nat.le_of_ble_eq_true rfl, Nat.le_of_ble_eq_true rfl⟩) ⟨q_blind, (va_recv hK hP (ci := 4) (q0 := 0) rfl rfl), (q_pre hP hK hZ hD hA hS [0, 1, 2, 3, 4, 5, 6, 7, 8] rfl (by decide))⟩ rfl rfl hl.1 rfl (lv_room (Nat.le_of_ble_eq_true rfl)) dX4_then_49 ⟨Nat.zero_le _, Nat.zero_le _⟩) hP hD hA hS [0, 1, 2, 3, 4, 5, 6, 7, 8] rfl (by decide) rfl (fun H locs hP hD hS => ?_)
    have hP : va_P D vwCl (wM y q F G) H := hP
    have hD : va_D A (wM y q F G) := hD
    obtain ⟨r_17, hc_18, h⟩ := q_bd_ok h
    refine q_ci (r := r_17) (va_runS (As := [.int r_15]) (rest := []) ⟨hx, hb, hml, hown, hts⟩ (c_X4_bits l D y t q _ N r_15 r_17 hc_18) (va_cwS 1 hts gX4_then_X4_bits rfl rfl rfl eX4_bits ⟨Nat.le_of_ble_eq_true rfl, Nat.le_of_ble_eq_true rfl⟩) ⟨q_blind, (q_pre hP hK hZ hD hA hS [] rfl (by decide))⟩ rfl rfl hl.1 rfl (lv_room (Nat.le_of_ble_eq_true rfl)) dX4_then_52 ⟨Nat.zero_le _, Nat.zero_le _⟩) hP hD hA hS [] rfl (by decide) rfl (fun H locs hP hD hS => ?_)
    have hP : va_P D vwCl (wM y q F G) H := hP
    have hD : va_D A (wM y q F G) := hD
    refine lv_istore_n (lv' := [(3, .int r_17), (0, .ref (q 0))]) hx hb dX4_then_55 rfl hl (by decide) rfl (fun ls hl => ?_)
    refine lv_aload_n hx hb dX4_then_56 rfl (lv_at hl 1 rfl) ?_
    obtain ⟨F_19, hc_20, h⟩ := q_bd_ok h
    refine q_cv (va_runV (As := []) (rest := []) ⟨hx, hb, hml, hown, hts⟩ (c_X4_putsBack l D y t q _ N F G F_19 hc_20) (cwV 0 hts gX4_then_X4_putsBack rfl rfl rfl eX4_putsBack ⟨Nat.le_of_ble_eq_true rfl, Nat.le_of_ble_eq_true rfl⟩) ⟨q_blind, (va_recv hK hP (ci := 4) (q0 := 0) rfl rfl), (q_pre hP hK hZ hD hA hS [0, 1, 2, 3, 4, 5, 6, 7, 8] rfl (by decide))⟩ rfl rfl hl.1 rfl (lv_room (Nat.le_of_ble_eq_true rfl)) dX4_then_57 ⟨Nat.zero_le _, Nat.zero_le _⟩) hP hD hA hS [0, 1, 2, 3, 4, 5, 6, 7, 8] rfl (by decide) rfl (fun H locs hP hD hS => ?_)
    have hP : va_P D vwCl (wM y q F_19 G) H := hP
    have hD : va_D A (wM y q F_19 G) := hD
    refine lv_iload_n hx hb dX4_then_60 rfl (lv_at hl 0 rfl) ?_
    have e9 := Option.some.inj h
    exact q_iret hx hb hr hlocks hK hP hD hS dX4_then_61 (by first | rw [← e9] | rfl) (by first | rw [← e9] | rfl)
  unfold f_X4_then at h
  refine lv_iload_n hx hb dX4_then_0 rfl (lv_at hl 1 rfl) ?_
  refine lv_i2l hx hb dX4_then_1 rfl ?_
  refine lv_iconst (v := 0) hx hb dX4_then_2 (by decide) ?_
  refine lv_sipush (v := 400) hx hb dX4_then_3 (by decide) ?_
  obtain ⟨r_1, hc_2, h⟩ := q_bd_ok h
  refine q_ci (r := r_1) (va_runS (As := [.long (p1.toInt64), .int (0 : Int32), .int (400 : Int32)]) (rest := []) ⟨hx, hb, hml, hown, hts⟩ (c_X4_in l D y t q _ N (p1.toInt64) (0 : Int32) (400 : Int32) r_1 hc_2) (va_cwS 3 hts gX4_then_X4_in rfl rfl rfl eX4_in ⟨Nat.le_of_ble_eq_true rfl, Nat.le_of_ble_eq_true rfl⟩) ⟨q_blind, (q_pre hP hK hZ hD hA hS [] rfl (by decide))⟩ rfl rfl hl.1 rfl (lv_room (Nat.le_of_ble_eq_true rfl)) dX4_then_6 ⟨Nat.zero_le _, Nat.zero_le _⟩) hP hD hA hS [] rfl (by decide) rfl (fun H locs hP hD hS => ?_)
  have hP : va_P D vwCl (wM y q F G) H := hP
  have hD : va_D A (wM y q F G) := hD
  refine lv_if_eq (tgt := 22) hx hb dX4_then_9 (by decide) (fun c_3 => ?_) (fun c_3 => ?_)
  · have h := q_t c_3 h
    exact B22 F G _ _ _ hP hD hS (lv_sub hl [0] rfl) h
  · have h := q_f c_3 h
    refine lv_iload_n hx hb dX4_then_12 rfl (lv_at hl 2 rfl) ?_
    refine lv_i2l hx hb dX4_then_13 rfl ?_
    refine lv_iconst (v := 0) hx hb dX4_then_14 (by decide) ?_
    refine lv_iconst (v := 1) hx hb dX4_then_15 (by decide) ?_
    obtain ⟨r_7, hc_8, h⟩ := q_bd_ok h
    refine q_ci (r := r_7) (va_runS (As := [.long (p2.toInt64), .int (0 : Int32), .int (1 : Int32)]) (rest := []) ⟨hx, hb, hml, hown, hts⟩ (c_X4_in l D y t q _ N (p2.toInt64) (0 : Int32) (1 : Int32) r_7 hc_8) (va_cwS 3 hts gX4_then_X4_in rfl rfl rfl eX4_in ⟨Nat.le_of_ble_eq_true rfl, Nat.le_of_ble_eq_true rfl⟩) ⟨q_blind, (q_pre hP hK hZ hD hA hS [] rfl (by decide))⟩ rfl rfl hl.1 rfl (lv_room (Nat.le_of_ble_eq_true rfl)) dX4_then_16 ⟨Nat.zero_le _, Nat.zero_le _⟩) hP hD hA hS [] rfl (by decide) rfl (fun H locs hP hD hS => ?_)
    have hP : va_P D vwCl (wM y q F G) H := hP
    have hD : va_D A (wM y q F G) := hD
    refine lv_if_ne (tgt := 29) hx hb dX4_then_19 (by decide) (fun c_9 => ?_) (fun c_9 => ?_)
    · have h := q_f c_9 h
      refine lv_aload_n hx hb dX4_then_29 rfl (lv_at hl 0 rfl) ?_
      obtain ⟨F_10, hc_11, h⟩ := q_bd_ok h
      refine q_cv (va_runV (As := []) (rest := []) ⟨hx, hb, hml, hown, hts⟩ (c_X4_thinks l D y t q _ N F G F_10 hc_11) (cwV 0 hts gX4_then_X4_thinks rfl rfl rfl eX4_thinks ⟨Nat.le_of_ble_eq_true rfl, Nat.le_of_ble_eq_true rfl⟩) ⟨q_blind, (va_recv hK hP (ci := 4) (q0 := 0) rfl rfl), (q_pre hP hK hZ hD hA hS [0, 1, 2, 3, 4, 5, 6, 7, 8] rfl (by decide))⟩ rfl rfl hl.1 rfl (lv_room (Nat.le_of_ble_eq_true rfl)) dX4_then_30 ⟨Nat.zero_le _, Nat.zero_le _⟩) hP hD hA hS [0, 1, 2, 3, 4, 5, 6, 7, 8] rfl (by decide) rfl (fun H locs hP hD hS => ?_)
      have hP : va_P D vwCl (wM y q F_10 G) H := hP
      have hD : va_D A (wM y q F_10 G) := hD
      refine lv_aload_n hx hb dX4_then_33 rfl (lv_at hl 0 rfl) ?_
      refine lv_iload_n hx hb dX4_then_34 rfl (lv_at hl 1 rfl) ?_
      obtain ⟨F_12, hc_13, h⟩ := q_bd_ok h
      refine q_cv (va_runV (As := [.int p1]) (rest := []) ⟨hx, hb, hml, hown, hts⟩ (c_X4_goesFor l D y t q _ N F_10 G p1 F_12 hc_13) (cwV 1 hts gX4_then_X4_goesFor rfl rfl rfl eX4_goesFor ⟨Nat.le_of_ble_eq_true rfl, Nat.le_of_ble_eq_true rfl⟩) ⟨q_blind, (va_recv hK hP (ci := 4) (q0 := 0) rfl rfl), (q_pre hP hK hZ hD hA hS [0, 1, 2, 3, 4, 5, 6, 7, 8] rfl (by decide))⟩ rfl rfl hl.1 rfl (lv_room (Nat.le_of_ble_eq_true rfl)) dX4_then_35 ⟨Nat.zero_le _, Nat.zero_le _⟩) hP hD hA hS [0, 1, 2, 3, 4, 5, 6, 7, 8] rfl (by decide) rfl (fun H locs hP hD hS => ?_)
      have hP : va_P D vwCl (wM y q F_12 G) H := hP
      have hD : va_D A (wM y q F_12 G) := hD
      refine lv_aload_n hx hb dX4_then_38 rfl (lv_at hl 0 rfl) ?_
      refine lv_iload_n hx hb dX4_then_39 rfl (lv_at hl 2 rfl) ?_
      refine lv_if_ne (tgt := 47) hx hb dX4_then_40 (by decide) (fun c_14 => ?_) (fun c_14 => ?_)
      · have h := q_f c_14 h
        refine lv_bipush (v := 6) hx hb dX4_then_47 (by decide) ?_
        exact B49 F_12 G (6 : Int32) _ _ _ hP hD hS (lv_sub hl [0] rfl) h
      · have h := q_t c_14 h
        refine lv_iconst (v := 3) hx hb dX4_then_43 (by decide) ?_
        refine lv_goto (tgt := 49) hx hb dX4_then_44 (by decide) ?_
        exact B49 F_12 G (3 : Int32) _ _ _ hP hD hS (lv_sub hl [0] rfl) h
    · have h := q_t c_9 h
      exact B22 F G _ _ _ hP hD hS (lv_sub hl [0] rfl) h
theorem eX4_then : yX4_then.cls = RX4 ∧ yX4_then.cls ≠ "java/lang/invoke/MethodHandle" ∧ yX4_then.cls ≠ "java/lang/invoke/VarHandle" ∧ (parseMethodDescriptor yX4_then.desc).map (fun d => d.parameters.length) = some 2 := by decide +kernel
def f_X4_soIn_L3 (N : Nat) (G : Nat → Int64) (v1 : Int32) (v2 : Int32) (v3 : Int32) (v4 : Int32) : Nat → Int32 → (Nat → Nat → Int32) → Option (Int32 × (Nat → Nat → Int32))
  | 0, _, _ => none
  | k + 1, v5, F =>
    if v4 < v5 then
      some (v5, F)
    else
      q_bd (f_X4_it N F G v1 v2) (fun r_5 =>
      if r_5 = v3 then
        some (v5, F)
      else
        q_bd (f_X4_goes N F G) (fun F_8 =>
        q_let (v5 + 1) (fun x_10 =>
        f_X4_soIn_L3 N G v1 v2 v3 v4 k x_10 F_8)))
def f_X4_soIn_B30 (N : Nat) (F : Nat → Nat → Int32) (G : Nat → Int64) (v4 : Int32) (v5 : Int32) : Option (Int32 × (Nat → Nat → Int32)) :=
  q_bd (f_X4_putsBack N F G) (fun F_11 =>
  if v5 ≤ v4 then
    some (v5, F_11)
  else
    some ((-1 : Int32), F_11))
def f_X4_soIn (N : Nat) (F : Nat → Nat → Int32) (G : Nat → Int64) (p1 : Int32) (p2 : Int32) (p3 : Int32) (p4 : Int32) : Option (Int32 × (Nat → Nat → Int32)) :=
  q_bd2 (f_X4_soIn_L3 N G p1 p2 p3 p4 N (0 : Int32) F) (fun x_2 F_3 =>
  f_X4_soIn_B30 N F_3 G p4 x_2)
set_option maxHeartbeats 4000000 in
set_option maxRecDepth 100000 in
theorem c_X4_soIn (l : Launch) (D : va_G) (y : Nat → ClassId) (t : Nat → Nat) (q : Nat → Nat) (sz N : Nat) (F : Nat → Nat → Int32) (G : Nat → Int64) (p1 : Int32) (p2 : Int32) (p3 : Int32) (p4 : Int32) (res : Int32 × (Nat → Nat → Int32)) (h : f_X4_soIn N F G p1 p2 p3 p4 = some res) : Met l yX4_soIn wsX4_soIn ({ frames := 6, cells := 0, slots := 0, locals := 134 } : Room) (pPre D y t [.ref (q 0), .int p1, .int p2, .int p3, .int p4] (wM y q F G) sz) (pQi D y (res.1) (wM y q (res.2) G) (va_A (wM y q F G) sz)) 0 0 (va_A (wM y q F G) sz) := by
  refine q_start (Qc := (fun A => pQi D y (res.1) (wM y q (res.2) G) A)) (cc := cX4_soIn) (maxL := 6) (ret := (some .int)) (by decide) rfl (Nat.le_of_ble_eq_true rfl) ?_
  intro p e s m below meth c A ls hx hb hr hts hown hlocks hmn hml hP hK hZ hD hA hS hl
  have hl : lv_has ls 6 [(0, .ref (q 0)), (1, .int p1), (2, .int p2), (3, .int p3), (4, .int p4)] := hl
  have hown : s.vm.findClass RX4 = some m.cls := hown
  have B30 : ∀ (F : Nat → Nat → Int32) (G : Nat → Int64) (v4 : Int32) (v5 : Int32) (H : Heap) (locs : List Loc) (ls : Array Slot), va_P D vwCl (wM y q F G) H → va_D A (wM y q F G) → va_S A s.heap H locs → lv_has ls 6 [(0, .ref (q 0)), (4, .int v4), (5, .int v5)] → f_X4_soIn_B30 N F G v4 v5 = some res → W p l e ({ frames := 6, cells := 0, slots := 0, locals := 134 } : Room) s m ([.ref (q 0), .int p1, .int p2, .int p3, .int p4] : List Value).toArray below meth c H locs 0 0 (MQ below (pQi D y (res.1) (wM y q (res.2) G) A) ([.ref (q 0), .int p1, .int p2, .int p3, .int p4] : List Value).toArray s 0 0 A) (F0 m 30 ls []) := by
    intro F G v4 v5 H locs ls hP hD hS hl h
    unfold f_X4_soIn_B30 at h
    refine lv_aload_n hx hb dX4_soIn_30 rfl (lv_at hl 0 rfl) ?_
    obtain ⟨F_11, hc_12, h⟩ := q_bd_ok h
    refine q_cv (va_runV (As := []) (rest := []) ⟨hx, hb, hml, hown, hts⟩ (c_X4_putsBack l D y t q _ N F G F_11 hc_12) (cwV 0 hts gX4_soIn_X4_putsBack rfl rfl rfl eX4_putsBack ⟨Nat.le_of_ble_eq_true rfl, Nat.le_of_ble_eq_true rfl⟩) ⟨q_blind, (va_recv hK hP (ci := 4) (q0 := 0) rfl rfl), (q_pre hP hK hZ hD hA hS [0, 1, 2, 3, 4, 5, 6, 7, 8] rfl (by decide))⟩ rfl rfl hl.1 rfl (lv_room (Nat.le_of_ble_eq_true rfl)) dX4_soIn_31 ⟨Nat.zero_le _, Nat.zero_le _⟩) hP hD hA hS [0, 1, 2, 3, 4, 5, 6, 7, 8] rfl (by decide) rfl (fun H locs hP hD hS => ?_)
    have hP : va_P D vwCl (wM y q F_11 G) H := hP
    have hD : va_D A (wM y q F_11 G) := hD
    refine lv_iload hx hb dX4_soIn_34 (lv_at hl 2 rfl) ?_
    refine lv_iload hx hb dX4_soIn_36 (lv_at hl 1 rfl) ?_
    refine lv_icmp_le (tgt := 45) hx hb dX4_soIn_38 (by decide) (fun c_13 => ?_) (fun c_13 => ?_)
    · have h := q_t c_13 h
      refine lv_iload hx hb dX4_soIn_45 (lv_at hl 2 rfl) ?_
      have e9 := Option.some.inj h
      exact q_iret hx hb hr hlocks hK hP hD hS dX4_soIn_47 (by first | rw [← e9] | rfl) (by first | rw [← e9] | rfl)
    · have h := q_f c_13 h
      refine lv_iconst (v := -1) hx hb dX4_soIn_41 (by decide) ?_
      refine lv_goto (tgt := 47) hx hb dX4_soIn_42 (by decide) ?_
      have e9 := Option.some.inj h
      exact q_iret hx hb hr hlocks hK hP hD hS dX4_soIn_47 (by first | rw [← e9] | rfl) (by first | rw [← e9] | rfl)
  unfold f_X4_soIn at h
  refine lv_iconst (v := 0) hx hb dX4_soIn_0 (by decide) ?_
  refine lv_istore (lv' := [(5, .int (0 : Int32)), (0, .ref (q 0)), (1, .int p1), (2, .int p2), (3, .int p3), (4, .int p4)]) hx hb dX4_soIn_1 hl (by decide) rfl (fun ls hl => ?_)
  obtain ⟨x_2, F_3, hL1, h⟩ := q_bd2_ok h
  have K3_1 : ∀ (H : Heap) (locs : List Loc) (ls : Array Slot), va_P D vwCl (wM y q F_3 G) H → va_D A (wM y q F_3 G) → va_S A s.heap H locs → lv_has ls 6 [(0, .ref (q 0)), (1, .int p1), (2, .int p2), (3, .int p3), (4, .int p4), (5, .int x_2)] → W p l e ({ frames := 6, cells := 0, slots := 0, locals := 134 } : Room) s m ([.ref (q 0), .int p1, .int p2, .int p3, .int p4] : List Value).toArray below meth c H locs 0 0 (MQ below (pQi D y (res.1) (wM y q (res.2) G) A) ([.ref (q 0), .int p1, .int p2, .int p3, .int p4] : List Value).toArray s 0 0 A) (F0 m 30 ls []) := by
    intro H locs ls hP hD hS hl
    exact B30 F_3 G p4 x_2 _ _ _ hP hD hS (lv_sub hl [0, 4, 5] rfl) h
  have L3_1 : ∀ (G : Nat → Int64) (v1 : Int32) (v2 : Int32) (v3 : Int32) (v4 : Int32) (k : Nat) (v5 : Int32) (F : Nat → Nat → Int32), (∀ (H : Heap) (locs : List Loc) (ls : Array Slot), va_P D vwCl (wM y q F_3 G) H → va_D A (wM y q F_3 G) → va_S A s.heap H locs → lv_has ls 6 [(0, .ref (q 0)), (1, .int v1), (2, .int v2), (3, .int v3), (4, .int v4), (5, .int x_2)] → W p l e ({ frames := 6, cells := 0, slots := 0, locals := 134 } : Room) s m ([.ref (q 0), .int p1, .int p2, .int p3, .int p4] : List Value).toArray below meth c H locs 0 0 (MQ below (pQi D y (res.1) (wM y q (res.2) G) A) ([.ref (q 0), .int p1, .int p2, .int p3, .int p4] : List Value).toArray s 0 0 A) (F0 m 30 ls [])) → ∀ (H : Heap) (locs : List Loc) (ls : Array Slot), va_P D vwCl (wM y q F G) H → va_D A (wM y q F G) → va_S A s.heap H locs → lv_has ls 6 [(0, .ref (q 0)), (1, .int v1), (2, .int v2), (3, .int v3), (4, .int v4), (5, .int v5)] → f_X4_soIn_L3 N G v1 v2 v3 v4 k v5 F = some (x_2, F_3) → W p l e ({ frames := 6, cells := 0, slots := 0, locals := 134 } : Room) s m ([.ref (q 0), .int p1, .int p2, .int p3, .int p4] : List Value).toArray below meth c H locs 0 0 (MQ below (pQi D y (res.1) (wM y q (res.2) G) A) ([.ref (q 0), .int p1, .int p2, .int p3, .int p4] : List Value).toArray s 0 0 A) (F0 m 3 ls []) := by
    intro G v1 v2 v3 v4 k
    induction k with
    | zero =>
      intro v5 F K3_1 H locs ls hP hD hS hl h
      have h : (none : Option (Int32 × (Nat → Nat → Int32))) = some _ := h
      cases h
    | succ k ih3_1 =>
      intro v5 F K3_1 H locs ls hP hD hS hl h
      rw [f_X4_soIn_L3] at h
      refine lv_iload hx hb dX4_soIn_3 (lv_at hl 5 rfl) ?_
      refine lv_iload hx hb dX4_soIn_5 (lv_at hl 4 rfl) ?_
      refine lv_icmp_gt (tgt := 30) hx hb dX4_soIn_7 (by decide) (fun c_4 => ?_) (fun c_4 => ?_)
      · have h := q_t c_4 h
        cases h
        exact K3_1 _ _ _ hP hD hS (lv_sub hl [0, 1, 2, 3, 4, 5] rfl)
      · have h := q_f c_4 h
        refine lv_aload_n hx hb dX4_soIn_10 rfl (lv_at hl 0 rfl) ?_
        refine lv_iload_n hx hb dX4_soIn_11 rfl (lv_at hl 1 rfl) ?_
        refine lv_iload_n hx hb dX4_soIn_12 rfl (lv_at hl 2 rfl) ?_
        obtain ⟨r_5, hc_6, h⟩ := q_bd_ok h
        refine q_ci (r := r_5) (va_runV (As := [.int v1, .int v2]) (rest := []) ⟨hx, hb, hml, hown, hts⟩ (c_X4_it l D y t q _ N F G v1 v2 r_5 hc_6) (cwV 2 hts gX4_soIn_X4_it rfl rfl rfl eX4_it ⟨Nat.le_of_ble_eq_true rfl, Nat.le_of_ble_eq_true rfl⟩) ⟨q_blind, (va_recv hK hP (ci := 4) (q0 := 0) rfl rfl), (q_pre hP hK hZ hD hA hS [0, 1, 2, 3, 4, 5, 6, 7, 8] rfl (by decide))⟩ rfl rfl hl.1 rfl (lv_room (Nat.le_of_ble_eq_true rfl)) dX4_soIn_13 ⟨Nat.zero_le _, Nat.zero_le _⟩) hP hD hA hS [0, 1, 2, 3, 4, 5, 6, 7, 8] rfl (by decide) rfl (fun H locs hP hD hS => ?_)
        have hP : va_P D vwCl (wM y q F G) H := hP
        have hD : va_D A (wM y q F G) := hD
        refine lv_iload_n hx hb dX4_soIn_16 rfl (lv_at hl 3 rfl) ?_
        refine lv_icmp_eq (tgt := 30) hx hb dX4_soIn_17 (by decide) (fun c_7 => ?_) (fun c_7 => ?_)
        · have h := q_t c_7 h
          cases h
          exact K3_1 _ _ _ hP hD hS (lv_sub hl [0, 1, 2, 3, 4, 5] rfl)
        · have h := q_f c_7 h
          refine lv_aload_n hx hb dX4_soIn_20 rfl (lv_at hl 0 rfl) ?_
          obtain ⟨F_8, hc_9, h⟩ := q_bd_ok h
          refine q_cv (va_runV (As := []) (rest := []) ⟨hx, hb, hml, hown, hts⟩ (c_X4_goes l D y t q _ N F G F_8 hc_9) (cwV 0 hts gX4_soIn_X4_goes rfl rfl rfl eX4_goes ⟨Nat.le_of_ble_eq_true rfl, Nat.le_of_ble_eq_true rfl⟩) ⟨q_blind, (va_recv hK hP (ci := 4) (q0 := 0) rfl rfl), (q_pre hP hK hZ hD hA hS [0, 1, 2, 3, 4, 5, 6, 7, 8] rfl (by decide))⟩ rfl rfl hl.1 rfl (lv_room (Nat.le_of_ble_eq_true rfl)) dX4_soIn_21 ⟨Nat.zero_le _, Nat.zero_le _⟩) hP hD hA hS [0, 1, 2, 3, 4, 5, 6, 7, 8] rfl (by decide) rfl (fun H locs hP hD hS => ?_)
          have hP : va_P D vwCl (wM y q F_8 G) H := hP
          have hD : va_D A (wM y q F_8 G) := hD
          obtain ⟨x_10, ex_10, h⟩ := q_let_ok h
          refine lv_iinc (v := x_10) (lv' := [(5, .int x_10), (0, .ref (q 0)), (1, .int v1), (2, .int v2), (3, .int v3), (4, .int v4)]) hx hb dX4_soIn_24 hl (k := 5) rfl (by rw [ex_10]; rfl) (by decide) rfl (fun ls hl => ?_)
          refine lv_goto (tgt := 3) hx hb dX4_soIn_27 (by decide) ?_
          exact ih3_1 x_10 F_8 K3_1 _ _ _ hP hD hS (lv_sub hl [1, 2, 3, 4, 5, 0] rfl) h
  exact L3_1 G p1 p2 p3 p4 N (0 : Int32) F K3_1 _ _ _ hP hD hS (lv_sub hl [1, 2, 3, 4, 5, 0] rfl) hL1
theorem eX4_soIn : yX4_soIn.cls = RX4 ∧ yX4_soIn.cls ≠ "java/lang/invoke/MethodHandle" ∧ yX4_soIn.cls ≠ "java/lang/invoke/VarHandle" ∧ (parseMethodDescriptor yX4_soIn.desc).map (fun d => d.parameters.length) = some 4 := by decide +kernel
theorem kX4_gets_0 : Cond.constant RX4 35 (-1000000001) ∈ wsX4_gets := List.mem_of_getElem? (i := 1) (by decide +kernel)
def f_X4_gets (N : Nat) (F : Nat → Nat → Int32) (G : Nat → Int64) (p1 : Int32) : Option (Int32 × (Nat → Nat → Int32)) :=
  q_bd (f_X4_isThing N F G p1) (fun r_1 =>
  if r_1 = 0 then
    q_bd2 (f_X4_finds N F G (-1000000001 : Int32)) (fun r_12 F_13 =>
    some (r_12, F_13))
  else
    q_bd (f_X4_thinks N F G) (fun F_4 =>
    q_bd2 (f_X4_soIn N F_4 G p1 (3 : Int32) (1 : Int32) (400 : Int32)) (fun r_6 F_7 =>
    q_bd2 (f_X4_orNone N F_7 G r_6) (fun r_9 F_10 =>
    some (r_9, F_10)))))
set_option maxHeartbeats 4000000 in
set_option maxRecDepth 100000 in
theorem c_X4_gets (l : Launch) (D : va_G) (y : Nat → ClassId) (t : Nat → Nat) (q : Nat → Nat) (sz N : Nat) (F : Nat → Nat → Int32) (G : Nat → Int64) (p1 : Int32) (res : Int32 × (Nat → Nat → Int32)) (h : f_X4_gets N F G p1 = some res) : Met l yX4_gets wsX4_gets ({ frames := 7, cells := 0, slots := 0, locals := 159 } : Room) (pPre D y t [.ref (q 0), .int p1] (wM y q F G) sz) (pQi D y (res.1) (wM y q (res.2) G) (va_A (wM y q F G) sz)) 0 0 (va_A (wM y q F G) sz) := by
  refine q_start (Qc := (fun A => pQi D y (res.1) (wM y q (res.2) G) A)) (cc := cX4_gets) (maxL := 2) (ret := (some .int)) (by decide) rfl (Nat.le_of_ble_eq_true rfl) ?_
  intro p e s m below meth c A ls hx hb hr hts hown hlocks hmn hml hP hK hZ hD hA hS hl
  have hl : lv_has ls 2 [(0, .ref (q 0)), (1, .int p1)] := hl
  have hown : s.vm.findClass RX4 = some m.cls := hown
  unfold f_X4_gets at h
  refine lv_aload_n hx hb dX4_gets_0 rfl (lv_at hl 0 rfl) ?_
  refine lv_iload_n hx hb dX4_gets_1 rfl (lv_at hl 1 rfl) ?_
  obtain ⟨r_1, hc_2, h⟩ := q_bd_ok h
  refine q_ci (r := r_1) (va_runV (As := [.int p1]) (rest := []) ⟨hx, hb, hml, hown, hts⟩ (c_X4_isThing l D y t q _ N F G p1 r_1 hc_2) (cwV 1 hts gX4_gets_X4_isThing rfl rfl rfl eX4_isThing ⟨Nat.le_of_ble_eq_true rfl, Nat.le_of_ble_eq_true rfl⟩) ⟨q_blind, (va_recv hK hP (ci := 4) (q0 := 0) rfl rfl), (q_pre hP hK hZ hD hA hS [0, 1, 2, 3, 4, 5, 6, 7, 8] rfl (by decide))⟩ rfl rfl hl.1 rfl (lv_room (Nat.le_of_ble_eq_true rfl)) dX4_gets_2 ⟨Nat.zero_le _, Nat.zero_le _⟩) hP hD hA hS [0, 1, 2, 3, 4, 5, 6, 7, 8] rfl (by decide) rfl (fun H locs hP hD hS => ?_)
  have hP : va_P D vwCl (wM y q F G) H := hP
  have hD : va_D A (wM y q F G) := hD
  refine lv_if_ne (tgt := 15) hx hb dX4_gets_5 (by decide) (fun c_3 => ?_) (fun c_3 => ?_)
  · have h := q_f c_3 h
    refine lv_aload_n hx hb dX4_gets_15 rfl (lv_at hl 0 rfl) ?_
    obtain ⟨F_4, hc_5, h⟩ := q_bd_ok h
    refine q_cv (va_runV (As := []) (rest := []) ⟨hx, hb, hml, hown, hts⟩ (c_X4_thinks l D y t q _ N F G F_4 hc_5) (cwV 0 hts gX4_gets_X4_thinks rfl rfl rfl eX4_thinks ⟨Nat.le_of_ble_eq_true rfl, Nat.le_of_ble_eq_true rfl⟩) ⟨q_blind, (va_recv hK hP (ci := 4) (q0 := 0) rfl rfl), (q_pre hP hK hZ hD hA hS [0, 1, 2, 3, 4, 5, 6, 7, 8] rfl (by decide))⟩ rfl rfl hl.1 rfl (lv_room (Nat.le_of_ble_eq_true rfl)) dX4_gets_16 ⟨Nat.zero_le _, Nat.zero_le _⟩) hP hD hA hS [0, 1, 2, 3, 4, 5, 6, 7, 8] rfl (by decide) rfl (fun H locs hP hD hS => ?_)
    have hP : va_P D vwCl (wM y q F_4 G) H := hP
    have hD : va_D A (wM y q F_4 G) := hD
    refine lv_aload_n hx hb dX4_gets_19 rfl (lv_at hl 0 rfl) ?_
    refine lv_aload_n hx hb dX4_gets_20 rfl (lv_at hl 0 rfl) ?_
    refine lv_iload_n hx hb dX4_gets_21 rfl (lv_at hl 1 rfl) ?_
    refine lv_iconst (v := 3) hx hb dX4_gets_22 (by decide) ?_
    refine lv_iconst (v := 1) hx hb dX4_gets_23 (by decide) ?_
    refine lv_sipush (v := 400) hx hb dX4_gets_24 (by decide) ?_
    obtain ⟨r_6, F_7, hc_8, h⟩ := q_bd2_ok h
    refine q_ci (r := r_6) (va_runV (As := [.int p1, .int (3 : Int32), .int (1 : Int32), .int (400 : Int32)]) (rest := [.ref (q 0)]) ⟨hx, hb, hml, hown, hts⟩ (c_X4_soIn l D y t q _ N F_4 G p1 (3 : Int32) (1 : Int32) (400 : Int32) (r_6, F_7) hc_8) (cwV 4 hts gX4_gets_X4_soIn rfl rfl rfl eX4_soIn ⟨Nat.le_of_ble_eq_true rfl, Nat.le_of_ble_eq_true rfl⟩) ⟨q_blind, (va_recv hK hP (ci := 4) (q0 := 0) rfl rfl), (q_pre hP hK hZ hD hA hS [0, 1, 2, 3, 4, 5, 6, 7, 8] rfl (by decide))⟩ rfl rfl hl.1 rfl (lv_room (Nat.le_of_ble_eq_true rfl)) dX4_gets_27 ⟨Nat.zero_le _, Nat.zero_le _⟩) hP hD hA hS [0, 1, 2, 3, 4, 5, 6, 7, 8] rfl (by decide) rfl (fun H locs hP hD hS => ?_)
    have hP : va_P D vwCl (wM y q F_7 G) H := hP
    have hD : va_D A (wM y q F_7 G) := hD
    obtain ⟨r_9, F_10, hc_11, h⟩ := q_bd2_ok h
    refine q_ci (r := r_9) (va_runV (As := [.int r_6]) (rest := []) ⟨hx, hb, hml, hown, hts⟩ (c_X4_orNone l D y t q _ N F_7 G r_6 (r_9, F_10) hc_11) (cwV 1 hts gX4_gets_X4_orNone rfl rfl rfl eX4_orNone ⟨Nat.le_of_ble_eq_true rfl, Nat.le_of_ble_eq_true rfl⟩) ⟨q_blind, (va_recv hK hP (ci := 4) (q0 := 0) rfl rfl), (q_pre hP hK hZ hD hA hS [0, 1, 2, 3, 4, 5, 6, 7, 8] rfl (by decide))⟩ rfl rfl hl.1 rfl (lv_room (Nat.le_of_ble_eq_true rfl)) dX4_gets_30 ⟨Nat.zero_le _, Nat.zero_le _⟩) hP hD hA hS [0, 1, 2, 3, 4, 5, 6, 7, 8] rfl (by decide) rfl (fun H locs hP hD hS => ?_)
    have hP : va_P D vwCl (wM y q F_10 G) H := hP
    have hD : va_D A (wM y q F_10 G) := hD
    have e9 := Option.some.inj h
    exact q_iret hx hb hr hlocks hK hP hD hS dX4_gets_33 (by first | rw [← e9] | rfl) (by first | rw [← e9] | rfl)
  · have h := q_t c_3 h
    refine lv_aload_n hx hb dX4_gets_8 rfl (lv_at hl 0 rfl) ?_
    refine lv_ldc (v := -1000000001) hx hb hown (hts _ kX4_gets_0) dX4_gets_9 ?_
    obtain ⟨r_12, F_13, hc_14, h⟩ := q_bd2_ok h
    refine q_ci (r := r_12) (va_runV (As := [.int (-1000000001 : Int32)]) (rest := []) ⟨hx, hb, hml, hown, hts⟩ (c_X4_finds l D y t q _ N F G (-1000000001 : Int32) (r_12, F_13) hc_14) (cwV 1 hts gX4_gets_X4_finds rfl rfl rfl eX4_finds ⟨Nat.le_of_ble_eq_true rfl, Nat.le_of_ble_eq_true rfl⟩) ⟨q_blind, (va_recv hK hP (ci := 4) (q0 := 0) rfl rfl), (q_pre hP hK hZ hD hA hS [0, 1, 2, 3, 4, 5, 6, 7, 8] rfl (by decide))⟩ rfl rfl hl.1 rfl (lv_room (Nat.le_of_ble_eq_true rfl)) dX4_gets_11 ⟨Nat.zero_le _, Nat.zero_le _⟩) hP hD hA hS [0, 1, 2, 3, 4, 5, 6, 7, 8] rfl (by decide) rfl (fun H locs hP hD hS => ?_)
    have hP : va_P D vwCl (wM y q F_13 G) H := hP
    have hD : va_D A (wM y q F_13 G) := hD
    have e9 := Option.some.inj h
    exact q_iret hx hb hr hlocks hK hP hD hS dX4_gets_14 (by first | rw [← e9] | rfl) (by first | rw [← e9] | rfl)
theorem eX4_gets : yX4_gets.cls = RX4 ∧ yX4_gets.cls ≠ "java/lang/invoke/MethodHandle" ∧ yX4_gets.cls ≠ "java/lang/invoke/VarHandle" ∧ (parseMethodDescriptor yX4_gets.desc).map (fun d => d.parameters.length) = some 1 := by decide +kernel
theorem kX4_dry_0 : Cond.constant RX4 35 (-1000000001) ∈ wsX4_dry := List.mem_of_getElem? (i := 1) (by decide +kernel)
def f_X4_dry (N : Nat) (F : Nat → Nat → Int32) (G : Nat → Int64) (p1 : Int32) : Option (Int32 × (Nat → Nat → Int32)) :=
  q_bd (f_X4_isThing N F G p1) (fun r_1 =>
  if r_1 = 0 then
    q_bd2 (f_X4_finds N F G (-1000000001 : Int32)) (fun r_12 F_13 =>
    some (r_12, F_13))
  else
    q_bd (f_X4_thinks N F G) (fun F_4 =>
    q_bd2 (f_X4_soIn N F_4 G p1 (4 : Int32) (0 : Int32) (400 : Int32)) (fun r_6 F_7 =>
    q_bd2 (f_X4_orNone N F_7 G r_6) (fun r_9 F_10 =>
    some (r_9, F_10)))))
set_option maxHeartbeats 4000000 in
set_option maxRecDepth 100000 in
theorem c_X4_dry (l : Launch) (D : va_G) (y : Nat → ClassId) (t : Nat → Nat) (q : Nat → Nat) (sz N : Nat) (F : Nat → Nat → Int32) (G : Nat → Int64) (p1 : Int32) (res : Int32 × (Nat → Nat → Int32)) (h : f_X4_dry N F G p1 = some res) : Met l yX4_dry wsX4_dry ({ frames := 7, cells := 0, slots := 0, locals := 159 } : Room) (pPre D y t [.ref (q 0), .int p1] (wM y q F G) sz) (pQi D y (res.1) (wM y q (res.2) G) (va_A (wM y q F G) sz)) 0 0 (va_A (wM y q F G) sz) := by
  refine q_start (Qc := (fun A => pQi D y (res.1) (wM y q (res.2) G) A)) (cc := cX4_dry) (maxL := 2) (ret := (some .int)) (by decide) rfl (Nat.le_of_ble_eq_true rfl) ?_
  intro p e s m below meth c A ls hx hb hr hts hown hlocks hmn hml hP hK hZ hD hA hS hl
  have hl : lv_has ls 2 [(0, .ref (q 0)), (1, .int p1)] := hl
  have hown : s.vm.findClass RX4 = some m.cls := hown
  unfold f_X4_dry at h
  refine lv_aload_n hx hb dX4_dry_0 rfl (lv_at hl 0 rfl) ?_
  refine lv_iload_n hx hb dX4_dry_1 rfl (lv_at hl 1 rfl) ?_
  obtain ⟨r_1, hc_2, h⟩ := q_bd_ok h
  refine q_ci (r := r_1) (va_runV (As := [.int p1]) (rest := []) ⟨hx, hb, hml, hown, hts⟩ (c_X4_isThing l D y t q _ N F G p1 r_1 hc_2) (cwV 1 hts gX4_dry_X4_isThing rfl rfl rfl eX4_isThing ⟨Nat.le_of_ble_eq_true rfl, Nat.le_of_ble_eq_true rfl⟩) ⟨q_blind, (va_recv hK hP (ci := 4) (q0 := 0) rfl rfl), (q_pre hP hK hZ hD hA hS [0, 1, 2, 3, 4, 5, 6, 7, 8] rfl (by decide))⟩ rfl rfl hl.1 rfl (lv_room (Nat.le_of_ble_eq_true rfl)) dX4_dry_2 ⟨Nat.zero_le _, Nat.zero_le _⟩) hP hD hA hS [0, 1, 2, 3, 4, 5, 6, 7, 8] rfl (by decide) rfl (fun H locs hP hD hS => ?_)
  have hP : va_P D vwCl (wM y q F G) H := hP
  have hD : va_D A (wM y q F G) := hD
  refine lv_if_ne (tgt := 15) hx hb dX4_dry_5 (by decide) (fun c_3 => ?_) (fun c_3 => ?_)
  · have h := q_f c_3 h
    refine lv_aload_n hx hb dX4_dry_15 rfl (lv_at hl 0 rfl) ?_
    obtain ⟨F_4, hc_5, h⟩ := q_bd_ok h
    refine q_cv (va_runV (As := []) (rest := []) ⟨hx, hb, hml, hown, hts⟩ (c_X4_thinks l D y t q _ N F G F_4 hc_5) (cwV 0 hts gX4_dry_X4_thinks rfl rfl rfl eX4_thinks ⟨Nat.le_of_ble_eq_true rfl, Nat.le_of_ble_eq_true rfl⟩) ⟨q_blind, (va_recv hK hP (ci := 4) (q0 := 0) rfl rfl), (q_pre hP hK hZ hD hA hS [0, 1, 2, 3, 4, 5, 6, 7, 8] rfl (by decide))⟩ rfl rfl hl.1 rfl (lv_room (Nat.le_of_ble_eq_true rfl)) dX4_dry_16 ⟨Nat.zero_le _, Nat.zero_le _⟩) hP hD hA hS [0, 1, 2, 3, 4, 5, 6, 7, 8] rfl (by decide) rfl (fun H locs hP hD hS => ?_)
    have hP : va_P D vwCl (wM y q F_4 G) H := hP
    have hD : va_D A (wM y q F_4 G) := hD
    refine lv_aload_n hx hb dX4_dry_19 rfl (lv_at hl 0 rfl) ?_
    refine lv_aload_n hx hb dX4_dry_20 rfl (lv_at hl 0 rfl) ?_
    refine lv_iload_n hx hb dX4_dry_21 rfl (lv_at hl 1 rfl) ?_
    refine lv_iconst (v := 4) hx hb dX4_dry_22 (by decide) ?_
    refine lv_iconst (v := 0) hx hb dX4_dry_23 (by decide) ?_
    refine lv_sipush (v := 400) hx hb dX4_dry_24 (by decide) ?_
    obtain ⟨r_6, F_7, hc_8, h⟩ := q_bd2_ok h
    refine q_ci (r := r_6) (va_runV (As := [.int p1, .int (4 : Int32), .int (0 : Int32), .int (400 : Int32)]) (rest := [.ref (q 0)]) ⟨hx, hb, hml, hown, hts⟩ (c_X4_soIn l D y t q _ N F_4 G p1 (4 : Int32) (0 : Int32) (400 : Int32) (r_6, F_7) hc_8) (cwV 4 hts gX4_dry_X4_soIn rfl rfl rfl eX4_soIn ⟨Nat.le_of_ble_eq_true rfl, Nat.le_of_ble_eq_true rfl⟩) ⟨q_blind, (va_recv hK hP (ci := 4) (q0 := 0) rfl rfl), (q_pre hP hK hZ hD hA hS [0, 1, 2, 3, 4, 5, 6, 7, 8] rfl (by decide))⟩ rfl rfl hl.1 rfl (lv_room (Nat.le_of_ble_eq_true rfl)) dX4_dry_27 ⟨Nat.zero_le _, Nat.zero_le _⟩) hP hD hA hS [0, 1, 2, 3, 4, 5, 6, 7, 8] rfl (by decide) rfl (fun H locs hP hD hS => ?_)
    have hP : va_P D vwCl (wM y q F_7 G) H := hP
    have hD : va_D A (wM y q F_7 G) := hD
    obtain ⟨r_9, F_10, hc_11, h⟩ := q_bd2_ok h
    refine q_ci (r := r_9) (va_runV (As := [.int r_6]) (rest := []) ⟨hx, hb, hml, hown, hts⟩ (c_X4_orNone l D y t q _ N F_7 G r_6 (r_9, F_10) hc_11) (cwV 1 hts gX4_dry_X4_orNone rfl rfl rfl eX4_orNone ⟨Nat.le_of_ble_eq_true rfl, Nat.le_of_ble_eq_true rfl⟩) ⟨q_blind, (va_recv hK hP (ci := 4) (q0 := 0) rfl rfl), (q_pre hP hK hZ hD hA hS [0, 1, 2, 3, 4, 5, 6, 7, 8] rfl (by decide))⟩ rfl rfl hl.1 rfl (lv_room (Nat.le_of_ble_eq_true rfl)) dX4_dry_30 ⟨Nat.zero_le _, Nat.zero_le _⟩) hP hD hA hS [0, 1, 2, 3, 4, 5, 6, 7, 8] rfl (by decide) rfl (fun H locs hP hD hS => ?_)
    have hP : va_P D vwCl (wM y q F_10 G) H := hP
    have hD : va_D A (wM y q F_10 G) := hD
    have e9 := Option.some.inj h
    exact q_iret hx hb hr hlocks hK hP hD hS dX4_dry_33 (by first | rw [← e9] | rfl) (by first | rw [← e9] | rfl)
  · have h := q_t c_3 h
    refine lv_aload_n hx hb dX4_dry_8 rfl (lv_at hl 0 rfl) ?_
    refine lv_ldc (v := -1000000001) hx hb hown (hts _ kX4_dry_0) dX4_dry_9 ?_
    obtain ⟨r_12, F_13, hc_14, h⟩ := q_bd2_ok h
    refine q_ci (r := r_12) (va_runV (As := [.int (-1000000001 : Int32)]) (rest := []) ⟨hx, hb, hml, hown, hts⟩ (c_X4_finds l D y t q _ N F G (-1000000001 : Int32) (r_12, F_13) hc_14) (cwV 1 hts gX4_dry_X4_finds rfl rfl rfl eX4_finds ⟨Nat.le_of_ble_eq_true rfl, Nat.le_of_ble_eq_true rfl⟩) ⟨q_blind, (va_recv hK hP (ci := 4) (q0 := 0) rfl rfl), (q_pre hP hK hZ hD hA hS [0, 1, 2, 3, 4, 5, 6, 7, 8] rfl (by decide))⟩ rfl rfl hl.1 rfl (lv_room (Nat.le_of_ble_eq_true rfl)) dX4_dry_11 ⟨Nat.zero_le _, Nat.zero_le _⟩) hP hD hA hS [0, 1, 2, 3, 4, 5, 6, 7, 8] rfl (by decide) rfl (fun H locs hP hD hS => ?_)
    have hP : va_P D vwCl (wM y q F_13 G) H := hP
    have hD : va_D A (wM y q F_13 G) := hD
    have e9 := Option.some.inj h
    exact q_iret hx hb hr hlocks hK hP hD hS dX4_dry_14 (by first | rw [← e9] | rfl) (by first | rw [← e9] | rfl)
theorem eX4_dry : yX4_dry.cls = RX4 ∧ yX4_dry.cls ≠ "java/lang/invoke/MethodHandle" ∧ yX4_dry.cls ≠ "java/lang/invoke/VarHandle" ∧ (parseMethodDescriptor yX4_dry.desc).map (fun d => d.parameters.length) = some 1 := by decide +kernel
theorem kX4_lost_0 : Cond.constant RX4 35 (-1000000001) ∈ wsX4_lost := List.mem_of_getElem? (i := 1) (by decide +kernel)
def f_X4_lost (N : Nat) (F : Nat → Nat → Int32) (G : Nat → Int64) (p1 : Int32) : Option (Int32 × (Nat → Nat → Int32)) :=
  q_bd (f_X4_isThing N F G p1) (fun r_1 =>
  if r_1 = 0 then
    q_bd2 (f_X4_finds N F G (-1000000001 : Int32)) (fun r_12 F_13 =>
    some (r_12, F_13))
  else
    q_bd (f_X4_thinks N F G) (fun F_4 =>
    q_bd2 (f_X4_soIn N F_4 G p1 (6 : Int32) (1 : Int32) (400 : Int32)) (fun r_6 F_7 =>
    q_bd2 (f_X4_orNone N F_7 G r_6) (fun r_9 F_10 =>
    some (r_9, F_10)))))
set_option maxHeartbeats 4000000 in
set_option maxRecDepth 100000 in
theorem c_X4_lost (l : Launch) (D : va_G) (y : Nat → ClassId) (t : Nat → Nat) (q : Nat → Nat) (sz N : Nat) (F : Nat → Nat → Int32) (G : Nat → Int64) (p1 : Int32) (res : Int32 × (Nat → Nat → Int32)) (h : f_X4_lost N F G p1 = some res) : Met l yX4_lost wsX4_lost ({ frames := 7, cells := 0, slots := 0, locals := 159 } : Room) (pPre D y t [.ref (q 0), .int p1] (wM y q F G) sz) (pQi D y (res.1) (wM y q (res.2) G) (va_A (wM y q F G) sz)) 0 0 (va_A (wM y q F G) sz) := by
  refine q_start (Qc := (fun A => pQi D y (res.1) (wM y q (res.2) G) A)) (cc := cX4_lost) (maxL := 2) (ret := (some .int)) (by decide) rfl (Nat.le_of_ble_eq_true rfl) ?_
  intro p e s m below meth c A ls hx hb hr hts hown hlocks hmn hml hP hK hZ hD hA hS hl
  have hl : lv_has ls 2 [(0, .ref (q 0)), (1, .int p1)] := hl
  have hown : s.vm.findClass RX4 = some m.cls := hown
  unfold f_X4_lost at h
  refine lv_aload_n hx hb dX4_lost_0 rfl (lv_at hl 0 rfl) ?_
  refine lv_iload_n hx hb dX4_lost_1 rfl (lv_at hl 1 rfl) ?_
  obtain ⟨r_1, hc_2, h⟩ := q_bd_ok h
  refine q_ci (r := r_1) (va_runV (As := [.int p1]) (rest := []) ⟨hx, hb, hml, hown, hts⟩ (c_X4_isThing l D y t q _ N F G p1 r_1 hc_2) (cwV 1 hts gX4_lost_X4_isThing rfl rfl rfl eX4_isThing ⟨Nat.le_of_ble_eq_true rfl, Nat.le_of_ble_eq_true rfl⟩) ⟨q_blind, (va_recv hK hP (ci := 4) (q0 := 0) rfl rfl), (q_pre hP hK hZ hD hA hS [0, 1, 2, 3, 4, 5, 6, 7, 8] rfl (by decide))⟩ rfl rfl hl.1 rfl (lv_room (Nat.le_of_ble_eq_true rfl)) dX4_lost_2 ⟨Nat.zero_le _, Nat.zero_le _⟩) hP hD hA hS [0, 1, 2, 3, 4, 5, 6, 7, 8] rfl (by decide) rfl (fun H locs hP hD hS => ?_)
  have hP : va_P D vwCl (wM y q F G) H := hP
  have hD : va_D A (wM y q F G) := hD
  refine lv_if_ne (tgt := 15) hx hb dX4_lost_5 (by decide) (fun c_3 => ?_) (fun c_3 => ?_)
  · have h := q_f c_3 h
    refine lv_aload_n hx hb dX4_lost_15 rfl (lv_at hl 0 rfl) ?_
    obtain ⟨F_4, hc_5, h⟩ := q_bd_ok h
    refine q_cv (va_runV (As := []) (rest := []) ⟨hx, hb, hml, hown, hts⟩ (c_X4_thinks l D y t q _ N F G F_4 hc_5) (cwV 0 hts gX4_lost_X4_thinks rfl rfl rfl eX4_thinks ⟨Nat.le_of_ble_eq_true rfl, Nat.le_of_ble_eq_true rfl⟩) ⟨q_blind, (va_recv hK hP (ci := 4) (q0 := 0) rfl rfl), (q_pre hP hK hZ hD hA hS [0, 1, 2, 3, 4, 5, 6, 7, 8] rfl (by decide))⟩ rfl rfl hl.1 rfl (lv_room (Nat.le_of_ble_eq_true rfl)) dX4_lost_16 ⟨Nat.zero_le _, Nat.zero_le _⟩) hP hD hA hS [0, 1, 2, 3, 4, 5, 6, 7, 8] rfl (by decide) rfl (fun H locs hP hD hS => ?_)
    have hP : va_P D vwCl (wM y q F_4 G) H := hP
    have hD : va_D A (wM y q F_4 G) := hD
    refine lv_aload_n hx hb dX4_lost_19 rfl (lv_at hl 0 rfl) ?_
    refine lv_aload_n hx hb dX4_lost_20 rfl (lv_at hl 0 rfl) ?_
    refine lv_iload_n hx hb dX4_lost_21 rfl (lv_at hl 1 rfl) ?_
    refine lv_bipush (v := 6) hx hb dX4_lost_22 (by decide) ?_
    refine lv_iconst (v := 1) hx hb dX4_lost_24 (by decide) ?_
    refine lv_sipush (v := 400) hx hb dX4_lost_25 (by decide) ?_
    obtain ⟨r_6, F_7, hc_8, h⟩ := q_bd2_ok h
    refine q_ci (r := r_6) (va_runV (As := [.int p1, .int (6 : Int32), .int (1 : Int32), .int (400 : Int32)]) (rest := [.ref (q 0)]) ⟨hx, hb, hml, hown, hts⟩ (c_X4_soIn l D y t q _ N F_4 G p1 (6 : Int32) (1 : Int32) (400 : Int32) (r_6, F_7) hc_8) (cwV 4 hts gX4_lost_X4_soIn rfl rfl rfl eX4_soIn ⟨Nat.le_of_ble_eq_true rfl, Nat.le_of_ble_eq_true rfl⟩) ⟨q_blind, (va_recv hK hP (ci := 4) (q0 := 0) rfl rfl), (q_pre hP hK hZ hD hA hS [0, 1, 2, 3, 4, 5, 6, 7, 8] rfl (by decide))⟩ rfl rfl hl.1 rfl (lv_room (Nat.le_of_ble_eq_true rfl)) dX4_lost_28 ⟨Nat.zero_le _, Nat.zero_le _⟩) hP hD hA hS [0, 1, 2, 3, 4, 5, 6, 7, 8] rfl (by decide) rfl (fun H locs hP hD hS => ?_)
    have hP : va_P D vwCl (wM y q F_7 G) H := hP
    have hD : va_D A (wM y q F_7 G) := hD
    obtain ⟨r_9, F_10, hc_11, h⟩ := q_bd2_ok h
    refine q_ci (r := r_9) (va_runV (As := [.int r_6]) (rest := []) ⟨hx, hb, hml, hown, hts⟩ (c_X4_orNone l D y t q _ N F_7 G r_6 (r_9, F_10) hc_11) (cwV 1 hts gX4_lost_X4_orNone rfl rfl rfl eX4_orNone ⟨Nat.le_of_ble_eq_true rfl, Nat.le_of_ble_eq_true rfl⟩) ⟨q_blind, (va_recv hK hP (ci := 4) (q0 := 0) rfl rfl), (q_pre hP hK hZ hD hA hS [0, 1, 2, 3, 4, 5, 6, 7, 8] rfl (by decide))⟩ rfl rfl hl.1 rfl (lv_room (Nat.le_of_ble_eq_true rfl)) dX4_lost_31 ⟨Nat.zero_le _, Nat.zero_le _⟩) hP hD hA hS [0, 1, 2, 3, 4, 5, 6, 7, 8] rfl (by decide) rfl (fun H locs hP hD hS => ?_)
    have hP : va_P D vwCl (wM y q F_10 G) H := hP
    have hD : va_D A (wM y q F_10 G) := hD
    have e9 := Option.some.inj h
    exact q_iret hx hb hr hlocks hK hP hD hS dX4_lost_34 (by first | rw [← e9] | rfl) (by first | rw [← e9] | rfl)
  · have h := q_t c_3 h
    refine lv_aload_n hx hb dX4_lost_8 rfl (lv_at hl 0 rfl) ?_
    refine lv_ldc (v := -1000000001) hx hb hown (hts _ kX4_lost_0) dX4_lost_9 ?_
    obtain ⟨r_12, F_13, hc_14, h⟩ := q_bd2_ok h
    refine q_ci (r := r_12) (va_runV (As := [.int (-1000000001 : Int32)]) (rest := []) ⟨hx, hb, hml, hown, hts⟩ (c_X4_finds l D y t q _ N F G (-1000000001 : Int32) (r_12, F_13) hc_14) (cwV 1 hts gX4_lost_X4_finds rfl rfl rfl eX4_finds ⟨Nat.le_of_ble_eq_true rfl, Nat.le_of_ble_eq_true rfl⟩) ⟨q_blind, (va_recv hK hP (ci := 4) (q0 := 0) rfl rfl), (q_pre hP hK hZ hD hA hS [0, 1, 2, 3, 4, 5, 6, 7, 8] rfl (by decide))⟩ rfl rfl hl.1 rfl (lv_room (Nat.le_of_ble_eq_true rfl)) dX4_lost_11 ⟨Nat.zero_le _, Nat.zero_le _⟩) hP hD hA hS [0, 1, 2, 3, 4, 5, 6, 7, 8] rfl (by decide) rfl (fun H locs hP hD hS => ?_)
    have hP : va_P D vwCl (wM y q F_13 G) H := hP
    have hD : va_D A (wM y q F_13 G) := hD
    have e9 := Option.some.inj h
    exact q_iret hx hb hr hlocks hK hP hD hS dX4_lost_14 (by first | rw [← e9] | rfl) (by first | rw [← e9] | rfl)
theorem eX4_lost : yX4_lost.cls = RX4 ∧ yX4_lost.cls ≠ "java/lang/invoke/MethodHandle" ∧ yX4_lost.cls ≠ "java/lang/invoke/VarHandle" ∧ (parseMethodDescriptor yX4_lost.desc).map (fun d => d.parameters.length) = some 1 := by decide +kernel
def f_X4_arrivesIn_L2 (N : Nat) (G : Nat → Int64) (v1 : Int32) (v2 : Int32) : Nat → Int32 → (Nat → Nat → Int32) → Option (Int32 × (Nat → Nat → Int32))
  | 0, _, _ => none
  | k + 1, v3, F =>
    if v2 < v3 then
      some (v3, F)
    else
      q_bd (f_X4_isOn N F G v1) (fun r_5 =>
      if r_5 = 0 then
        q_bd (f_X4_it N F G v1 (1 : Int32)) (fun r_11 =>
        q_bd (f_X4_it N F G v1 (5 : Int32)) (fun r_13 =>
        if r_11 = r_13 then
          some (v3, F)
        else
          q_bd (f_X4_goes N F G) (fun F_16 =>
          q_let (v3 + 1) (fun x_18 =>
          f_X4_arrivesIn_L2 N G v1 v2 k x_18 F_16))))
      else
        q_bd (f_X4_goes N F G) (fun F_8 =>
        q_let (v3 + 1) (fun x_10 =>
        f_X4_arrivesIn_L2 N G v1 v2 k x_10 F_8)))
def f_X4_arrivesIn_B40 (N : Nat) (F : Nat → Nat → Int32) (G : Nat → Int64) (v2 : Int32) (v3 : Int32) : Option (Int32 × (Nat → Nat → Int32)) :=
  q_bd (f_X4_putsBack N F G) (fun F_19 =>
  if v3 ≤ v2 then
    some (v3, F_19)
  else
    some ((-1 : Int32), F_19))
def f_X4_arrivesIn (N : Nat) (F : Nat → Nat → Int32) (G : Nat → Int64) (p1 : Int32) (p2 : Int32) : Option (Int32 × (Nat → Nat → Int32)) :=
  q_bd2 (f_X4_arrivesIn_L2 N G p1 p2 N (0 : Int32) F) (fun x_2 F_3 =>
  f_X4_arrivesIn_B40 N F_3 G p2 x_2)
set_option maxHeartbeats 4000000 in
set_option maxRecDepth 100000 in
theorem c_X4_arrivesIn (l : Launch) (D : va_G) (y : Nat → ClassId) (t : Nat → Nat) (q : Nat → Nat) (sz N : Nat) (F : Nat → Nat → Int32) (G : Nat → Int64) (p1 : Int32) (p2 : Int32) (res : Int32 × (Nat → Nat → Int32)) (h : f_X4_arrivesIn N F G p1 p2 = some res) : Met l yX4_arrivesIn wsX4_arrivesIn ({ frames := 6, cells := 0, slots := 0, locals := 134 } : Room) (pPre D y t [.ref (q 0), .int p1, .int p2] (wM y q F G) sz) (pQi D y (res.1) (wM y q (res.2) G) (va_A (wM y q F G) sz)) 0 0 (va_A (wM y q F G) sz) := by
  refine q_start (Qc := (fun A => pQi D y (res.1) (wM y q (res.2) G) A)) (cc := cX4_arrivesIn) (maxL := 4) (ret := (some .int)) (by decide) rfl (Nat.le_of_ble_eq_true rfl) ?_
  intro p e s m below meth c A ls hx hb hr hts hown hlocks hmn hml hP hK hZ hD hA hS hl
  have hl : lv_has ls 4 [(0, .ref (q 0)), (1, .int p1), (2, .int p2)] := hl
  have hown : s.vm.findClass RX4 = some m.cls := hown
  have B40 : ∀ (F : Nat → Nat → Int32) (G : Nat → Int64) (v2 : Int32) (v3 : Int32) (H : Heap) (locs : List Loc) (ls : Array Slot), va_P D vwCl (wM y q F G) H → va_D A (wM y q F G) → va_S A s.heap H locs → lv_has ls 4 [(0, .ref (q 0)), (2, .int v2), (3, .int v3)] → f_X4_arrivesIn_B40 N F G v2 v3 = some res → W p l e ({ frames := 6, cells := 0, slots := 0, locals := 134 } : Room) s m ([.ref (q 0), .int p1, .int p2] : List Value).toArray below meth c H locs 0 0 (MQ below (pQi D y (res.1) (wM y q (res.2) G) A) ([.ref (q 0), .int p1, .int p2] : List Value).toArray s 0 0 A) (F0 m 40 ls []) := by
    intro F G v2 v3 H locs ls hP hD hS hl h
    unfold f_X4_arrivesIn_B40 at h
    refine lv_aload_n hx hb dX4_arrivesIn_40 rfl (lv_at hl 0 rfl) ?_
    obtain ⟨F_19, hc_20, h⟩ := q_bd_ok h
    refine q_cv (va_runV (As := []) (rest := []) ⟨hx, hb, hml, hown, hts⟩ (c_X4_putsBack l D y t q _ N F G F_19 hc_20) (cwV 0 hts gX4_arrivesIn_X4_putsBack rfl rfl rfl eX4_putsBack ⟨Nat.le_of_ble_eq_true rfl, Nat.le_of_ble_eq_true rfl⟩) ⟨q_blind, (va_recv hK hP (ci := 4) (q0 := 0) rfl rfl), (q_pre hP hK hZ hD hA hS [0, 1, 2, 3, 4, 5, 6, 7, 8] rfl (by decide))⟩ rfl rfl hl.1 rfl (lv_room (Nat.le_of_ble_eq_true rfl)) dX4_arrivesIn_41 ⟨Nat.zero_le _, Nat.zero_le _⟩) hP hD hA hS [0, 1, 2, 3, 4, 5, 6, 7, 8] rfl (by decide) rfl (fun H locs hP hD hS => ?_)
    have hP : va_P D vwCl (wM y q F_19 G) H := hP
    have hD : va_D A (wM y q F_19 G) := hD
    refine lv_iload_n hx hb dX4_arrivesIn_44 rfl (lv_at hl 2 rfl) ?_
    refine lv_iload_n hx hb dX4_arrivesIn_45 rfl (lv_at hl 1 rfl) ?_
    refine lv_icmp_le (tgt := 53) hx hb dX4_arrivesIn_46 (by decide) (fun c_21 => ?_) (fun c_21 => ?_)
    · have h := q_t c_21 h
      refine lv_iload_n hx hb dX4_arrivesIn_53 rfl (lv_at hl 2 rfl) ?_
      have e9 := Option.some.inj h
      exact q_iret hx hb hr hlocks hK hP hD hS dX4_arrivesIn_54 (by first | rw [← e9] | rfl) (by first | rw [← e9] | rfl)
    · have h := q_f c_21 h
      refine lv_iconst (v := -1) hx hb dX4_arrivesIn_49 (by decide) ?_
      refine lv_goto (tgt := 54) hx hb dX4_arrivesIn_50 (by decide) ?_
      have e9 := Option.some.inj h
      exact q_iret hx hb hr hlocks hK hP hD hS dX4_arrivesIn_54 (by first | rw [← e9] | rfl) (by first | rw [← e9] | rfl)
  unfold f_X4_arrivesIn at h
  refine lv_iconst (v := 0) hx hb dX4_arrivesIn_0 (by decide) ?_
  refine lv_istore_n (lv' := [(3, .int (0 : Int32)), (0, .ref (q 0)), (1, .int p1), (2, .int p2)]) hx hb dX4_arrivesIn_1 rfl hl (by decide) rfl (fun ls hl => ?_)
  obtain ⟨x_2, F_3, hL1, h⟩ := q_bd2_ok h
  have K2_1 : ∀ (H : Heap) (locs : List Loc) (ls : Array Slot), va_P D vwCl (wM y q F_3 G) H → va_D A (wM y q F_3 G) → va_S A s.heap H locs → lv_has ls 4 [(0, .ref (q 0)), (1, .int p1), (2, .int p2), (3, .int x_2)] → W p l e ({ frames := 6, cells := 0, slots := 0, locals := 134 } : Room) s m ([.ref (q 0), .int p1, .int p2] : List Value).toArray below meth c H locs 0 0 (MQ below (pQi D y (res.1) (wM y q (res.2) G) A) ([.ref (q 0), .int p1, .int p2] : List Value).toArray s 0 0 A) (F0 m 40 ls []) := by
    intro H locs ls hP hD hS hl
    exact B40 F_3 G p2 x_2 _ _ _ hP hD hS (lv_sub hl [0, 2, 3] rfl) h
  have L2_1 : ∀ (G : Nat → Int64) (v1 : Int32) (v2 : Int32) (k : Nat) (v3 : Int32) (F : Nat → Nat → Int32), (∀ (H : Heap) (locs : List Loc) (ls : Array Slot), va_P D vwCl (wM y q F_3 G) H → va_D A (wM y q F_3 G) → va_S A s.heap H locs → lv_has ls 4 [(0, .ref (q 0)), (1, .int v1), (2, .int v2), (3, .int x_2)] → W p l e ({ frames := 6, cells := 0, slots := 0, locals := 134 } : Room) s m ([.ref (q 0), .int p1, .int p2] : List Value).toArray below meth c H locs 0 0 (MQ below (pQi D y (res.1) (wM y q (res.2) G) A) ([.ref (q 0), .int p1, .int p2] : List Value).toArray s 0 0 A) (F0 m 40 ls [])) → ∀ (H : Heap) (locs : List Loc) (ls : Array Slot), va_P D vwCl (wM y q F G) H → va_D A (wM y q F G) → va_S A s.heap H locs → lv_has ls 4 [(0, .ref (q 0)), (1, .int v1), (2, .int v2), (3, .int v3)] → f_X4_arrivesIn_L2 N G v1 v2 k v3 F = some (x_2, F_3) → W p l e ({ frames := 6, cells := 0, slots := 0, locals := 134 } : Room) s m ([.ref (q 0), .int p1, .int p2] : List Value).toArray below meth c H locs 0 0 (MQ below (pQi D y (res.1) (wM y q (res.2) G) A) ([.ref (q 0), .int p1, .int p2] : List Value).toArray s 0 0 A) (F0 m 2 ls []) := by
    intro G v1 v2 k
    induction k with
    | zero =>
      intro v3 F K2_1 H locs ls hP hD hS hl h
      have h : (none : Option (Int32 × (Nat → Nat → Int32))) = some _ := h
      cases h
    | succ k ih2_1 =>
      intro v3 F K2_1 H locs ls hP hD hS hl h
      rw [f_X4_arrivesIn_L2] at h
      refine lv_iload_n hx hb dX4_arrivesIn_2 rfl (lv_at hl 3 rfl) ?_
      refine lv_iload_n hx hb dX4_arrivesIn_3 rfl (lv_at hl 2 rfl) ?_
      refine lv_icmp_gt (tgt := 40) hx hb dX4_arrivesIn_4 (by decide) (fun c_4 => ?_) (fun c_4 => ?_)
      · have h := q_t c_4 h
        cases h
        exact K2_1 _ _ _ hP hD hS (lv_sub hl [0, 1, 2, 3] rfl)
      · have h := q_f c_4 h
        refine lv_aload_n hx hb dX4_arrivesIn_7 rfl (lv_at hl 0 rfl) ?_
        refine lv_iload_n hx hb dX4_arrivesIn_8 rfl (lv_at hl 1 rfl) ?_
        obtain ⟨r_5, hc_6, h⟩ := q_bd_ok h
        refine q_ci (r := r_5) (va_runV (As := [.int v1]) (rest := []) ⟨hx, hb, hml, hown, hts⟩ (c_X4_isOn l D y t q _ N F G v1 r_5 hc_6) (cwV 1 hts gX4_arrivesIn_X4_isOn rfl rfl rfl eX4_isOn ⟨Nat.le_of_ble_eq_true rfl, Nat.le_of_ble_eq_true rfl⟩) ⟨q_blind, (va_recv hK hP (ci := 4) (q0 := 0) rfl rfl), (q_pre hP hK hZ hD hA hS [0, 1, 2, 3, 4, 5, 6, 7, 8] rfl (by decide))⟩ rfl rfl hl.1 rfl (lv_room (Nat.le_of_ble_eq_true rfl)) dX4_arrivesIn_9 ⟨Nat.zero_le _, Nat.zero_le _⟩) hP hD hA hS [0, 1, 2, 3, 4, 5, 6, 7, 8] rfl (by decide) rfl (fun H locs hP hD hS => ?_)
        have hP : va_P D vwCl (wM y q F G) H := hP
        have hD : va_D A (wM y q F G) := hD
        refine lv_if_ne (tgt := 30) hx hb dX4_arrivesIn_12 (by decide) (fun c_7 => ?_) (fun c_7 => ?_)
        · have h := q_f c_7 h
          refine lv_aload_n hx hb dX4_arrivesIn_30 rfl (lv_at hl 0 rfl) ?_
          obtain ⟨F_8, hc_9, h⟩ := q_bd_ok h
          refine q_cv (va_runV (As := []) (rest := []) ⟨hx, hb, hml, hown, hts⟩ (c_X4_goes l D y t q _ N F G F_8 hc_9) (cwV 0 hts gX4_arrivesIn_X4_goes rfl rfl rfl eX4_goes ⟨Nat.le_of_ble_eq_true rfl, Nat.le_of_ble_eq_true rfl⟩) ⟨q_blind, (va_recv hK hP (ci := 4) (q0 := 0) rfl rfl), (q_pre hP hK hZ hD hA hS [0, 1, 2, 3, 4, 5, 6, 7, 8] rfl (by decide))⟩ rfl rfl hl.1 rfl (lv_room (Nat.le_of_ble_eq_true rfl)) dX4_arrivesIn_31 ⟨Nat.zero_le _, Nat.zero_le _⟩) hP hD hA hS [0, 1, 2, 3, 4, 5, 6, 7, 8] rfl (by decide) rfl (fun H locs hP hD hS => ?_)
          have hP : va_P D vwCl (wM y q F_8 G) H := hP
          have hD : va_D A (wM y q F_8 G) := hD
          obtain ⟨x_10, ex_10, h⟩ := q_let_ok h
          refine lv_iinc (v := x_10) (lv' := [(3, .int x_10), (0, .ref (q 0)), (1, .int v1), (2, .int v2)]) hx hb dX4_arrivesIn_34 hl (k := 3) rfl (by rw [ex_10]; rfl) (by decide) rfl (fun ls hl => ?_)
          refine lv_goto (tgt := 2) hx hb dX4_arrivesIn_37 (by decide) ?_
          exact ih2_1 x_10 F_8 K2_1 _ _ _ hP hD hS (lv_sub hl [1, 2, 3, 0] rfl) h
        · have h := q_t c_7 h
          refine lv_aload_n hx hb dX4_arrivesIn_15 rfl (lv_at hl 0 rfl) ?_
          refine lv_iload_n hx hb dX4_arrivesIn_16 rfl (lv_at hl 1 rfl) ?_
          refine lv_iconst (v := 1) hx hb dX4_arrivesIn_17 (by decide) ?_
          obtain ⟨r_11, hc_12, h⟩ := q_bd_ok h
          refine q_ci (r := r_11) (va_runV (As := [.int v1, .int (1 : Int32)]) (rest := []) ⟨hx, hb, hml, hown, hts⟩ (c_X4_it l D y t q _ N F G v1 (1 : Int32) r_11 hc_12) (cwV 2 hts gX4_arrivesIn_X4_it rfl rfl rfl eX4_it ⟨Nat.le_of_ble_eq_true rfl, Nat.le_of_ble_eq_true rfl⟩) ⟨q_blind, (va_recv hK hP (ci := 4) (q0 := 0) rfl rfl), (q_pre hP hK hZ hD hA hS [0, 1, 2, 3, 4, 5, 6, 7, 8] rfl (by decide))⟩ rfl rfl hl.1 rfl (lv_room (Nat.le_of_ble_eq_true rfl)) dX4_arrivesIn_18 ⟨Nat.zero_le _, Nat.zero_le _⟩) hP hD hA hS [0, 1, 2, 3, 4, 5, 6, 7, 8] rfl (by decide) rfl (fun H locs hP hD hS => ?_)
          have hP : va_P D vwCl (wM y q F G) H := hP
          have hD : va_D A (wM y q F G) := hD
          refine lv_aload_n hx hb dX4_arrivesIn_21 rfl (lv_at hl 0 rfl) ?_
          refine lv_iload_n hx hb dX4_arrivesIn_22 rfl (lv_at hl 1 rfl) ?_
          refine lv_iconst (v := 5) hx hb dX4_arrivesIn_23 (by decide) ?_
          obtain ⟨r_13, hc_14, h⟩ := q_bd_ok h
          refine q_ci (r := r_13) (va_runV (As := [.int v1, .int (5 : Int32)]) (rest := [.int r_11]) ⟨hx, hb, hml, hown, hts⟩ (c_X4_it l D y t q _ N F G v1 (5 : Int32) r_13 hc_14) (cwV 2 hts gX4_arrivesIn_X4_it rfl rfl rfl eX4_it ⟨Nat.le_of_ble_eq_true rfl, Nat.le_of_ble_eq_true rfl⟩) ⟨q_blind, (va_recv hK hP (ci := 4) (q0 := 0) rfl rfl), (q_pre hP hK hZ hD hA hS [0, 1, 2, 3, 4, 5, 6, 7, 8] rfl (by decide))⟩ rfl rfl hl.1 rfl (lv_room (Nat.le_of_ble_eq_true rfl)) dX4_arrivesIn_24 ⟨Nat.zero_le _, Nat.zero_le _⟩) hP hD hA hS [0, 1, 2, 3, 4, 5, 6, 7, 8] rfl (by decide) rfl (fun H locs hP hD hS => ?_)
          have hP : va_P D vwCl (wM y q F G) H := hP
          have hD : va_D A (wM y q F G) := hD
          refine lv_icmp_eq (tgt := 40) hx hb dX4_arrivesIn_27 (by decide) (fun c_15 => ?_) (fun c_15 => ?_)
          · have h := q_t c_15 h
            cases h
            exact K2_1 _ _ _ hP hD hS (lv_sub hl [0, 1, 2, 3] rfl)
          · have h := q_f c_15 h
            refine lv_aload_n hx hb dX4_arrivesIn_30 rfl (lv_at hl 0 rfl) ?_
            obtain ⟨F_16, hc_17, h⟩ := q_bd_ok h
            refine q_cv (va_runV (As := []) (rest := []) ⟨hx, hb, hml, hown, hts⟩ (c_X4_goes l D y t q _ N F G F_16 hc_17) (cwV 0 hts gX4_arrivesIn_X4_goes rfl rfl rfl eX4_goes ⟨Nat.le_of_ble_eq_true rfl, Nat.le_of_ble_eq_true rfl⟩) ⟨q_blind, (va_recv hK hP (ci := 4) (q0 := 0) rfl rfl), (q_pre hP hK hZ hD hA hS [0, 1, 2, 3, 4, 5, 6, 7, 8] rfl (by decide))⟩ rfl rfl hl.1 rfl (lv_room (Nat.le_of_ble_eq_true rfl)) dX4_arrivesIn_31 ⟨Nat.zero_le _, Nat.zero_le _⟩) hP hD hA hS [0, 1, 2, 3, 4, 5, 6, 7, 8] rfl (by decide) rfl (fun H locs hP hD hS => ?_)
            have hP : va_P D vwCl (wM y q F_16 G) H := hP
            have hD : va_D A (wM y q F_16 G) := hD
            obtain ⟨x_18, ex_18, h⟩ := q_let_ok h
            refine lv_iinc (v := x_18) (lv' := [(3, .int x_18), (0, .ref (q 0)), (1, .int v1), (2, .int v2)]) hx hb dX4_arrivesIn_34 hl (k := 3) rfl (by rw [ex_18]; rfl) (by decide) rfl (fun ls hl => ?_)
            refine lv_goto (tgt := 2) hx hb dX4_arrivesIn_37 (by decide) ?_
            exact ih2_1 x_18 F_16 K2_1 _ _ _ hP hD hS (lv_sub hl [1, 2, 3, 0] rfl) h
  exact L2_1 G p1 p2 N (0 : Int32) F K2_1 _ _ _ hP hD hS (lv_sub hl [1, 2, 3, 0] rfl) hL1
theorem eX4_arrivesIn : yX4_arrivesIn.cls = RX4 ∧ yX4_arrivesIn.cls ≠ "java/lang/invoke/MethodHandle" ∧ yX4_arrivesIn.cls ≠ "java/lang/invoke/VarHandle" ∧ (parseMethodDescriptor yX4_arrivesIn.desc).map (fun d => d.parameters.length) = some 2 := by decide +kernel
theorem kX4_arrives_0 : Cond.constant RX4 35 (-1000000001) ∈ wsX4_arrives := List.mem_of_getElem? (i := 1) (by decide +kernel)
def f_X4_arrives (N : Nat) (F : Nat → Nat → Int32) (G : Nat → Int64) (p1 : Int32) : Option (Int32 × (Nat → Nat → Int32)) :=
  q_bd (f_X4_isThing N F G p1) (fun r_1 =>
  if r_1 = 0 then
    q_bd2 (f_X4_finds N F G (-1000000001 : Int32)) (fun r_12 F_13 =>
    some (r_12, F_13))
  else
    q_bd (f_X4_thinks N F G) (fun F_4 =>
    q_bd2 (f_X4_arrivesIn N F_4 G p1 (400 : Int32)) (fun r_6 F_7 =>
    q_bd2 (f_X4_orNone N F_7 G r_6) (fun r_9 F_10 =>
    some (r_9, F_10)))))
set_option maxHeartbeats 4000000 in
set_option maxRecDepth 100000 in
theorem c_X4_arrives (l : Launch) (D : va_G) (y : Nat → ClassId) (t : Nat → Nat) (q : Nat → Nat) (sz N : Nat) (F : Nat → Nat → Int32) (G : Nat → Int64) (p1 : Int32) (res : Int32 × (Nat → Nat → Int32)) (h : f_X4_arrives N F G p1 = some res) : Met l yX4_arrives wsX4_arrives ({ frames := 7, cells := 0, slots := 0, locals := 157 } : Room) (pPre D y t [.ref (q 0), .int p1] (wM y q F G) sz) (pQi D y (res.1) (wM y q (res.2) G) (va_A (wM y q F G) sz)) 0 0 (va_A (wM y q F G) sz) := by
  refine q_start (Qc := (fun A => pQi D y (res.1) (wM y q (res.2) G) A)) (cc := cX4_arrives) (maxL := 2) (ret := (some .int)) (by decide) rfl (Nat.le_of_ble_eq_true rfl) ?_
  intro p e s m below meth c A ls hx hb hr hts hown hlocks hmn hml hP hK hZ hD hA hS hl
  have hl : lv_has ls 2 [(0, .ref (q 0)), (1, .int p1)] := hl
  have hown : s.vm.findClass RX4 = some m.cls := hown
  unfold f_X4_arrives at h
  refine lv_aload_n hx hb dX4_arrives_0 rfl (lv_at hl 0 rfl) ?_
  refine lv_iload_n hx hb dX4_arrives_1 rfl (lv_at hl 1 rfl) ?_
  obtain ⟨r_1, hc_2, h⟩ := q_bd_ok h
  refine q_ci (r := r_1) (va_runV (As := [.int p1]) (rest := []) ⟨hx, hb, hml, hown, hts⟩ (c_X4_isThing l D y t q _ N F G p1 r_1 hc_2) (cwV 1 hts gX4_arrives_X4_isThing rfl rfl rfl eX4_isThing ⟨Nat.le_of_ble_eq_true rfl, Nat.le_of_ble_eq_true rfl⟩) ⟨q_blind, (va_recv hK hP (ci := 4) (q0 := 0) rfl rfl), (q_pre hP hK hZ hD hA hS [0, 1, 2, 3, 4, 5, 6, 7, 8] rfl (by decide))⟩ rfl rfl hl.1 rfl (lv_room (Nat.le_of_ble_eq_true rfl)) dX4_arrives_2 ⟨Nat.zero_le _, Nat.zero_le _⟩) hP hD hA hS [0, 1, 2, 3, 4, 5, 6, 7, 8] rfl (by decide) rfl (fun H locs hP hD hS => ?_)
  have hP : va_P D vwCl (wM y q F G) H := hP
  have hD : va_D A (wM y q F G) := hD
  refine lv_if_ne (tgt := 15) hx hb dX4_arrives_5 (by decide) (fun c_3 => ?_) (fun c_3 => ?_)
  · have h := q_f c_3 h
    refine lv_aload_n hx hb dX4_arrives_15 rfl (lv_at hl 0 rfl) ?_
    obtain ⟨F_4, hc_5, h⟩ := q_bd_ok h
    refine q_cv (va_runV (As := []) (rest := []) ⟨hx, hb, hml, hown, hts⟩ (c_X4_thinks l D y t q _ N F G F_4 hc_5) (cwV 0 hts gX4_arrives_X4_thinks rfl rfl rfl eX4_thinks ⟨Nat.le_of_ble_eq_true rfl, Nat.le_of_ble_eq_true rfl⟩) ⟨q_blind, (va_recv hK hP (ci := 4) (q0 := 0) rfl rfl), (q_pre hP hK hZ hD hA hS [0, 1, 2, 3, 4, 5, 6, 7, 8] rfl (by decide))⟩ rfl rfl hl.1 rfl (lv_room (Nat.le_of_ble_eq_true rfl)) dX4_arrives_16 ⟨Nat.zero_le _, Nat.zero_le _⟩) hP hD hA hS [0, 1, 2, 3, 4, 5, 6, 7, 8] rfl (by decide) rfl (fun H locs hP hD hS => ?_)
    have hP : va_P D vwCl (wM y q F_4 G) H := hP
    have hD : va_D A (wM y q F_4 G) := hD
    refine lv_aload_n hx hb dX4_arrives_19 rfl (lv_at hl 0 rfl) ?_
    refine lv_aload_n hx hb dX4_arrives_20 rfl (lv_at hl 0 rfl) ?_
    refine lv_iload_n hx hb dX4_arrives_21 rfl (lv_at hl 1 rfl) ?_
    refine lv_sipush (v := 400) hx hb dX4_arrives_22 (by decide) ?_
    obtain ⟨r_6, F_7, hc_8, h⟩ := q_bd2_ok h
    refine q_ci (r := r_6) (va_runV (As := [.int p1, .int (400 : Int32)]) (rest := [.ref (q 0)]) ⟨hx, hb, hml, hown, hts⟩ (c_X4_arrivesIn l D y t q _ N F_4 G p1 (400 : Int32) (r_6, F_7) hc_8) (cwV 2 hts gX4_arrives_X4_arrivesIn rfl rfl rfl eX4_arrivesIn ⟨Nat.le_of_ble_eq_true rfl, Nat.le_of_ble_eq_true rfl⟩) ⟨q_blind, (va_recv hK hP (ci := 4) (q0 := 0) rfl rfl), (q_pre hP hK hZ hD hA hS [0, 1, 2, 3, 4, 5, 6, 7, 8] rfl (by decide))⟩ rfl rfl hl.1 rfl (lv_room (Nat.le_of_ble_eq_true rfl)) dX4_arrives_25 ⟨Nat.zero_le _, Nat.zero_le _⟩) hP hD hA hS [0, 1, 2, 3, 4, 5, 6, 7, 8] rfl (by decide) rfl (fun H locs hP hD hS => ?_)
    have hP : va_P D vwCl (wM y q F_7 G) H := hP
    have hD : va_D A (wM y q F_7 G) := hD
    obtain ⟨r_9, F_10, hc_11, h⟩ := q_bd2_ok h
    refine q_ci (r := r_9) (va_runV (As := [.int r_6]) (rest := []) ⟨hx, hb, hml, hown, hts⟩ (c_X4_orNone l D y t q _ N F_7 G r_6 (r_9, F_10) hc_11) (cwV 1 hts gX4_arrives_X4_orNone rfl rfl rfl eX4_orNone ⟨Nat.le_of_ble_eq_true rfl, Nat.le_of_ble_eq_true rfl⟩) ⟨q_blind, (va_recv hK hP (ci := 4) (q0 := 0) rfl rfl), (q_pre hP hK hZ hD hA hS [0, 1, 2, 3, 4, 5, 6, 7, 8] rfl (by decide))⟩ rfl rfl hl.1 rfl (lv_room (Nat.le_of_ble_eq_true rfl)) dX4_arrives_28 ⟨Nat.zero_le _, Nat.zero_le _⟩) hP hD hA hS [0, 1, 2, 3, 4, 5, 6, 7, 8] rfl (by decide) rfl (fun H locs hP hD hS => ?_)
    have hP : va_P D vwCl (wM y q F_10 G) H := hP
    have hD : va_D A (wM y q F_10 G) := hD
    have e9 := Option.some.inj h
    exact q_iret hx hb hr hlocks hK hP hD hS dX4_arrives_31 (by first | rw [← e9] | rfl) (by first | rw [← e9] | rfl)
  · have h := q_t c_3 h
    refine lv_aload_n hx hb dX4_arrives_8 rfl (lv_at hl 0 rfl) ?_
    refine lv_ldc (v := -1000000001) hx hb hown (hts _ kX4_arrives_0) dX4_arrives_9 ?_
    obtain ⟨r_12, F_13, hc_14, h⟩ := q_bd2_ok h
    refine q_ci (r := r_12) (va_runV (As := [.int (-1000000001 : Int32)]) (rest := []) ⟨hx, hb, hml, hown, hts⟩ (c_X4_finds l D y t q _ N F G (-1000000001 : Int32) (r_12, F_13) hc_14) (cwV 1 hts gX4_arrives_X4_finds rfl rfl rfl eX4_finds ⟨Nat.le_of_ble_eq_true rfl, Nat.le_of_ble_eq_true rfl⟩) ⟨q_blind, (va_recv hK hP (ci := 4) (q0 := 0) rfl rfl), (q_pre hP hK hZ hD hA hS [0, 1, 2, 3, 4, 5, 6, 7, 8] rfl (by decide))⟩ rfl rfl hl.1 rfl (lv_room (Nat.le_of_ble_eq_true rfl)) dX4_arrives_11 ⟨Nat.zero_le _, Nat.zero_le _⟩) hP hD hA hS [0, 1, 2, 3, 4, 5, 6, 7, 8] rfl (by decide) rfl (fun H locs hP hD hS => ?_)
    have hP : va_P D vwCl (wM y q F_13 G) H := hP
    have hD : va_D A (wM y q F_13 G) := hD
    have e9 := Option.some.inj h
    exact q_iret hx hb hr hlocks hK hP hD hS dX4_arrives_14 (by first | rw [← e9] | rfl) (by first | rw [← e9] | rfl)
theorem eX4_arrives : yX4_arrives.cls = RX4 ∧ yX4_arrives.cls ≠ "java/lang/invoke/MethodHandle" ∧ yX4_arrives.cls ≠ "java/lang/invoke/VarHandle" ∧ (parseMethodDescriptor yX4_arrives.desc).map (fun d => d.parameters.length) = some 1 := by decide +kernel
theorem uX4_driest_X4 : ∀ w ∈ u_ws RX4 TX4 15, w ∈ wsX4_driest := by decide +kernel
theorem kX4_driest_1 : Cond.fieldLink RX4 9 "BeamSeatsModel" "m" "[I" ∈ wsX4_driest := List.mem_of_getElem? (i := 1) (by decide +kernel)
def f_X4_driest_L14 (N : Nat) (G : Nat → Int64) (v1 : Int32) (v3 : Int32) (v4 : Int32) (v5 : Int32) : Nat → Int32 → Int32 → Int32 → (Nat → Nat → Int32) → Option (Int32 × Int32 × Int32 × (Nat → Nat → Int32))
  | 0, _, _, _, _ => none
  | k + 1, v6, v7, v8, F =>
    if v3 < v8 then
      some (v6, v7, v8, F)
    else
      q_grd v1 69 (
      q_let (q_up F 1 v1.toNatClampNeg v8) (fun F_10 =>
      q_bd (f_X4_goesFor N F_10 G v5) (fun F_11 =>
      q_bd (f_X4_it N F_11 G v4 (4 : Int32)) (fun r_13 =>
      q_bd (f_X4_putsBack N F_11 G) (fun F_15 =>
      if v7 ≤ r_13 then
        if v7 ≤ r_13 then
          q_let (v8 + 1) (fun x_19 =>
          f_X4_driest_L14 N G v1 v3 v4 v5 k v6 v7 x_19 F_15)
        else
          q_let (v8 + 1) (fun x_20 =>
          f_X4_driest_L14 N G v1 v3 v4 v5 k v6 r_13 x_20 F_15)
      else
        if v7 ≤ r_13 then
          q_let (v8 + 1) (fun x_22 =>
          f_X4_driest_L14 N G v1 v3 v4 v5 k v8 v7 x_22 F_15)
        else
          q_let (v8 + 1) (fun x_23 =>
          f_X4_driest_L14 N G v1 v3 v4 v5 k v8 r_13 x_23 F_15))))))
def f_X4_driest (N : Nat) (F : Nat → Nat → Int32) (G : Nat → Int64) (p1 : Int32) (p2 : Int32) (p3 : Int32) (p4 : Int32) (p5 : Int32) : Option (Int32 × (Nat → Nat → Int32)) :=
  q_bd (f_X4_thinks N F G) (fun F_1 =>
  q_bd4 (f_X4_driest_L14 N G p1 p3 p4 p5 N p2 (100 : Int32) p2 F_1) (fun x_4 x_5 x_6 F_7 =>
  some (x_4, F_7)))
set_option maxHeartbeats 4000000 in
set_option maxRecDepth 100000 in
theorem c_X4_driest (l : Launch) (D : va_G) (y : Nat → ClassId) (t : Nat → Nat) (q : Nat → Nat) (sz N : Nat) (F : Nat → Nat → Int32) (G : Nat → Int64) (p1 : Int32) (p2 : Int32) (p3 : Int32) (p4 : Int32) (p5 : Int32) (res : Int32 × (Nat → Nat → Int32)) (h : f_X4_driest N F G p1 p2 p3 p4 p5 = some res) : Met l yX4_driest wsX4_driest ({ frames := 7, cells := 0, slots := 0, locals := 156 } : Room) (pPre D y t [.ref (q 0), .int p1, .int p2, .int p3, .int p4, .int p5] (wM y q F G) sz) (pQi D y (res.1) (wM y q (res.2) G) (va_A (wM y q F G) sz)) 0 0 (va_A (wM y q F G) sz) := by
  refine q_start (Qc := (fun A => pQi D y (res.1) (wM y q (res.2) G) A)) (cc := cX4_driest) (maxL := 10) (ret := (some .int)) (by decide) rfl (Nat.le_of_ble_eq_true rfl) ?_
  intro p e s m below meth c A ls hx hb hr hts hown hlocks hmn hml hP hK hZ hD hA hS hl
  have hl : lv_has ls 10 [(0, .ref (q 0)), (1, .int p1), (2, .int p2), (3, .int p3), (4, .int p4), (5, .int p5)] := hl
  have hown : s.vm.findClass RX4 = some m.cls := hown
  unfold f_X4_driest at h
  refine lv_aload_n hx hb dX4_driest_0 rfl (lv_at hl 0 rfl) ?_
  obtain ⟨F_1, hc_2, h⟩ := q_bd_ok h
  refine q_cv (va_runV (As := []) (rest := []) ⟨hx, hb, hml, hown, hts⟩ (c_X4_thinks l D y t q _ N F G F_1 hc_2) (cwV 0 hts gX4_driest_X4_thinks rfl rfl rfl eX4_thinks ⟨Nat.le_of_ble_eq_true rfl, Nat.le_of_ble_eq_true rfl⟩) ⟨q_blind, (va_recv hK hP (ci := 4) (q0 := 0) rfl rfl), (q_pre hP hK hZ hD hA hS [0, 1, 2, 3, 4, 5, 6, 7, 8] rfl (by decide))⟩ rfl rfl hl.1 rfl (lv_room (Nat.le_of_ble_eq_true rfl)) dX4_driest_1 ⟨Nat.zero_le _, Nat.zero_le _⟩) hP hD hA hS [0, 1, 2, 3, 4, 5, 6, 7, 8] rfl (by decide) rfl (fun H locs hP hD hS => ?_)
  have hP : va_P D vwCl (wM y q F_1 G) H := hP
  have hD : va_D A (wM y q F_1 G) := hD
  refine lv_iload_n hx hb dX4_driest_4 rfl (lv_at hl 2 rfl) ?_
  refine lv_istore (lv' := [(6, .int p2), (0, .ref (q 0)), (1, .int p1), (2, .int p2), (3, .int p3), (4, .int p4), (5, .int p5)]) hx hb dX4_driest_5 hl (by decide) rfl (fun ls hl => ?_)
  refine lv_bipush (v := 100) hx hb dX4_driest_7 (by decide) ?_
  refine lv_istore (lv' := [(7, .int (100 : Int32)), (6, .int p2), (0, .ref (q 0)), (1, .int p1), (2, .int p2), (3, .int p3), (4, .int p4), (5, .int p5)]) hx hb dX4_driest_9 hl (by decide) rfl (fun ls hl => ?_)
  refine lv_iload_n hx hb dX4_driest_11 rfl (lv_at hl 4 rfl) ?_
  refine lv_istore (lv' := [(8, .int p2), (7, .int (100 : Int32)), (6, .int p2), (0, .ref (q 0)), (1, .int p1), (2, .int p2), (3, .int p3), (4, .int p4), (5, .int p5)]) hx hb dX4_driest_12 hl (by decide) rfl (fun ls hl => ?_)
  obtain ⟨x_4, x_5, x_6, F_7, hL3, h⟩ := q_bd4_ok h
  have K14_3 : ∀ (H : Heap) (locs : List Loc) (ls : Array Slot), va_P D vwCl (wM y q F_7 G) H → va_D A (wM y q F_7 G) → va_S A s.heap H locs → lv_has ls 10 [(0, .ref (q 0)), (1, .int p1), (3, .int p3), (4, .int p4), (5, .int p5), (6, .int x_4), (7, .int x_5), (8, .int x_6)] → W p l e ({ frames := 7, cells := 0, slots := 0, locals := 156 } : Room) s m ([.ref (q 0), .int p1, .int p2, .int p3, .int p4, .int p5] : List Value).toArray below meth c H locs 0 0 (MQ below (pQi D y (res.1) (wM y q (res.2) G) A) ([.ref (q 0), .int p1, .int p2, .int p3, .int p4, .int p5] : List Value).toArray s 0 0 A) (F0 m 85 ls []) := by
    intro H locs ls hP hD hS hl
    refine lv_iload hx hb dX4_driest_85 (lv_at hl 5 rfl) ?_
    have e9 := Option.some.inj h
    exact q_iret hx hb hr hlocks hK hP hD hS dX4_driest_87 (by first | rw [← e9] | rfl) (by first | rw [← e9] | rfl)
  have L14_3 : ∀ (G : Nat → Int64) (v1 : Int32) (v3 : Int32) (v4 : Int32) (v5 : Int32) (k : Nat) (v6 : Int32) (v7 : Int32) (v8 : Int32) (F : Nat → Nat → Int32), (∀ (H : Heap) (locs : List Loc) (ls : Array Slot), va_P D vwCl (wM y q F_7 G) H → va_D A (wM y q F_7 G) → va_S A s.heap H locs → lv_has ls 10 [(0, .ref (q 0)), (1, .int v1), (3, .int v3), (4, .int v4), (5, .int v5), (6, .int x_4), (7, .int x_5), (8, .int x_6)] → W p l e ({ frames := 7, cells := 0, slots := 0, locals := 156 } : Room) s m ([.ref (q 0), .int p1, .int p2, .int p3, .int p4, .int p5] : List Value).toArray below meth c H locs 0 0 (MQ below (pQi D y (res.1) (wM y q (res.2) G) A) ([.ref (q 0), .int p1, .int p2, .int p3, .int p4, .int p5] : List Value).toArray s 0 0 A) (F0 m 85 ls [])) → ∀ (H : Heap) (locs : List Loc) (ls : Array Slot), va_P D vwCl (wM y q F G) H → va_D A (wM y q F G) → va_S A s.heap H locs → lv_has ls 10 [(0, .ref (q 0)), (1, .int v1), (3, .int v3), (4, .int v4), (5, .int v5), (6, .int v6), (7, .int v7), (8, .int v8)] → f_X4_driest_L14 N G v1 v3 v4 v5 k v6 v7 v8 F = some (x_4, x_5, x_6, F_7) → W p l e ({ frames := 7, cells := 0, slots := 0, locals := 156 } : Room) s m ([.ref (q 0), .int p1, .int p2, .int p3, .int p4, .int p5] : List Value).toArray below meth c H locs 0 0 (MQ below (pQi D y (res.1) (wM y q (res.2) G) A) ([.ref (q 0), .int p1, .int p2, .int p3, .int p4, .int p5] : List Value).toArray s 0 0 A) (F0 m 14 ls []) := by
    intro G v1 v3 v4 v5 k
    induction k with
    | zero =>
      intro v6 v7 v8 F K14_3 H locs ls hP hD hS hl h
      have h : (none : Option (Int32 × Int32 × Int32 × (Nat → Nat → Int32))) = some _ := h
      cases h
    | succ k ih14_3 =>
      intro v6 v7 v8 F K14_3 H locs ls hP hD hS hl h
      rw [f_X4_driest_L14] at h
      refine lv_iload hx hb dX4_driest_14 (lv_at hl 7 rfl) ?_
      refine lv_iload_n hx hb dX4_driest_16 rfl (lv_at hl 2 rfl) ?_
      refine lv_icmp_gt (tgt := 85) hx hb dX4_driest_17 (by decide) (fun c_8 => ?_) (fun c_8 => ?_)
      · have h := q_t c_8 h
        cases h
        exact K14_3 _ _ _ hP hD hS (lv_sub hl [0, 1, 2, 3, 4, 5, 6, 7] rfl)
      · have h := q_f c_8 h
        refine lv_aload_n hx hb dX4_driest_20 rfl (lv_at hl 0 rfl) ?_
        refine va_get (D := D) (ci := 4) (v := .ref (q 1)) (C := RX4) (T := TX4) (N := 15) hx hb hts uX4_driest_X4 hown hK hP 0 rfl rfl 0 (by decide) (hts _ kX4_driest_1) (fun _ h9 => h9) rfl dX4_driest_21 ?_
        refine lv_iload_n hx hb dX4_driest_24 rfl (lv_at hl 1 rfl) ?_
        refine lv_iload hx hb dX4_driest_25 (lv_at hl 7 rfl) ?_
        obtain ⟨z_9, h⟩ := q_grd_ok h
        obtain ⟨F_10, eF_10, h⟩ := q_let_ok h
        refine va_iast hx hb hK hP hD hS 1 0 rfl rfl z_9 dX4_driest_27 (fun H locs hP hD hS => ?_)
        have hP : va_P D vwCl (wM y q F_10 G) H := by rw [eF_10]; exact hP
        have hD : va_D A (wM y q F_10 G) := by rw [eF_10]; exact hD
        refine lv_aload_n hx hb dX4_driest_28 rfl (lv_at hl 0 rfl) ?_
        refine lv_iload hx hb dX4_driest_29 (lv_at hl 4 rfl) ?_
        obtain ⟨F_11, hc_12, h⟩ := q_bd_ok h
        refine q_cv (va_runV (As := [.int v5]) (rest := []) ⟨hx, hb, hml, hown, hts⟩ (c_X4_goesFor l D y t q _ N F_10 G v5 F_11 hc_12) (cwV 1 hts gX4_driest_X4_goesFor rfl rfl rfl eX4_goesFor ⟨Nat.le_of_ble_eq_true rfl, Nat.le_of_ble_eq_true rfl⟩) ⟨q_blind, (va_recv hK hP (ci := 4) (q0 := 0) rfl rfl), (q_pre hP hK hZ hD hA hS [0, 1, 2, 3, 4, 5, 6, 7, 8] rfl (by decide))⟩ rfl rfl hl.1 rfl (lv_room (Nat.le_of_ble_eq_true rfl)) dX4_driest_31 ⟨Nat.zero_le _, Nat.zero_le _⟩) hP hD hA hS [0, 1, 2, 3, 4, 5, 6, 7, 8] rfl (by decide) rfl (fun H locs hP hD hS => ?_)
        have hP : va_P D vwCl (wM y q F_11 G) H := hP
        have hD : va_D A (wM y q F_11 G) := hD
        refine lv_aload_n hx hb dX4_driest_34 rfl (lv_at hl 0 rfl) ?_
        refine lv_iload hx hb dX4_driest_35 (lv_at hl 3 rfl) ?_
        refine lv_iconst (v := 4) hx hb dX4_driest_37 (by decide) ?_
        obtain ⟨r_13, hc_14, h⟩ := q_bd_ok h
        refine q_ci (r := r_13) (va_runV (As := [.int v4, .int (4 : Int32)]) (rest := []) ⟨hx, hb, hml, hown, hts⟩ (c_X4_it l D y t q _ N F_11 G v4 (4 : Int32) r_13 hc_14) (cwV 2 hts gX4_driest_X4_it rfl rfl rfl eX4_it ⟨Nat.le_of_ble_eq_true rfl, Nat.le_of_ble_eq_true rfl⟩) ⟨q_blind, (va_recv hK hP (ci := 4) (q0 := 0) rfl rfl), (q_pre hP hK hZ hD hA hS [0, 1, 2, 3, 4, 5, 6, 7, 8] rfl (by decide))⟩ rfl rfl hl.1 rfl (lv_room (Nat.le_of_ble_eq_true rfl)) dX4_driest_38 ⟨Nat.zero_le _, Nat.zero_le _⟩) hP hD hA hS [0, 1, 2, 3, 4, 5, 6, 7, 8] rfl (by decide) rfl (fun H locs hP hD hS => ?_)
        have hP : va_P D vwCl (wM y q F_11 G) H := hP
        have hD : va_D A (wM y q F_11 G) := hD
        refine lv_istore (lv' := [(9, .int r_13), (0, .ref (q 0)), (1, .int v1), (3, .int v3), (4, .int v4), (5, .int v5), (6, .int v6), (7, .int v7), (8, .int v8)]) hx hb dX4_driest_41 hl (by decide) rfl (fun ls hl => ?_)
        refine lv_aload_n hx hb dX4_driest_43 rfl (lv_at hl 1 rfl) ?_
        obtain ⟨F_15, hc_16, h⟩ := q_bd_ok h
        refine q_cv (va_runV (As := []) (rest := []) ⟨hx, hb, hml, hown, hts⟩ (c_X4_putsBack l D y t q _ N F_11 G F_15 hc_16) (cwV 0 hts gX4_driest_X4_putsBack rfl rfl rfl eX4_putsBack ⟨Nat.le_of_ble_eq_true rfl, Nat.le_of_ble_eq_true rfl⟩) ⟨q_blind, (va_recv hK hP (ci := 4) (q0 := 0) rfl rfl), (q_pre hP hK hZ hD hA hS [0, 1, 2, 3, 4, 5, 6, 7, 8] rfl (by decide))⟩ rfl rfl hl.1 rfl (lv_room (Nat.le_of_ble_eq_true rfl)) dX4_driest_44 ⟨Nat.zero_le _, Nat.zero_le _⟩) hP hD hA hS [0, 1, 2, 3, 4, 5, 6, 7, 8] rfl (by decide) rfl (fun H locs hP hD hS => ?_)
        have hP : va_P D vwCl (wM y q F_15 G) H := hP
        have hD : va_D A (wM y q F_15 G) := hD
        refine lv_iload hx hb dX4_driest_47 (lv_at hl 0 rfl) ?_
        refine lv_iload hx hb dX4_driest_49 (lv_at hl 7 rfl) ?_
        refine lv_icmp_ge (tgt := 59) hx hb dX4_driest_51 (by decide) (fun c_17 => ?_) (fun c_17 => ?_)
        · have h := q_t c_17 h
          refine lv_iload hx hb dX4_driest_59 (lv_at hl 6 rfl) ?_
          refine lv_istore (lv' := [(6, .int v6), (9, .int r_13), (0, .ref (q 0)), (1, .int v1), (3, .int v3), (4, .int v4), (5, .int v5), (7, .int v7), (8, .int v8)]) hx hb dX4_driest_61 hl (by decide) rfl (fun ls hl => ?_)
          refine lv_iload hx hb dX4_driest_63 (lv_at hl 1 rfl) ?_
          refine lv_iload hx hb dX4_driest_65 (lv_at hl 7 rfl) ?_
          refine lv_icmp_ge (tgt := 75) hx hb dX4_driest_67 (by decide) (fun c_18 => ?_) (fun c_18 => ?_)
          · have h := q_t c_18 h
            refine lv_iload hx hb dX4_driest_75 (lv_at hl 7 rfl) ?_
            refine lv_istore (lv' := [(7, .int v7), (6, .int v6), (9, .int r_13), (0, .ref (q 0)), (1, .int v1), (3, .int v3), (4, .int v4), (5, .int v5), (8, .int v8)]) hx hb dX4_driest_77 hl (by decide) rfl (fun ls hl => ?_)
            obtain ⟨x_19, ex_19, h⟩ := q_let_ok h
            refine lv_iinc (v := x_19) (lv' := [(8, .int x_19), (7, .int v7), (6, .int v6), (9, .int r_13), (0, .ref (q 0)), (1, .int v1), (3, .int v3), (4, .int v4), (5, .int v5)]) hx hb dX4_driest_79 hl (k := 8) rfl (by rw [ex_19]; rfl) (by decide) rfl (fun ls hl => ?_)
            refine lv_goto (tgt := 14) hx hb dX4_driest_82 (by decide) ?_
            exact ih14_3 v6 v7 x_19 F_15 K14_3 _ _ _ hP hD hS (lv_sub hl [4, 5, 6, 7, 8, 2, 1, 0] rfl) h
          · have h := q_f c_18 h
            refine lv_iload hx hb dX4_driest_70 (lv_at hl 1 rfl) ?_
            refine lv_goto (tgt := 77) hx hb dX4_driest_72 (by decide) ?_
            refine lv_istore (lv' := [(7, .int r_13), (6, .int v6), (9, .int r_13), (0, .ref (q 0)), (1, .int v1), (3, .int v3), (4, .int v4), (5, .int v5), (8, .int v8)]) hx hb dX4_driest_77 hl (by decide) rfl (fun ls hl => ?_)
            obtain ⟨x_20, ex_20, h⟩ := q_let_ok h
            refine lv_iinc (v := x_20) (lv' := [(8, .int x_20), (7, .int r_13), (6, .int v6), (9, .int r_13), (0, .ref (q 0)), (1, .int v1), (3, .int v3), (4, .int v4), (5, .int v5)]) hx hb dX4_driest_79 hl (k := 8) rfl (by rw [ex_20]; rfl) (by decide) rfl (fun ls hl => ?_)
            refine lv_goto (tgt := 14) hx hb dX4_driest_82 (by decide) ?_
            exact ih14_3 v6 r_13 x_20 F_15 K14_3 _ _ _ hP hD hS (lv_sub hl [4, 5, 6, 7, 8, 2, 1, 0] rfl) h
        · have h := q_f c_17 h
          refine lv_iload hx hb dX4_driest_54 (lv_at hl 8 rfl) ?_
          refine lv_goto (tgt := 61) hx hb dX4_driest_56 (by decide) ?_
          refine lv_istore (lv' := [(6, .int v8), (9, .int r_13), (0, .ref (q 0)), (1, .int v1), (3, .int v3), (4, .int v4), (5, .int v5), (7, .int v7), (8, .int v8)]) hx hb dX4_driest_61 hl (by decide) rfl (fun ls hl => ?_)
          refine lv_iload hx hb dX4_driest_63 (lv_at hl 1 rfl) ?_
          refine lv_iload hx hb dX4_driest_65 (lv_at hl 7 rfl) ?_
          refine lv_icmp_ge (tgt := 75) hx hb dX4_driest_67 (by decide) (fun c_21 => ?_) (fun c_21 => ?_)
          · have h := q_t c_21 h
            refine lv_iload hx hb dX4_driest_75 (lv_at hl 7 rfl) ?_
            refine lv_istore (lv' := [(7, .int v7), (6, .int v8), (9, .int r_13), (0, .ref (q 0)), (1, .int v1), (3, .int v3), (4, .int v4), (5, .int v5), (8, .int v8)]) hx hb dX4_driest_77 hl (by decide) rfl (fun ls hl => ?_)
            obtain ⟨x_22, ex_22, h⟩ := q_let_ok h
            refine lv_iinc (v := x_22) (lv' := [(8, .int x_22), (7, .int v7), (6, .int v8), (9, .int r_13), (0, .ref (q 0)), (1, .int v1), (3, .int v3), (4, .int v4), (5, .int v5)]) hx hb dX4_driest_79 hl (k := 8) rfl (by rw [ex_22]; rfl) (by decide) rfl (fun ls hl => ?_)
            refine lv_goto (tgt := 14) hx hb dX4_driest_82 (by decide) ?_
            exact ih14_3 v8 v7 x_22 F_15 K14_3 _ _ _ hP hD hS (lv_sub hl [4, 5, 6, 7, 8, 2, 1, 0] rfl) h
          · have h := q_f c_21 h
            refine lv_iload hx hb dX4_driest_70 (lv_at hl 1 rfl) ?_
            refine lv_goto (tgt := 77) hx hb dX4_driest_72 (by decide) ?_
            refine lv_istore (lv' := [(7, .int r_13), (6, .int v8), (9, .int r_13), (0, .ref (q 0)), (1, .int v1), (3, .int v3), (4, .int v4), (5, .int v5), (8, .int v8)]) hx hb dX4_driest_77 hl (by decide) rfl (fun ls hl => ?_)
            obtain ⟨x_23, ex_23, h⟩ := q_let_ok h
            refine lv_iinc (v := x_23) (lv' := [(8, .int x_23), (7, .int r_13), (6, .int v8), (9, .int r_13), (0, .ref (q 0)), (1, .int v1), (3, .int v3), (4, .int v4), (5, .int v5)]) hx hb dX4_driest_79 hl (k := 8) rfl (by rw [ex_23]; rfl) (by decide) rfl (fun ls hl => ?_)
            refine lv_goto (tgt := 14) hx hb dX4_driest_82 (by decide) ?_
            exact ih14_3 v8 r_13 x_23 F_15 K14_3 _ _ _ hP hD hS (lv_sub hl [4, 5, 6, 7, 8, 2, 1, 0] rfl) h
  exact L14_3 G p1 p3 p4 p5 N p2 (100 : Int32) p2 F_1 K14_3 _ _ _ hP hD hS (lv_sub hl [3, 4, 6, 7, 8, 2, 1, 0] rfl) hL3
theorem eX4_driest : yX4_driest.cls = RX4 ∧ yX4_driest.cls ≠ "java/lang/invoke/MethodHandle" ∧ yX4_driest.cls ≠ "java/lang/invoke/VarHandle" ∧ (parseMethodDescriptor yX4_driest.desc).map (fun d => d.parameters.length) = some 5 := by decide +kernel
theorem kX4_speed_0 : Cond.constant RX4 35 (-1000000001) ∈ wsX4_speed := List.mem_of_getElem? (i := 1) (by decide +kernel)
def f_X4_speed_B32 (N : Nat) (F : Nat → Nat → Int32) (G : Nat → Int64) : Option (Int32 × (Nat → Nat → Int32)) :=
  q_bd2 (f_X4_finds N F G (-1000000001 : Int32)) (fun r_4 F_5 =>
  some (r_4, F_5))
def f_X4_speed (N : Nat) (F : Nat → Nat → Int32) (G : Nat → Int64) (p1 : Int32) (p2 : Int32) : Option (Int32 × (Nat → Nat → Int32)) :=
  q_bd (f_X4_isThing N F G p1) (fun r_1 =>
  if r_1 = 0 then
    f_X4_speed_B32 N F G
  else
    q_bd (f_X4_in N (p2.toInt64) (1 : Int32) (120 : Int32)) (fun r_7 =>
    if r_7 = 0 then
      f_X4_speed_B32 N F G
    else
      q_bd2 (f_X4_driest N F G (2 : Int32) (1 : Int32) (10 : Int32) p1 p2) (fun r_10 F_11 =>
      some (r_10, F_11))))
set_option maxHeartbeats 4000000 in
set_option maxRecDepth 100000 in
theorem c_X4_speed (l : Launch) (D : va_G) (y : Nat → ClassId) (t : Nat → Nat) (q : Nat → Nat) (sz N : Nat) (F : Nat → Nat → Int32) (G : Nat → Int64) (p1 : Int32) (p2 : Int32) (res : Int32 × (Nat → Nat → Int32)) (h : f_X4_speed N F G p1 p2 = some res) : Met l yX4_speed wsX4_speed ({ frames := 8, cells := 0, slots := 0, locals := 185 } : Room) (pPre D y t [.ref (q 0), .int p1, .int p2] (wM y q F G) sz) (pQi D y (res.1) (wM y q (res.2) G) (va_A (wM y q F G) sz)) 0 0 (va_A (wM y q F G) sz) := by
  refine q_start (Qc := (fun A => pQi D y (res.1) (wM y q (res.2) G) A)) (cc := cX4_speed) (maxL := 3) (ret := (some .int)) (by decide) rfl (Nat.le_of_ble_eq_true rfl) ?_
  intro p e s m below meth c A ls hx hb hr hts hown hlocks hmn hml hP hK hZ hD hA hS hl
  have hl : lv_has ls 3 [(0, .ref (q 0)), (1, .int p1), (2, .int p2)] := hl
  have hown : s.vm.findClass RX4 = some m.cls := hown
  have B32 : ∀ (F : Nat → Nat → Int32) (G : Nat → Int64) (H : Heap) (locs : List Loc) (ls : Array Slot), va_P D vwCl (wM y q F G) H → va_D A (wM y q F G) → va_S A s.heap H locs → lv_has ls 3 [(0, .ref (q 0))] → f_X4_speed_B32 N F G = some res → W p l e ({ frames := 8, cells := 0, slots := 0, locals := 185 } : Room) s m ([.ref (q 0), .int p1, .int p2] : List Value).toArray below meth c H locs 0 0 (MQ below (pQi D y (res.1) (wM y q (res.2) G) A) ([.ref (q 0), .int p1, .int p2] : List Value).toArray s 0 0 A) (F0 m 32 ls []) := by
    intro F G H locs ls hP hD hS hl h
    unfold f_X4_speed_B32 at h
    refine lv_aload_n hx hb dX4_speed_32 rfl (lv_at hl 0 rfl) ?_
    refine lv_ldc (v := -1000000001) hx hb hown (hts _ kX4_speed_0) dX4_speed_33 ?_
    obtain ⟨r_4, F_5, hc_6, h⟩ := q_bd2_ok h
    refine q_ci (r := r_4) (va_runV (As := [.int (-1000000001 : Int32)]) (rest := []) ⟨hx, hb, hml, hown, hts⟩ (c_X4_finds l D y t q _ N F G (-1000000001 : Int32) (r_4, F_5) hc_6) (cwV 1 hts gX4_speed_X4_finds rfl rfl rfl eX4_finds ⟨Nat.le_of_ble_eq_true rfl, Nat.le_of_ble_eq_true rfl⟩) ⟨q_blind, (va_recv hK hP (ci := 4) (q0 := 0) rfl rfl), (q_pre hP hK hZ hD hA hS [0, 1, 2, 3, 4, 5, 6, 7, 8] rfl (by decide))⟩ rfl rfl hl.1 rfl (lv_room (Nat.le_of_ble_eq_true rfl)) dX4_speed_35 ⟨Nat.zero_le _, Nat.zero_le _⟩) hP hD hA hS [0, 1, 2, 3, 4, 5, 6, 7, 8] rfl (by decide) rfl (fun H locs hP hD hS => ?_)
    have hP : va_P D vwCl (wM y q F_5 G) H := hP
    have hD : va_D A (wM y q F_5 G) := hD
    have e9 := Option.some.inj h
    exact q_iret hx hb hr hlocks hK hP hD hS dX4_speed_38 (by first | rw [← e9] | rfl) (by first | rw [← e9] | rfl)
  unfold f_X4_speed at h
  refine lv_aload_n hx hb dX4_speed_0 rfl (lv_at hl 0 rfl) ?_
  refine lv_iload_n hx hb dX4_speed_1 rfl (lv_at hl 1 rfl) ?_
  obtain ⟨r_1, hc_2, h⟩ := q_bd_ok h
  refine q_ci (r := r_1) (va_runV (As := [.int p1]) (rest := []) ⟨hx, hb, hml, hown, hts⟩ (c_X4_isThing l D y t q _ N F G p1 r_1 hc_2) (cwV 1 hts gX4_speed_X4_isThing rfl rfl rfl eX4_isThing ⟨Nat.le_of_ble_eq_true rfl, Nat.le_of_ble_eq_true rfl⟩) ⟨q_blind, (va_recv hK hP (ci := 4) (q0 := 0) rfl rfl), (q_pre hP hK hZ hD hA hS [0, 1, 2, 3, 4, 5, 6, 7, 8] rfl (by decide))⟩ rfl rfl hl.1 rfl (lv_room (Nat.le_of_ble_eq_true rfl)) dX4_speed_2 ⟨Nat.zero_le _, Nat.zero_le _⟩) hP hD hA hS [0, 1, 2, 3, 4, 5, 6, 7, 8] rfl (by decide) rfl (fun H locs hP hD hS => ?_)
  have hP : va_P D vwCl (wM y q F G) H := hP
  have hD : va_D A (wM y q F G) := hD
  refine lv_if_eq (tgt := 32) hx hb dX4_speed_5 (by decide) (fun c_3 => ?_) (fun c_3 => ?_)
  · have h := q_t c_3 h
    exact B32 F G _ _ _ hP hD hS (lv_sub hl [0] rfl) h
  · have h := q_f c_3 h
    refine lv_iload_n hx hb dX4_speed_8 rfl (lv_at hl 2 rfl) ?_
    refine lv_i2l hx hb dX4_speed_9 rfl ?_
    refine lv_iconst (v := 1) hx hb dX4_speed_10 (by decide) ?_
    refine lv_bipush (v := 120) hx hb dX4_speed_11 (by decide) ?_
    obtain ⟨r_7, hc_8, h⟩ := q_bd_ok h
    refine q_ci (r := r_7) (va_runS (As := [.long (p2.toInt64), .int (1 : Int32), .int (120 : Int32)]) (rest := []) ⟨hx, hb, hml, hown, hts⟩ (c_X4_in l D y t q _ N (p2.toInt64) (1 : Int32) (120 : Int32) r_7 hc_8) (va_cwS 3 hts gX4_speed_X4_in rfl rfl rfl eX4_in ⟨Nat.le_of_ble_eq_true rfl, Nat.le_of_ble_eq_true rfl⟩) ⟨q_blind, (q_pre hP hK hZ hD hA hS [] rfl (by decide))⟩ rfl rfl hl.1 rfl (lv_room (Nat.le_of_ble_eq_true rfl)) dX4_speed_13 ⟨Nat.zero_le _, Nat.zero_le _⟩) hP hD hA hS [] rfl (by decide) rfl (fun H locs hP hD hS => ?_)
    have hP : va_P D vwCl (wM y q F G) H := hP
    have hD : va_D A (wM y q F G) := hD
    refine lv_if_eq (tgt := 32) hx hb dX4_speed_16 (by decide) (fun c_9 => ?_) (fun c_9 => ?_)
    · have h := q_t c_9 h
      exact B32 F G _ _ _ hP hD hS (lv_sub hl [0] rfl) h
    · have h := q_f c_9 h
      refine lv_aload_n hx hb dX4_speed_19 rfl (lv_at hl 0 rfl) ?_
      refine lv_iconst (v := 2) hx hb dX4_speed_20 (by decide) ?_
      refine lv_iconst (v := 1) hx hb dX4_speed_21 (by decide) ?_
      refine lv_bipush (v := 10) hx hb dX4_speed_22 (by decide) ?_
      refine lv_iload_n hx hb dX4_speed_24 rfl (lv_at hl 1 rfl) ?_
      refine lv_iload_n hx hb dX4_speed_25 rfl (lv_at hl 2 rfl) ?_
      obtain ⟨r_10, F_11, hc_12, h⟩ := q_bd2_ok h
      refine q_ci (r := r_10) (va_runV (As := [.int (2 : Int32), .int (1 : Int32), .int (10 : Int32), .int p1, .int p2]) (rest := []) ⟨hx, hb, hml, hown, hts⟩ (c_X4_driest l D y t q _ N F G (2 : Int32) (1 : Int32) (10 : Int32) p1 p2 (r_10, F_11) hc_12) (cwV 5 hts gX4_speed_X4_driest rfl rfl rfl eX4_driest ⟨Nat.le_of_ble_eq_true rfl, Nat.le_of_ble_eq_true rfl⟩) ⟨q_blind, (va_recv hK hP (ci := 4) (q0 := 0) rfl rfl), (q_pre hP hK hZ hD hA hS [0, 1, 2, 3, 4, 5, 6, 7, 8] rfl (by decide))⟩ rfl rfl hl.1 rfl (lv_room (Nat.le_of_ble_eq_true rfl)) dX4_speed_26 ⟨Nat.zero_le _, Nat.zero_le _⟩) hP hD hA hS [0, 1, 2, 3, 4, 5, 6, 7, 8] rfl (by decide) rfl (fun H locs hP hD hS => ?_)
      have hP : va_P D vwCl (wM y q F_11 G) H := hP
      have hD : va_D A (wM y q F_11 G) := hD
      refine lv_goto (tgt := 38) hx hb dX4_speed_29 (by decide) ?_
      have e9 := Option.some.inj h
      exact q_iret hx hb hr hlocks hK hP hD hS dX4_speed_38 (by first | rw [← e9] | rfl) (by first | rw [← e9] | rfl)
theorem eX4_speed : yX4_speed.cls = RX4 ∧ yX4_speed.cls ≠ "java/lang/invoke/MethodHandle" ∧ yX4_speed.cls ≠ "java/lang/invoke/VarHandle" ∧ (parseMethodDescriptor yX4_speed.desc).map (fun d => d.parameters.length) = some 2 := by decide +kernel
theorem kX4_far_0 : Cond.constant RX4 35 (-1000000001) ∈ wsX4_far := List.mem_of_getElem? (i := 1) (by decide +kernel)
def f_X4_far_B19 (N : Nat) (F : Nat → Nat → Int32) (G : Nat → Int64) : Option (Int32 × (Nat → Nat → Int32)) :=
  q_bd2 (f_X4_finds N F G (-1000000001 : Int32)) (fun r_4 F_5 =>
  some (r_4, F_5))
def f_X4_far_L38 (N : Nat) (G : Nat → Int64) (v1 : Int32) (v2 : Int32) : Nat → Int32 → Int32 → Int32 → (Nat → Nat → Int32) → Option (Int32 × Int32 × Int32 × (Nat → Nat → Int32))
  | 0, _, _, _, _ => none
  | k + 1, v3, v4, v5, F =>
    if (9 : Int32) < v5 then
      some (v3, v4, v5, F)
    else
      q_bd (f_X4_put N F G v1 (2 : Int32) v5) (fun F_18 =>
      q_bd (f_X4_goesFor N F_18 G v2) (fun F_20 =>
      q_bd (f_X4_it N F_20 G v1 (7 : Int32)) (fun r_22 =>
      q_bd (f_X4_putsBack N F_20 G) (fun F_24 =>
      if r_22 ≤ v4 then
        if r_22 ≤ v4 then
          q_let (v5 + 1) (fun x_28 =>
          f_X4_far_L38 N G v1 v2 k v3 v4 x_28 F_24)
        else
          q_let (v5 + 1) (fun x_29 =>
          f_X4_far_L38 N G v1 v2 k v3 r_22 x_29 F_24)
      else
        if r_22 ≤ v4 then
          q_let (v5 + 1) (fun x_31 =>
          f_X4_far_L38 N G v1 v2 k v5 v4 x_31 F_24)
        else
          q_let (v5 + 1) (fun x_32 =>
          f_X4_far_L38 N G v1 v2 k v5 r_22 x_32 F_24)))))
def f_X4_far (N : Nat) (F : Nat → Nat → Int32) (G : Nat → Int64) (p1 : Int32) (p2 : Int32) : Option (Int32 × (Nat → Nat → Int32)) :=
  q_bd (f_X4_isThing N F G p1) (fun r_1 =>
  if r_1 = 0 then
    f_X4_far_B19 N F G
  else
    q_bd (f_X4_in N (p2.toInt64) (1 : Int32) (120 : Int32)) (fun r_7 =>
    if r_7 = 0 then
      f_X4_far_B19 N F G
    else
      q_bd (f_X4_thinks N F G) (fun F_10 =>
      q_bd4 (f_X4_far_L38 N G p1 p2 N (0 : Int32) (-1 : Int32) (0 : Int32) F_10) (fun x_13 x_14 x_15 F_16 =>
      some (x_13, F_16)))))
set_option maxHeartbeats 4000000 in
set_option maxRecDepth 100000 in
theorem c_X4_far (l : Launch) (D : va_G) (y : Nat → ClassId) (t : Nat → Nat) (q : Nat → Nat) (sz N : Nat) (F : Nat → Nat → Int32) (G : Nat → Int64) (p1 : Int32) (p2 : Int32) (res : Int32 × (Nat → Nat → Int32)) (h : f_X4_far N F G p1 p2 = some res) : Met l yX4_far wsX4_far ({ frames := 7, cells := 0, slots := 0, locals := 156 } : Room) (pPre D y t [.ref (q 0), .int p1, .int p2] (wM y q F G) sz) (pQi D y (res.1) (wM y q (res.2) G) (va_A (wM y q F G) sz)) 0 0 (va_A (wM y q F G) sz) := by
  refine q_start (Qc := (fun A => pQi D y (res.1) (wM y q (res.2) G) A)) (cc := cX4_far) (maxL := 7) (ret := (some .int)) (by decide) rfl (Nat.le_of_ble_eq_true rfl) ?_
  intro p e s m below meth c A ls hx hb hr hts hown hlocks hmn hml hP hK hZ hD hA hS hl
  have hl : lv_has ls 7 [(0, .ref (q 0)), (1, .int p1), (2, .int p2)] := hl
  have hown : s.vm.findClass RX4 = some m.cls := hown
  have B19 : ∀ (F : Nat → Nat → Int32) (G : Nat → Int64) (H : Heap) (locs : List Loc) (ls : Array Slot), va_P D vwCl (wM y q F G) H → va_D A (wM y q F G) → va_S A s.heap H locs → lv_has ls 7 [(0, .ref (q 0))] → f_X4_far_B19 N F G = some res → W p l e ({ frames := 7, cells := 0, slots := 0, locals := 156 } : Room) s m ([.ref (q 0), .int p1, .int p2] : List Value).toArray below meth c H locs 0 0 (MQ below (pQi D y (res.1) (wM y q (res.2) G) A) ([.ref (q 0), .int p1, .int p2] : List Value).toArray s 0 0 A) (F0 m 19 ls []) := by
    intro F G H locs ls hP hD hS hl h
    unfold f_X4_far_B19 at h
    refine lv_aload_n hx hb dX4_far_19 rfl (lv_at hl 0 rfl) ?_
    refine lv_ldc (v := -1000000001) hx hb hown (hts _ kX4_far_0) dX4_far_20 ?_
    obtain ⟨r_4, F_5, hc_6, h⟩ := q_bd2_ok h
    refine q_ci (r := r_4) (va_runV (As := [.int (-1000000001 : Int32)]) (rest := []) ⟨hx, hb, hml, hown, hts⟩ (c_X4_finds l D y t q _ N F G (-1000000001 : Int32) (r_4, F_5) hc_6) (cwV 1 hts gX4_far_X4_finds rfl rfl rfl eX4_finds ⟨Nat.le_of_ble_eq_true rfl, Nat.le_of_ble_eq_true rfl⟩) ⟨q_blind, (va_recv hK hP (ci := 4) (q0 := 0) rfl rfl), (q_pre hP hK hZ hD hA hS [0, 1, 2, 3, 4, 5, 6, 7, 8] rfl (by decide))⟩ rfl rfl hl.1 rfl (lv_room (Nat.le_of_ble_eq_true rfl)) dX4_far_22 ⟨Nat.zero_le _, Nat.zero_le _⟩) hP hD hA hS [0, 1, 2, 3, 4, 5, 6, 7, 8] rfl (by decide) rfl (fun H locs hP hD hS => ?_)
    have hP : va_P D vwCl (wM y q F_5 G) H := hP
    have hD : va_D A (wM y q F_5 G) := hD
    have e9 := Option.some.inj h
    exact q_iret hx hb hr hlocks hK hP hD hS dX4_far_25 (by first | rw [← e9] | rfl) (by first | rw [← e9] | rfl)
  unfold f_X4_far at h
  refine lv_aload_n hx hb dX4_far_0 rfl (lv_at hl 0 rfl) ?_
  refine lv_iload_n hx hb dX4_far_1 rfl (lv_at hl 1 rfl) ?_
  obtain ⟨r_1, hc_2, h⟩ := q_bd_ok h
  refine q_ci (r := r_1) (va_runV (As := [.int p1]) (rest := []) ⟨hx, hb, hml, hown, hts⟩ (c_X4_isThing l D y t q _ N F G p1 r_1 hc_2) (cwV 1 hts gX4_far_X4_isThing rfl rfl rfl eX4_isThing ⟨Nat.le_of_ble_eq_true rfl, Nat.le_of_ble_eq_true rfl⟩) ⟨q_blind, (va_recv hK hP (ci := 4) (q0 := 0) rfl rfl), (q_pre hP hK hZ hD hA hS [0, 1, 2, 3, 4, 5, 6, 7, 8] rfl (by decide))⟩ rfl rfl hl.1 rfl (lv_room (Nat.le_of_ble_eq_true rfl)) dX4_far_2 ⟨Nat.zero_le _, Nat.zero_le _⟩) hP hD hA hS [0, 1, 2, 3, 4, 5, 6, 7, 8] rfl (by decide) rfl (fun H locs hP hD hS => ?_)
  have hP : va_P D vwCl (wM y q F G) H := hP
  have hD : va_D A (wM y q F G) := hD
  refine lv_if_eq (tgt := 19) hx hb dX4_far_5 (by decide) (fun c_3 => ?_) (fun c_3 => ?_)
  · have h := q_t c_3 h
    exact B19 F G _ _ _ hP hD hS (lv_sub hl [0] rfl) h
  · have h := q_f c_3 h
    refine lv_iload_n hx hb dX4_far_8 rfl (lv_at hl 2 rfl) ?_
    refine lv_i2l hx hb dX4_far_9 rfl ?_
    refine lv_iconst (v := 1) hx hb dX4_far_10 (by decide) ?_
    refine lv_bipush (v := 120) hx hb dX4_far_11 (by decide) ?_
    obtain ⟨r_7, hc_8, h⟩ := q_bd_ok h
    refine q_ci (r := r_7) (va_runS (As := [.long (p2.toInt64), .int (1 : Int32), .int (120 : Int32)]) (rest := []) ⟨hx, hb, hml, hown, hts⟩ (c_X4_in l D y t q _ N (p2.toInt64) (1 : Int32) (120 : Int32) r_7 hc_8) (va_cwS 3 hts gX4_far_X4_in rfl rfl rfl eX4_in ⟨Nat.le_of_ble_eq_true rfl, Nat.le_of_ble_eq_true rfl⟩) ⟨q_blind, (q_pre hP hK hZ hD hA hS [] rfl (by decide))⟩ rfl rfl hl.1 rfl (lv_room (Nat.le_of_ble_eq_true rfl)) dX4_far_13 ⟨Nat.zero_le _, Nat.zero_le _⟩) hP hD hA hS [] rfl (by decide) rfl (fun H locs hP hD hS => ?_)
    have hP : va_P D vwCl (wM y q F G) H := hP
    have hD : va_D A (wM y q F G) := hD
    refine lv_if_ne (tgt := 26) hx hb dX4_far_16 (by decide) (fun c_9 => ?_) (fun c_9 => ?_)
    · have h := q_f c_9 h
      refine lv_aload_n hx hb dX4_far_26 rfl (lv_at hl 0 rfl) ?_
      obtain ⟨F_10, hc_11, h⟩ := q_bd_ok h
      refine q_cv (va_runV (As := []) (rest := []) ⟨hx, hb, hml, hown, hts⟩ (c_X4_thinks l D y t q _ N F G F_10 hc_11) (cwV 0 hts gX4_far_X4_thinks rfl rfl rfl eX4_thinks ⟨Nat.le_of_ble_eq_true rfl, Nat.le_of_ble_eq_true rfl⟩) ⟨q_blind, (va_recv hK hP (ci := 4) (q0 := 0) rfl rfl), (q_pre hP hK hZ hD hA hS [0, 1, 2, 3, 4, 5, 6, 7, 8] rfl (by decide))⟩ rfl rfl hl.1 rfl (lv_room (Nat.le_of_ble_eq_true rfl)) dX4_far_27 ⟨Nat.zero_le _, Nat.zero_le _⟩) hP hD hA hS [0, 1, 2, 3, 4, 5, 6, 7, 8] rfl (by decide) rfl (fun H locs hP hD hS => ?_)
      have hP : va_P D vwCl (wM y q F_10 G) H := hP
      have hD : va_D A (wM y q F_10 G) := hD
      refine lv_iconst (v := 0) hx hb dX4_far_30 (by decide) ?_
      refine lv_istore_n (lv' := [(3, .int (0 : Int32)), (0, .ref (q 0)), (1, .int p1), (2, .int p2)]) hx hb dX4_far_31 rfl hl (by decide) rfl (fun ls hl => ?_)
      refine lv_iconst (v := -1) hx hb dX4_far_32 (by decide) ?_
      refine lv_istore (lv' := [(4, .int (-1 : Int32)), (3, .int (0 : Int32)), (0, .ref (q 0)), (1, .int p1), (2, .int p2)]) hx hb dX4_far_33 hl (by decide) rfl (fun ls hl => ?_)
      refine lv_iconst (v := 0) hx hb dX4_far_35 (by decide) ?_
      refine lv_istore (lv' := [(5, .int (0 : Int32)), (4, .int (-1 : Int32)), (3, .int (0 : Int32)), (0, .ref (q 0)), (1, .int p1), (2, .int p2)]) hx hb dX4_far_36 hl (by decide) rfl (fun ls hl => ?_)
      obtain ⟨x_13, x_14, x_15, F_16, hL12, h⟩ := q_bd4_ok h
      have K38_12 : ∀ (H : Heap) (locs : List Loc) (ls : Array Slot), va_P D vwCl (wM y q F_16 G) H → va_D A (wM y q F_16 G) → va_S A s.heap H locs → lv_has ls 7 [(0, .ref (q 0)), (1, .int p1), (2, .int p2), (3, .int x_13), (4, .int x_14), (5, .int x_15)] → W p l e ({ frames := 7, cells := 0, slots := 0, locals := 156 } : Room) s m ([.ref (q 0), .int p1, .int p2] : List Value).toArray below meth c H locs 0 0 (MQ below (pQi D y (res.1) (wM y q (res.2) G) A) ([.ref (q 0), .int p1, .int p2] : List Value).toArray s 0 0 A) (F0 m 107 ls []) := by
        intro H locs ls hP hD hS hl
        refine lv_iload_n hx hb dX4_far_107 rfl (lv_at hl 3 rfl) ?_
        have e9 := Option.some.inj h
        exact q_iret hx hb hr hlocks hK hP hD hS dX4_far_108 (by first | rw [← e9] | rfl) (by first | rw [← e9] | rfl)
      have L38_12 : ∀ (G : Nat → Int64) (v1 : Int32) (v2 : Int32) (k : Nat) (v3 : Int32) (v4 : Int32) (v5 : Int32) (F : Nat → Nat → Int32), (∀ (H : Heap) (locs : List Loc) (ls : Array Slot), va_P D vwCl (wM y q F_16 G) H → va_D A (wM y q F_16 G) → va_S A s.heap H locs → lv_has ls 7 [(0, .ref (q 0)), (1, .int v1), (2, .int v2), (3, .int x_13), (4, .int x_14), (5, .int x_15)] → W p l e ({ frames := 7, cells := 0, slots := 0, locals := 156 } : Room) s m ([.ref (q 0), .int p1, .int p2] : List Value).toArray below meth c H locs 0 0 (MQ below (pQi D y (res.1) (wM y q (res.2) G) A) ([.ref (q 0), .int p1, .int p2] : List Value).toArray s 0 0 A) (F0 m 107 ls [])) → ∀ (H : Heap) (locs : List Loc) (ls : Array Slot), va_P D vwCl (wM y q F G) H → va_D A (wM y q F G) → va_S A s.heap H locs → lv_has ls 7 [(0, .ref (q 0)), (1, .int v1), (2, .int v2), (3, .int v3), (4, .int v4), (5, .int v5)] → f_X4_far_L38 N G v1 v2 k v3 v4 v5 F = some (x_13, x_14, x_15, F_16) → W p l e ({ frames := 7, cells := 0, slots := 0, locals := 156 } : Room) s m ([.ref (q 0), .int p1, .int p2] : List Value).toArray below meth c H locs 0 0 (MQ below (pQi D y (res.1) (wM y q (res.2) G) A) ([.ref (q 0), .int p1, .int p2] : List Value).toArray s 0 0 A) (F0 m 38 ls []) := by
        intro G v1 v2 k
        induction k with
        | zero =>
          intro v3 v4 v5 F K38_12 H locs ls hP hD hS hl h
          have h : (none : Option (Int32 × Int32 × Int32 × (Nat → Nat → Int32))) = some _ := h
          cases h
        | succ k ih38_12 =>
          intro v3 v4 v5 F K38_12 H locs ls hP hD hS hl h
          rw [f_X4_far_L38] at h
          refine lv_iload hx hb dX4_far_38 (lv_at hl 5 rfl) ?_
          refine lv_bipush (v := 9) hx hb dX4_far_40 (by decide) ?_
          refine lv_icmp_gt (tgt := 107) hx hb dX4_far_42 (by decide) (fun c_17 => ?_) (fun c_17 => ?_)
          · have h := q_t c_17 h
            cases h
            exact K38_12 _ _ _ hP hD hS (lv_sub hl [0, 1, 2, 3, 4, 5] rfl)
          · have h := q_f c_17 h
            refine lv_aload_n hx hb dX4_far_45 rfl (lv_at hl 0 rfl) ?_
            refine lv_iload_n hx hb dX4_far_46 rfl (lv_at hl 1 rfl) ?_
            refine lv_iconst (v := 2) hx hb dX4_far_47 (by decide) ?_
            refine lv_iload hx hb dX4_far_48 (lv_at hl 5 rfl) ?_
            obtain ⟨F_18, hc_19, h⟩ := q_bd_ok h
            refine q_cv (va_runV (As := [.int v1, .int (2 : Int32), .int v5]) (rest := []) ⟨hx, hb, hml, hown, hts⟩ (c_X4_put l D y t q _ N F G v1 (2 : Int32) v5 F_18 hc_19) (cwV 3 hts gX4_far_X4_put rfl rfl rfl eX4_put ⟨Nat.le_of_ble_eq_true rfl, Nat.le_of_ble_eq_true rfl⟩) ⟨q_blind, (va_recv hK hP (ci := 4) (q0 := 0) rfl rfl), (q_pre hP hK hZ hD hA hS [0, 1, 2, 3, 4, 5, 6, 7, 8] rfl (by decide))⟩ rfl rfl hl.1 rfl (lv_room (Nat.le_of_ble_eq_true rfl)) dX4_far_50 ⟨Nat.zero_le _, Nat.zero_le _⟩) hP hD hA hS [0, 1, 2, 3, 4, 5, 6, 7, 8] rfl (by decide) rfl (fun H locs hP hD hS => ?_)
            have hP : va_P D vwCl (wM y q F_18 G) H := hP
            have hD : va_D A (wM y q F_18 G) := hD
            refine lv_aload_n hx hb dX4_far_53 rfl (lv_at hl 0 rfl) ?_
            refine lv_iload_n hx hb dX4_far_54 rfl (lv_at hl 2 rfl) ?_
            obtain ⟨F_20, hc_21, h⟩ := q_bd_ok h
            refine q_cv (va_runV (As := [.int v2]) (rest := []) ⟨hx, hb, hml, hown, hts⟩ (c_X4_goesFor l D y t q _ N F_18 G v2 F_20 hc_21) (cwV 1 hts gX4_far_X4_goesFor rfl rfl rfl eX4_goesFor ⟨Nat.le_of_ble_eq_true rfl, Nat.le_of_ble_eq_true rfl⟩) ⟨q_blind, (va_recv hK hP (ci := 4) (q0 := 0) rfl rfl), (q_pre hP hK hZ hD hA hS [0, 1, 2, 3, 4, 5, 6, 7, 8] rfl (by decide))⟩ rfl rfl hl.1 rfl (lv_room (Nat.le_of_ble_eq_true rfl)) dX4_far_55 ⟨Nat.zero_le _, Nat.zero_le _⟩) hP hD hA hS [0, 1, 2, 3, 4, 5, 6, 7, 8] rfl (by decide) rfl (fun H locs hP hD hS => ?_)
            have hP : va_P D vwCl (wM y q F_20 G) H := hP
            have hD : va_D A (wM y q F_20 G) := hD
            refine lv_aload_n hx hb dX4_far_58 rfl (lv_at hl 0 rfl) ?_
            refine lv_iload_n hx hb dX4_far_59 rfl (lv_at hl 1 rfl) ?_
            refine lv_bipush (v := 7) hx hb dX4_far_60 (by decide) ?_
            obtain ⟨r_22, hc_23, h⟩ := q_bd_ok h
            refine q_ci (r := r_22) (va_runV (As := [.int v1, .int (7 : Int32)]) (rest := []) ⟨hx, hb, hml, hown, hts⟩ (c_X4_it l D y t q _ N F_20 G v1 (7 : Int32) r_22 hc_23) (cwV 2 hts gX4_far_X4_it rfl rfl rfl eX4_it ⟨Nat.le_of_ble_eq_true rfl, Nat.le_of_ble_eq_true rfl⟩) ⟨q_blind, (va_recv hK hP (ci := 4) (q0 := 0) rfl rfl), (q_pre hP hK hZ hD hA hS [0, 1, 2, 3, 4, 5, 6, 7, 8] rfl (by decide))⟩ rfl rfl hl.1 rfl (lv_room (Nat.le_of_ble_eq_true rfl)) dX4_far_62 ⟨Nat.zero_le _, Nat.zero_le _⟩) hP hD hA hS [0, 1, 2, 3, 4, 5, 6, 7, 8] rfl (by decide) rfl (fun H locs hP hD hS => ?_)
            have hP : va_P D vwCl (wM y q F_20 G) H := hP
            have hD : va_D A (wM y q F_20 G) := hD
            refine lv_istore (lv' := [(6, .int r_22), (0, .ref (q 0)), (1, .int v1), (2, .int v2), (3, .int v3), (4, .int v4), (5, .int v5)]) hx hb dX4_far_65 hl (by decide) rfl (fun ls hl => ?_)
            refine lv_aload_n hx hb dX4_far_67 rfl (lv_at hl 1 rfl) ?_
            obtain ⟨F_24, hc_25, h⟩ := q_bd_ok h
            refine q_cv (va_runV (As := []) (rest := []) ⟨hx, hb, hml, hown, hts⟩ (c_X4_putsBack l D y t q _ N F_20 G F_24 hc_25) (cwV 0 hts gX4_far_X4_putsBack rfl rfl rfl eX4_putsBack ⟨Nat.le_of_ble_eq_true rfl, Nat.le_of_ble_eq_true rfl⟩) ⟨q_blind, (va_recv hK hP (ci := 4) (q0 := 0) rfl rfl), (q_pre hP hK hZ hD hA hS [0, 1, 2, 3, 4, 5, 6, 7, 8] rfl (by decide))⟩ rfl rfl hl.1 rfl (lv_room (Nat.le_of_ble_eq_true rfl)) dX4_far_68 ⟨Nat.zero_le _, Nat.zero_le _⟩) hP hD hA hS [0, 1, 2, 3, 4, 5, 6, 7, 8] rfl (by decide) rfl (fun H locs hP hD hS => ?_)
            have hP : va_P D vwCl (wM y q F_24 G) H := hP
            have hD : va_D A (wM y q F_24 G) := hD
            refine lv_iload hx hb dX4_far_71 (lv_at hl 0 rfl) ?_
            refine lv_iload hx hb dX4_far_73 (lv_at hl 5 rfl) ?_
            refine lv_icmp_le (tgt := 83) hx hb dX4_far_75 (by decide) (fun c_26 => ?_) (fun c_26 => ?_)
            · have h := q_t c_26 h
              refine lv_iload_n hx hb dX4_far_83 rfl (lv_at hl 4 rfl) ?_
              refine lv_istore_n (lv' := [(3, .int v3), (6, .int r_22), (0, .ref (q 0)), (1, .int v1), (2, .int v2), (4, .int v4), (5, .int v5)]) hx hb dX4_far_84 rfl hl (by decide) rfl (fun ls hl => ?_)
              refine lv_iload hx hb dX4_far_85 (lv_at hl 1 rfl) ?_
              refine lv_iload hx hb dX4_far_87 (lv_at hl 5 rfl) ?_
              refine lv_icmp_le (tgt := 97) hx hb dX4_far_89 (by decide) (fun c_27 => ?_) (fun c_27 => ?_)
              · have h := q_t c_27 h
                refine lv_iload hx hb dX4_far_97 (lv_at hl 5 rfl) ?_
                refine lv_istore (lv' := [(4, .int v4), (3, .int v3), (6, .int r_22), (0, .ref (q 0)), (1, .int v1), (2, .int v2), (5, .int v5)]) hx hb dX4_far_99 hl (by decide) rfl (fun ls hl => ?_)
                obtain ⟨x_28, ex_28, h⟩ := q_let_ok h
                refine lv_iinc (v := x_28) (lv' := [(5, .int x_28), (4, .int v4), (3, .int v3), (6, .int r_22), (0, .ref (q 0)), (1, .int v1), (2, .int v2)]) hx hb dX4_far_101 hl (k := 6) rfl (by rw [ex_28]; rfl) (by decide) rfl (fun ls hl => ?_)
                refine lv_goto (tgt := 38) hx hb dX4_far_104 (by decide) ?_
                exact ih38_12 v3 v4 x_28 F_24 K38_12 _ _ _ hP hD hS (lv_sub hl [4, 5, 6, 2, 1, 0] rfl) h
              · have h := q_f c_27 h
                refine lv_iload hx hb dX4_far_92 (lv_at hl 1 rfl) ?_
                refine lv_goto (tgt := 99) hx hb dX4_far_94 (by decide) ?_
                refine lv_istore (lv' := [(4, .int r_22), (3, .int v3), (6, .int r_22), (0, .ref (q 0)), (1, .int v1), (2, .int v2), (5, .int v5)]) hx hb dX4_far_99 hl (by decide) rfl (fun ls hl => ?_)
                obtain ⟨x_29, ex_29, h⟩ := q_let_ok h
                refine lv_iinc (v := x_29) (lv' := [(5, .int x_29), (4, .int r_22), (3, .int v3), (6, .int r_22), (0, .ref (q 0)), (1, .int v1), (2, .int v2)]) hx hb dX4_far_101 hl (k := 6) rfl (by rw [ex_29]; rfl) (by decide) rfl (fun ls hl => ?_)
                refine lv_goto (tgt := 38) hx hb dX4_far_104 (by decide) ?_
                exact ih38_12 v3 r_22 x_29 F_24 K38_12 _ _ _ hP hD hS (lv_sub hl [4, 5, 6, 2, 1, 0] rfl) h
            · have h := q_f c_26 h
              refine lv_iload hx hb dX4_far_78 (lv_at hl 6 rfl) ?_
              refine lv_goto (tgt := 84) hx hb dX4_far_80 (by decide) ?_
              refine lv_istore_n (lv' := [(3, .int v5), (6, .int r_22), (0, .ref (q 0)), (1, .int v1), (2, .int v2), (4, .int v4), (5, .int v5)]) hx hb dX4_far_84 rfl hl (by decide) rfl (fun ls hl => ?_)
              refine lv_iload hx hb dX4_far_85 (lv_at hl 1 rfl) ?_
              refine lv_iload hx hb dX4_far_87 (lv_at hl 5 rfl) ?_
              refine lv_icmp_le (tgt := 97) hx hb dX4_far_89 (by decide) (fun c_30 => ?_) (fun c_30 => ?_)
              · have h := q_t c_30 h
                refine lv_iload hx hb dX4_far_97 (lv_at hl 5 rfl) ?_
                refine lv_istore (lv' := [(4, .int v4), (3, .int v5), (6, .int r_22), (0, .ref (q 0)), (1, .int v1), (2, .int v2), (5, .int v5)]) hx hb dX4_far_99 hl (by decide) rfl (fun ls hl => ?_)
                obtain ⟨x_31, ex_31, h⟩ := q_let_ok h
                refine lv_iinc (v := x_31) (lv' := [(5, .int x_31), (4, .int v4), (3, .int v5), (6, .int r_22), (0, .ref (q 0)), (1, .int v1), (2, .int v2)]) hx hb dX4_far_101 hl (k := 6) rfl (by rw [ex_31]; rfl) (by decide) rfl (fun ls hl => ?_)
                refine lv_goto (tgt := 38) hx hb dX4_far_104 (by decide) ?_
                exact ih38_12 v5 v4 x_31 F_24 K38_12 _ _ _ hP hD hS (lv_sub hl [4, 5, 6, 2, 1, 0] rfl) h
              · have h := q_f c_30 h
                refine lv_iload hx hb dX4_far_92 (lv_at hl 1 rfl) ?_
                refine lv_goto (tgt := 99) hx hb dX4_far_94 (by decide) ?_
                refine lv_istore (lv' := [(4, .int r_22), (3, .int v5), (6, .int r_22), (0, .ref (q 0)), (1, .int v1), (2, .int v2), (5, .int v5)]) hx hb dX4_far_99 hl (by decide) rfl (fun ls hl => ?_)
                obtain ⟨x_32, ex_32, h⟩ := q_let_ok h
                refine lv_iinc (v := x_32) (lv' := [(5, .int x_32), (4, .int r_22), (3, .int v5), (6, .int r_22), (0, .ref (q 0)), (1, .int v1), (2, .int v2)]) hx hb dX4_far_101 hl (k := 6) rfl (by rw [ex_32]; rfl) (by decide) rfl (fun ls hl => ?_)
                refine lv_goto (tgt := 38) hx hb dX4_far_104 (by decide) ?_
                exact ih38_12 v5 r_22 x_32 F_24 K38_12 _ _ _ hP hD hS (lv_sub hl [4, 5, 6, 2, 1, 0] rfl) h
      exact L38_12 G p1 p2 N (0 : Int32) (-1 : Int32) (0 : Int32) F_10 K38_12 _ _ _ hP hD hS (lv_sub hl [3, 4, 5, 2, 1, 0] rfl) hL12
    · have h := q_t c_9 h
      exact B19 F G _ _ _ hP hD hS (lv_sub hl [0] rfl) h
theorem eX4_far : yX4_far.cls = RX4 ∧ yX4_far.cls ≠ "java/lang/invoke/MethodHandle" ∧ yX4_far.cls ≠ "java/lang/invoke/VarHandle" ∧ (parseMethodDescriptor yX4_far.desc).map (fun d => d.parameters.length) = some 2 := by decide +kernel
theorem kX4_kind_0 : Cond.constant RX4 35 (-1000000001) ∈ wsX4_kind := List.mem_of_getElem? (i := 1) (by decide +kernel)
def f_X4_kind_B36 (N : Nat) (F : Nat → Nat → Int32) (G : Nat → Int64) : Option (Int32 × (Nat → Nat → Int32)) :=
  q_bd2 (f_X4_finds N F G (-1000000001 : Int32)) (fun r_4 F_5 =>
  some (r_4, F_5))
def f_X4_kind (N : Nat) (F : Nat → Nat → Int32) (G : Nat → Int64) (p1 : Int32) (p2 : Int32) : Option (Int32 × (Nat → Nat → Int32)) :=
  q_bd (f_X4_isThing N F G p1) (fun r_1 =>
  if r_1 = 0 then
    f_X4_kind_B36 N F G
  else
    q_bd (f_X4_in N (p2.toInt64) (1 : Int32) (120 : Int32)) (fun r_7 =>
    if r_7 = 0 then
      f_X4_kind_B36 N F G
    else
      q_bd2 (f_X4_driest N F G ((5 : Int32) + ((8 : Int32) * p1)) (0 : Int32) (5 : Int32) p1 p2) (fun r_10 F_11 =>
      some (r_10, F_11))))
set_option maxHeartbeats 4000000 in
set_option maxRecDepth 100000 in
theorem c_X4_kind (l : Launch) (D : va_G) (y : Nat → ClassId) (t : Nat → Nat) (q : Nat → Nat) (sz N : Nat) (F : Nat → Nat → Int32) (G : Nat → Int64) (p1 : Int32) (p2 : Int32) (res : Int32 × (Nat → Nat → Int32)) (h : f_X4_kind N F G p1 p2 = some res) : Met l yX4_kind wsX4_kind ({ frames := 8, cells := 0, slots := 0, locals := 185 } : Room) (pPre D y t [.ref (q 0), .int p1, .int p2] (wM y q F G) sz) (pQi D y (res.1) (wM y q (res.2) G) (va_A (wM y q F G) sz)) 0 0 (va_A (wM y q F G) sz) := by
  refine q_start (Qc := (fun A => pQi D y (res.1) (wM y q (res.2) G) A)) (cc := cX4_kind) (maxL := 3) (ret := (some .int)) (by decide) rfl (Nat.le_of_ble_eq_true rfl) ?_
  intro p e s m below meth c A ls hx hb hr hts hown hlocks hmn hml hP hK hZ hD hA hS hl
  have hl : lv_has ls 3 [(0, .ref (q 0)), (1, .int p1), (2, .int p2)] := hl
  have hown : s.vm.findClass RX4 = some m.cls := hown
  have B36 : ∀ (F : Nat → Nat → Int32) (G : Nat → Int64) (H : Heap) (locs : List Loc) (ls : Array Slot), va_P D vwCl (wM y q F G) H → va_D A (wM y q F G) → va_S A s.heap H locs → lv_has ls 3 [(0, .ref (q 0))] → f_X4_kind_B36 N F G = some res → W p l e ({ frames := 8, cells := 0, slots := 0, locals := 185 } : Room) s m ([.ref (q 0), .int p1, .int p2] : List Value).toArray below meth c H locs 0 0 (MQ below (pQi D y (res.1) (wM y q (res.2) G) A) ([.ref (q 0), .int p1, .int p2] : List Value).toArray s 0 0 A) (F0 m 36 ls []) := by
    intro F G H locs ls hP hD hS hl h
    unfold f_X4_kind_B36 at h
    refine lv_aload_n hx hb dX4_kind_36 rfl (lv_at hl 0 rfl) ?_
    refine lv_ldc (v := -1000000001) hx hb hown (hts _ kX4_kind_0) dX4_kind_37 ?_
    obtain ⟨r_4, F_5, hc_6, h⟩ := q_bd2_ok h
    refine q_ci (r := r_4) (va_runV (As := [.int (-1000000001 : Int32)]) (rest := []) ⟨hx, hb, hml, hown, hts⟩ (c_X4_finds l D y t q _ N F G (-1000000001 : Int32) (r_4, F_5) hc_6) (cwV 1 hts gX4_kind_X4_finds rfl rfl rfl eX4_finds ⟨Nat.le_of_ble_eq_true rfl, Nat.le_of_ble_eq_true rfl⟩) ⟨q_blind, (va_recv hK hP (ci := 4) (q0 := 0) rfl rfl), (q_pre hP hK hZ hD hA hS [0, 1, 2, 3, 4, 5, 6, 7, 8] rfl (by decide))⟩ rfl rfl hl.1 rfl (lv_room (Nat.le_of_ble_eq_true rfl)) dX4_kind_39 ⟨Nat.zero_le _, Nat.zero_le _⟩) hP hD hA hS [0, 1, 2, 3, 4, 5, 6, 7, 8] rfl (by decide) rfl (fun H locs hP hD hS => ?_)
    have hP : va_P D vwCl (wM y q F_5 G) H := hP
    have hD : va_D A (wM y q F_5 G) := hD
    have e9 := Option.some.inj h
    exact q_iret hx hb hr hlocks hK hP hD hS dX4_kind_42 (by first | rw [← e9] | rfl) (by first | rw [← e9] | rfl)
  unfold f_X4_kind at h
  refine lv_aload_n hx hb dX4_kind_0 rfl (lv_at hl 0 rfl) ?_
  refine lv_iload_n hx hb dX4_kind_1 rfl (lv_at hl 1 rfl) ?_
  obtain ⟨r_1, hc_2, h⟩ := q_bd_ok h
  refine q_ci (r := r_1) (va_runV (As := [.int p1]) (rest := []) ⟨hx, hb, hml, hown, hts⟩ (c_X4_isThing l D y t q _ N F G p1 r_1 hc_2) (cwV 1 hts gX4_kind_X4_isThing rfl rfl rfl eX4_isThing ⟨Nat.le_of_ble_eq_true rfl, Nat.le_of_ble_eq_true rfl⟩) ⟨q_blind, (va_recv hK hP (ci := 4) (q0 := 0) rfl rfl), (q_pre hP hK hZ hD hA hS [0, 1, 2, 3, 4, 5, 6, 7, 8] rfl (by decide))⟩ rfl rfl hl.1 rfl (lv_room (Nat.le_of_ble_eq_true rfl)) dX4_kind_2 ⟨Nat.zero_le _, Nat.zero_le _⟩) hP hD hA hS [0, 1, 2, 3, 4, 5, 6, 7, 8] rfl (by decide) rfl (fun H locs hP hD hS => ?_)
  have hP : va_P D vwCl (wM y q F G) H := hP
  have hD : va_D A (wM y q F G) := hD
  refine lv_if_eq (tgt := 36) hx hb dX4_kind_5 (by decide) (fun c_3 => ?_) (fun c_3 => ?_)
  · have h := q_t c_3 h
    exact B36 F G _ _ _ hP hD hS (lv_sub hl [0] rfl) h
  · have h := q_f c_3 h
    refine lv_iload_n hx hb dX4_kind_8 rfl (lv_at hl 2 rfl) ?_
    refine lv_i2l hx hb dX4_kind_9 rfl ?_
    refine lv_iconst (v := 1) hx hb dX4_kind_10 (by decide) ?_
    refine lv_bipush (v := 120) hx hb dX4_kind_11 (by decide) ?_
    obtain ⟨r_7, hc_8, h⟩ := q_bd_ok h
    refine q_ci (r := r_7) (va_runS (As := [.long (p2.toInt64), .int (1 : Int32), .int (120 : Int32)]) (rest := []) ⟨hx, hb, hml, hown, hts⟩ (c_X4_in l D y t q _ N (p2.toInt64) (1 : Int32) (120 : Int32) r_7 hc_8) (va_cwS 3 hts gX4_kind_X4_in rfl rfl rfl eX4_in ⟨Nat.le_of_ble_eq_true rfl, Nat.le_of_ble_eq_true rfl⟩) ⟨q_blind, (q_pre hP hK hZ hD hA hS [] rfl (by decide))⟩ rfl rfl hl.1 rfl (lv_room (Nat.le_of_ble_eq_true rfl)) dX4_kind_13 ⟨Nat.zero_le _, Nat.zero_le _⟩) hP hD hA hS [] rfl (by decide) rfl (fun H locs hP hD hS => ?_)
    have hP : va_P D vwCl (wM y q F G) H := hP
    have hD : va_D A (wM y q F G) := hD
    refine lv_if_eq (tgt := 36) hx hb dX4_kind_16 (by decide) (fun c_9 => ?_) (fun c_9 => ?_)
    · have h := q_t c_9 h
      exact B36 F G _ _ _ hP hD hS (lv_sub hl [0] rfl) h
    · have h := q_f c_9 h
      refine lv_aload_n hx hb dX4_kind_19 rfl (lv_at hl 0 rfl) ?_
      refine lv_iconst (v := 5) hx hb dX4_kind_20 (by decide) ?_
      refine lv_bipush (v := 8) hx hb dX4_kind_21 (by decide) ?_
      refine lv_iload_n hx hb dX4_kind_23 rfl (lv_at hl 1 rfl) ?_
      refine lv_imul hx hb dX4_kind_24 ?_
      refine lv_iadd hx hb dX4_kind_25 ?_
      refine lv_iconst (v := 0) hx hb dX4_kind_26 (by decide) ?_
      refine lv_iconst (v := 5) hx hb dX4_kind_27 (by decide) ?_
      refine lv_iload_n hx hb dX4_kind_28 rfl (lv_at hl 1 rfl) ?_
      refine lv_iload_n hx hb dX4_kind_29 rfl (lv_at hl 2 rfl) ?_
      obtain ⟨r_10, F_11, hc_12, h⟩ := q_bd2_ok h
      refine q_ci (r := r_10) (va_runV (As := [.int ((5 : Int32) + ((8 : Int32) * p1)), .int (0 : Int32), .int (5 : Int32), .int p1, .int p2]) (rest := []) ⟨hx, hb, hml, hown, hts⟩ (c_X4_driest l D y t q _ N F G ((5 : Int32) + ((8 : Int32) * p1)) (0 : Int32) (5 : Int32) p1 p2 (r_10, F_11) hc_12) (cwV 5 hts gX4_kind_X4_driest rfl rfl rfl eX4_driest ⟨Nat.le_of_ble_eq_true rfl, Nat.le_of_ble_eq_true rfl⟩) ⟨q_blind, (va_recv hK hP (ci := 4) (q0 := 0) rfl rfl), (q_pre hP hK hZ hD hA hS [0, 1, 2, 3, 4, 5, 6, 7, 8] rfl (by decide))⟩ rfl rfl hl.1 rfl (lv_room (Nat.le_of_ble_eq_true rfl)) dX4_kind_30 ⟨Nat.zero_le _, Nat.zero_le _⟩) hP hD hA hS [0, 1, 2, 3, 4, 5, 6, 7, 8] rfl (by decide) rfl (fun H locs hP hD hS => ?_)
      have hP : va_P D vwCl (wM y q F_11 G) H := hP
      have hD : va_D A (wM y q F_11 G) := hD
      refine lv_goto (tgt := 42) hx hb dX4_kind_33 (by decide) ?_
      have e9 := Option.some.inj h
      exact q_iret hx hb hr hlocks hK hP hD hS dX4_kind_42 (by first | rw [← e9] | rfl) (by first | rw [← e9] | rfl)
theorem eX4_kind : yX4_kind.cls = RX4 ∧ yX4_kind.cls ≠ "java/lang/invoke/MethodHandle" ∧ yX4_kind.cls ≠ "java/lang/invoke/VarHandle" ∧ (parseMethodDescriptor yX4_kind.desc).map (fun d => d.parameters.length) = some 2 := by decide +kernel
theorem kX4_thick_0 : Cond.constant RX4 35 (-1000000001) ∈ wsX4_thick := List.mem_of_getElem? (i := 1) (by decide +kernel)
theorem uX4_thick_X4 : ∀ w ∈ u_ws RX4 TX4 15, w ∈ wsX4_thick := by decide +kernel
theorem kX4_thick_2 : Cond.fieldLink RX4 9 "BeamSeatsModel" "m" "[I" ∈ wsX4_thick := List.mem_of_getElem? (i := 2) (by decide +kernel)
def f_X4_thick_B22 (N : Nat) (F : Nat → Nat → Int32) (G : Nat → Int64) : Option (Int32 × (Nat → Nat → Int32)) :=
  q_bd2 (f_X4_finds N F G (-1000000001 : Int32)) (fun r_4 F_5 =>
  some (r_4, F_5))
def f_X4_thick_L38 (N : Nat) (G : Nat → Int64) (v1 : Int32) (v2 : Int32) : Nat → Int32 → Int32 → (Nat → Nat → Int32) → Option (Int32 × Int32 × (Nat → Nat → Int32))
  | 0, _, _, _ => none
  | k + 1, v3, v4, F =>
    if (40 : Int32) < v4 then
      some (v3, v4, F)
    else
      if 0 ≤ v3 then
        some (v3, v4, F)
      else
        q_grd (3 : Int32) 69 (
        q_let (q_up F 1 (3 : Int32).toNatClampNeg v4) (fun F_19 =>
        q_bd (f_X4_goesFor N F_19 G v1) (fun F_20 =>
        q_bd (f_X4_setOf N F_20 G (3 : Int32)) (fun r_22 =>
        q_bd (f_X4_bits N r_22) (fun r_24 =>
        if r_24 < v2 then
          q_bd (f_X4_putsBack N F_20 G) (fun F_27 =>
          q_let (v4 + 1) (fun x_29 =>
          f_X4_thick_L38 N G v1 v2 k (-1 : Int32) x_29 F_27))
        else
          q_bd (f_X4_putsBack N F_20 G) (fun F_30 =>
          q_let (v4 + 1) (fun x_32 =>
          f_X4_thick_L38 N G v1 v2 k v4 x_32 F_30)))))))
def f_X4_thick_B91 (N : Nat) (F : Nat → Nat → Int32) (G : Nat → Int64) (v3 : Int32) : Option (Int32 × (Nat → Nat → Int32)) :=
  q_bd2 (f_X4_orNone N F G v3) (fun r_33 F_34 =>
  some (r_33, F_34))
def f_X4_thick (N : Nat) (F : Nat → Nat → Int32) (G : Nat → Int64) (p1 : Int32) (p2 : Int32) : Option (Int32 × (Nat → Nat → Int32)) :=
  q_bd (f_X4_in N (p1.toInt64) (0 : Int32) (120 : Int32)) (fun r_1 =>
  if r_1 = 0 then
    f_X4_thick_B22 N F G
  else
    q_bd (f_X4_in N (p2.toInt64) (0 : Int32) (8 : Int32)) (fun r_7 =>
    if r_7 = 0 then
      f_X4_thick_B22 N F G
    else
      q_bd (f_X4_thinks N F G) (fun F_10 =>
      q_bd3 (f_X4_thick_L38 N G p1 p2 N (-1 : Int32) (1 : Int32) F_10) (fun x_13 x_14 F_15 =>
      f_X4_thick_B91 N F_15 G x_13))))
set_option maxHeartbeats 4000000 in
set_option maxRecDepth 100000 in
theorem c_X4_thick (l : Launch) (D : va_G) (y : Nat → ClassId) (t : Nat → Nat) (q : Nat → Nat) (sz N : Nat) (F : Nat → Nat → Int32) (G : Nat → Int64) (p1 : Int32) (p2 : Int32) (res : Int32 × (Nat → Nat → Int32)) (h : f_X4_thick N F G p1 p2 = some res) : Met l yX4_thick wsX4_thick ({ frames := 7, cells := 0, slots := 0, locals := 156 } : Room) (pPre D y t [.ref (q 0), .int p1, .int p2] (wM y q F G) sz) (pQi D y (res.1) (wM y q (res.2) G) (va_A (wM y q F G) sz)) 0 0 (va_A (wM y q F G) sz) := by
  refine q_start (Qc := (fun A => pQi D y (res.1) (wM y q (res.2) G) A)) (cc := cX4_thick) (maxL := 5) (ret := (some .int)) (by decide) rfl (Nat.le_of_ble_eq_true rfl) ?_
  intro p e s m below meth c A ls hx hb hr hts hown hlocks hmn hml hP hK hZ hD hA hS hl
  have hl : lv_has ls 5 [(0, .ref (q 0)), (1, .int p1), (2, .int p2)] := hl
  have hown : s.vm.findClass RX4 = some m.cls := hown
  have B22 : ∀ (F : Nat → Nat → Int32) (G : Nat → Int64) (H : Heap) (locs : List Loc) (ls : Array Slot), va_P D vwCl (wM y q F G) H → va_D A (wM y q F G) → va_S A s.heap H locs → lv_has ls 5 [(0, .ref (q 0))] → f_X4_thick_B22 N F G = some res → W p l e ({ frames := 7, cells := 0, slots := 0, locals := 156 } : Room) s m ([.ref (q 0), .int p1, .int p2] : List Value).toArray below meth c H locs 0 0 (MQ below (pQi D y (res.1) (wM y q (res.2) G) A) ([.ref (q 0), .int p1, .int p2] : List Value).toArray s 0 0 A) (F0 m 22 ls []) := by
    intro F G H locs ls hP hD hS hl h
    unfold f_X4_thick_B22 at h
    refine lv_aload_n hx hb dX4_thick_22 rfl (lv_at hl 0 rfl) ?_
    refine lv_ldc (v := -1000000001) hx hb hown (hts _ kX4_thick_0) dX4_thick_23 ?_
    obtain ⟨r_4, F_5, hc_6, h⟩ := q_bd2_ok h
    refine q_ci (r := r_4) (va_runV (As := [.int (-1000000001 : Int32)]) (rest := []) ⟨hx, hb, hml, hown, hts⟩ (c_X4_finds l D y t q _ N F G (-1000000001 : Int32) (r_4, F_5) hc_6) (cwV 1 hts gX4_thick_X4_finds rfl rfl rfl eX4_finds ⟨Nat.le_of_ble_eq_true rfl, Nat.le_of_ble_eq_true rfl⟩) ⟨q_blind, (va_recv hK hP (ci := 4) (q0 := 0) rfl rfl), (q_pre hP hK hZ hD hA hS [0, 1, 2, 3, 4, 5, 6, 7, 8] rfl (by decide))⟩ rfl rfl hl.1 rfl (lv_room (Nat.le_of_ble_eq_true rfl)) dX4_thick_25 ⟨Nat.zero_le _, Nat.zero_le _⟩) hP hD hA hS [0, 1, 2, 3, 4, 5, 6, 7, 8] rfl (by decide) rfl (fun H locs hP hD hS => ?_)
    have hP : va_P D vwCl (wM y q F_5 G) H := hP
    have hD : va_D A (wM y q F_5 G) := hD
    have e9 := Option.some.inj h
    exact q_iret hx hb hr hlocks hK hP hD hS dX4_thick_28 (by first | rw [← e9] | rfl) (by first | rw [← e9] | rfl)
  have B91 : ∀ (F : Nat → Nat → Int32) (G : Nat → Int64) (v3 : Int32) (H : Heap) (locs : List Loc) (ls : Array Slot), va_P D vwCl (wM y q F G) H → va_D A (wM y q F G) → va_S A s.heap H locs → lv_has ls 5 [(0, .ref (q 0)), (3, .int v3)] → f_X4_thick_B91 N F G v3 = some res → W p l e ({ frames := 7, cells := 0, slots := 0, locals := 156 } : Room) s m ([.ref (q 0), .int p1, .int p2] : List Value).toArray below meth c H locs 0 0 (MQ below (pQi D y (res.1) (wM y q (res.2) G) A) ([.ref (q 0), .int p1, .int p2] : List Value).toArray s 0 0 A) (F0 m 91 ls []) := by
    intro F G v3 H locs ls hP hD hS hl h
    unfold f_X4_thick_B91 at h
    refine lv_aload_n hx hb dX4_thick_91 rfl (lv_at hl 0 rfl) ?_
    refine lv_iload_n hx hb dX4_thick_92 rfl (lv_at hl 1 rfl) ?_
    obtain ⟨r_33, F_34, hc_35, h⟩ := q_bd2_ok h
    refine q_ci (r := r_33) (va_runV (As := [.int v3]) (rest := []) ⟨hx, hb, hml, hown, hts⟩ (c_X4_orNone l D y t q _ N F G v3 (r_33, F_34) hc_35) (cwV 1 hts gX4_thick_X4_orNone rfl rfl rfl eX4_orNone ⟨Nat.le_of_ble_eq_true rfl, Nat.le_of_ble_eq_true rfl⟩) ⟨q_blind, (va_recv hK hP (ci := 4) (q0 := 0) rfl rfl), (q_pre hP hK hZ hD hA hS [0, 1, 2, 3, 4, 5, 6, 7, 8] rfl (by decide))⟩ rfl rfl hl.1 rfl (lv_room (Nat.le_of_ble_eq_true rfl)) dX4_thick_93 ⟨Nat.zero_le _, Nat.zero_le _⟩) hP hD hA hS [0, 1, 2, 3, 4, 5, 6, 7, 8] rfl (by decide) rfl (fun H locs hP hD hS => ?_)
    have hP : va_P D vwCl (wM y q F_34 G) H := hP
    have hD : va_D A (wM y q F_34 G) := hD
    have e9 := Option.some.inj h
    exact q_iret hx hb hr hlocks hK hP hD hS dX4_thick_96 (by first | rw [← e9] | rfl) (by first | rw [← e9] | rfl)
  unfold f_X4_thick at h
  refine lv_iload_n hx hb dX4_thick_0 rfl (lv_at hl 1 rfl) ?_
  refine lv_i2l hx hb dX4_thick_1 rfl ?_
  refine lv_iconst (v := 0) hx hb dX4_thick_2 (by decide) ?_
  refine lv_bipush (v := 120) hx hb dX4_thick_3 (by decide) ?_
  obtain ⟨r_1, hc_2, h⟩ := q_bd_ok h
  refine q_ci (r := r_1) (va_runS (As := [.long (p1.toInt64), .int (0 : Int32), .int (120 : Int32)]) (rest := []) ⟨hx, hb, hml, hown, hts⟩ (c_X4_in l D y t q _ N (p1.toInt64) (0 : Int32) (120 : Int32) r_1 hc_2) (va_cwS 3 hts gX4_thick_X4_in rfl rfl rfl eX4_in ⟨Nat.le_of_ble_eq_true rfl, Nat.le_of_ble_eq_true rfl⟩) ⟨q_blind, (q_pre hP hK hZ hD hA hS [] rfl (by decide))⟩ rfl rfl hl.1 rfl (lv_room (Nat.le_of_ble_eq_true rfl)) dX4_thick_5 ⟨Nat.zero_le _, Nat.zero_le _⟩) hP hD hA hS [] rfl (by decide) rfl (fun H locs hP hD hS => ?_)
  have hP : va_P D vwCl (wM y q F G) H := hP
  have hD : va_D A (wM y q F G) := hD
  refine lv_if_eq (tgt := 22) hx hb dX4_thick_8 (by decide) (fun c_3 => ?_) (fun c_3 => ?_)
  · have h := q_t c_3 h
    exact B22 F G _ _ _ hP hD hS (lv_sub hl [0] rfl) h
  · have h := q_f c_3 h
    refine lv_iload_n hx hb dX4_thick_11 rfl (lv_at hl 2 rfl) ?_
    refine lv_i2l hx hb dX4_thick_12 rfl ?_
    refine lv_iconst (v := 0) hx hb dX4_thick_13 (by decide) ?_
    refine lv_bipush (v := 8) hx hb dX4_thick_14 (by decide) ?_
    obtain ⟨r_7, hc_8, h⟩ := q_bd_ok h
    refine q_ci (r := r_7) (va_runS (As := [.long (p2.toInt64), .int (0 : Int32), .int (8 : Int32)]) (rest := []) ⟨hx, hb, hml, hown, hts⟩ (c_X4_in l D y t q _ N (p2.toInt64) (0 : Int32) (8 : Int32) r_7 hc_8) (va_cwS 3 hts gX4_thick_X4_in rfl rfl rfl eX4_in ⟨Nat.le_of_ble_eq_true rfl, Nat.le_of_ble_eq_true rfl⟩) ⟨q_blind, (q_pre hP hK hZ hD hA hS [] rfl (by decide))⟩ rfl rfl hl.1 rfl (lv_room (Nat.le_of_ble_eq_true rfl)) dX4_thick_16 ⟨Nat.zero_le _, Nat.zero_le _⟩) hP hD hA hS [] rfl (by decide) rfl (fun H locs hP hD hS => ?_)
    have hP : va_P D vwCl (wM y q F G) H := hP
    have hD : va_D A (wM y q F G) := hD
    refine lv_if_ne (tgt := 29) hx hb dX4_thick_19 (by decide) (fun c_9 => ?_) (fun c_9 => ?_)
    · have h := q_f c_9 h
      refine lv_aload_n hx hb dX4_thick_29 rfl (lv_at hl 0 rfl) ?_
      obtain ⟨F_10, hc_11, h⟩ := q_bd_ok h
      refine q_cv (va_runV (As := []) (rest := []) ⟨hx, hb, hml, hown, hts⟩ (c_X4_thinks l D y t q _ N F G F_10 hc_11) (cwV 0 hts gX4_thick_X4_thinks rfl rfl rfl eX4_thinks ⟨Nat.le_of_ble_eq_true rfl, Nat.le_of_ble_eq_true rfl⟩) ⟨q_blind, (va_recv hK hP (ci := 4) (q0 := 0) rfl rfl), (q_pre hP hK hZ hD hA hS [0, 1, 2, 3, 4, 5, 6, 7, 8] rfl (by decide))⟩ rfl rfl hl.1 rfl (lv_room (Nat.le_of_ble_eq_true rfl)) dX4_thick_30 ⟨Nat.zero_le _, Nat.zero_le _⟩) hP hD hA hS [0, 1, 2, 3, 4, 5, 6, 7, 8] rfl (by decide) rfl (fun H locs hP hD hS => ?_)
      have hP : va_P D vwCl (wM y q F_10 G) H := hP
      have hD : va_D A (wM y q F_10 G) := hD
      refine lv_iconst (v := -1) hx hb dX4_thick_33 (by decide) ?_
      refine lv_istore_n (lv' := [(3, .int (-1 : Int32)), (0, .ref (q 0)), (1, .int p1), (2, .int p2)]) hx hb dX4_thick_34 rfl hl (by decide) rfl (fun ls hl => ?_)
      refine lv_iconst (v := 1) hx hb dX4_thick_35 (by decide) ?_
      refine lv_istore (lv' := [(4, .int (1 : Int32)), (3, .int (-1 : Int32)), (0, .ref (q 0)), (1, .int p1), (2, .int p2)]) hx hb dX4_thick_36 hl (by decide) rfl (fun ls hl => ?_)
      obtain ⟨x_13, x_14, F_15, hL12, h⟩ := q_bd3_ok h
      have K38_12 : ∀ (H : Heap) (locs : List Loc) (ls : Array Slot), va_P D vwCl (wM y q F_15 G) H → va_D A (wM y q F_15 G) → va_S A s.heap H locs → lv_has ls 5 [(0, .ref (q 0)), (1, .int p1), (2, .int p2), (3, .int x_13), (4, .int x_14)] → W p l e ({ frames := 7, cells := 0, slots := 0, locals := 156 } : Room) s m ([.ref (q 0), .int p1, .int p2] : List Value).toArray below meth c H locs 0 0 (MQ below (pQi D y (res.1) (wM y q (res.2) G) A) ([.ref (q 0), .int p1, .int p2] : List Value).toArray s 0 0 A) (F0 m 91 ls []) := by
        intro H locs ls hP hD hS hl
        exact B91 F_15 G x_13 _ _ _ hP hD hS (lv_sub hl [0, 3] rfl) h
      have L38_12 : ∀ (G : Nat → Int64) (v1 : Int32) (v2 : Int32) (k : Nat) (v3 : Int32) (v4 : Int32) (F : Nat → Nat → Int32), (∀ (H : Heap) (locs : List Loc) (ls : Array Slot), va_P D vwCl (wM y q F_15 G) H → va_D A (wM y q F_15 G) → va_S A s.heap H locs → lv_has ls 5 [(0, .ref (q 0)), (1, .int v1), (2, .int v2), (3, .int x_13), (4, .int x_14)] → W p l e ({ frames := 7, cells := 0, slots := 0, locals := 156 } : Room) s m ([.ref (q 0), .int p1, .int p2] : List Value).toArray below meth c H locs 0 0 (MQ below (pQi D y (res.1) (wM y q (res.2) G) A) ([.ref (q 0), .int p1, .int p2] : List Value).toArray s 0 0 A) (F0 m 91 ls [])) → ∀ (H : Heap) (locs : List Loc) (ls : Array Slot), va_P D vwCl (wM y q F G) H → va_D A (wM y q F G) → va_S A s.heap H locs → lv_has ls 5 [(0, .ref (q 0)), (1, .int v1), (2, .int v2), (3, .int v3), (4, .int v4)] → f_X4_thick_L38 N G v1 v2 k v3 v4 F = some (x_13, x_14, F_15) → W p l e ({ frames := 7, cells := 0, slots := 0, locals := 156 } : Room) s m ([.ref (q 0), .int p1, .int p2] : List Value).toArray below meth c H locs 0 0 (MQ below (pQi D y (res.1) (wM y q (res.2) G) A) ([.ref (q 0), .int p1, .int p2] : List Value).toArray s 0 0 A) (F0 m 38 ls []) := by
        intro G v1 v2 k
        induction k with
        | zero =>
          intro v3 v4 F K38_12 H locs ls hP hD hS hl h
          have h : (none : Option (Int32 × Int32 × (Nat → Nat → Int32))) = some _ := h
          cases h
        | succ k ih38_12 =>
          intro v3 v4 F K38_12 H locs ls hP hD hS hl h
          rw [f_X4_thick_L38] at h
          refine lv_iload hx hb dX4_thick_38 (lv_at hl 4 rfl) ?_
          refine lv_bipush (v := 40) hx hb dX4_thick_40 (by decide) ?_
          refine lv_icmp_gt (tgt := 91) hx hb dX4_thick_42 (by decide) (fun c_16 => ?_) (fun c_16 => ?_)
          · have h := q_t c_16 h
            cases h
            exact K38_12 _ _ _ hP hD hS (lv_sub hl [0, 1, 2, 3, 4] rfl)
          · have h := q_f c_16 h
            refine lv_iload_n hx hb dX4_thick_45 rfl (lv_at hl 3 rfl) ?_
            refine lv_if_ge (tgt := 91) hx hb dX4_thick_46 (by decide) (fun c_17 => ?_) (fun c_17 => ?_)
            · have h := q_t c_17 h
              cases h
              exact K38_12 _ _ _ hP hD hS (lv_sub hl [0, 1, 2, 3, 4] rfl)
            · have h := q_f c_17 h
              refine lv_aload_n hx hb dX4_thick_49 rfl (lv_at hl 0 rfl) ?_
              refine va_get (D := D) (ci := 4) (v := .ref (q 1)) (C := RX4) (T := TX4) (N := 15) hx hb hts uX4_thick_X4 hown hK hP 0 rfl rfl 0 (by decide) (hts _ kX4_thick_2) (fun _ h9 => h9) rfl dX4_thick_50 ?_
              refine lv_iconst (v := 3) hx hb dX4_thick_53 (by decide) ?_
              refine lv_iload hx hb dX4_thick_54 (lv_at hl 4 rfl) ?_
              obtain ⟨z_18, h⟩ := q_grd_ok h
              obtain ⟨F_19, eF_19, h⟩ := q_let_ok h
              refine va_iast hx hb hK hP hD hS 1 0 rfl rfl z_18 dX4_thick_56 (fun H locs hP hD hS => ?_)
              have hP : va_P D vwCl (wM y q F_19 G) H := by rw [eF_19]; exact hP
              have hD : va_D A (wM y q F_19 G) := by rw [eF_19]; exact hD
              refine lv_aload_n hx hb dX4_thick_57 rfl (lv_at hl 0 rfl) ?_
              refine lv_iload_n hx hb dX4_thick_58 rfl (lv_at hl 1 rfl) ?_
              obtain ⟨F_20, hc_21, h⟩ := q_bd_ok h
              refine q_cv (va_runV (As := [.int v1]) (rest := []) ⟨hx, hb, hml, hown, hts⟩ (c_X4_goesFor l D y t q _ N F_19 G v1 F_20 hc_21) (cwV 1 hts gX4_thick_X4_goesFor rfl rfl rfl eX4_goesFor ⟨Nat.le_of_ble_eq_true rfl, Nat.le_of_ble_eq_true rfl⟩) ⟨q_blind, (va_recv hK hP (ci := 4) (q0 := 0) rfl rfl), (q_pre hP hK hZ hD hA hS [0, 1, 2, 3, 4, 5, 6, 7, 8] rfl (by decide))⟩ rfl rfl hl.1 rfl (lv_room (Nat.le_of_ble_eq_true rfl)) dX4_thick_59 ⟨Nat.zero_le _, Nat.zero_le _⟩) hP hD hA hS [0, 1, 2, 3, 4, 5, 6, 7, 8] rfl (by decide) rfl (fun H locs hP hD hS => ?_)
              have hP : va_P D vwCl (wM y q F_20 G) H := hP
              have hD : va_D A (wM y q F_20 G) := hD
              refine lv_aload_n hx hb dX4_thick_62 rfl (lv_at hl 0 rfl) ?_
              refine lv_iconst (v := 3) hx hb dX4_thick_63 (by decide) ?_
              obtain ⟨r_22, hc_23, h⟩ := q_bd_ok h
              refine q_ci (r := r_22) (va_runV (As := [.int (3 : Int32)]) (rest := []) ⟨hx, hb, hml, hown, hts⟩ (c_X4_setOf l D y t q _ N F_20 G (3 : Int32) r_22 hc_23) (cwV 1 hts gX4_thick_X4_setOf rfl rfl rfl eX4_setOf ⟨Nat.le_of_ble_eq_true rfl, Nat.le_of_ble_eq_true rfl⟩) ⟨q_blind, (va_recv hK hP (ci := 4) (q0 := 0) rfl rfl), (q_pre hP hK hZ hD hA hS [0, 1, 2, 3, 4, 5, 6, 7, 8] rfl (by decide))⟩ rfl rfl hl.1 rfl (lv_room (Nat.le_of_ble_eq_true rfl)) dX4_thick_64 ⟨Nat.zero_le _, Nat.zero_le _⟩) hP hD hA hS [0, 1, 2, 3, 4, 5, 6, 7, 8] rfl (by decide) rfl (fun H locs hP hD hS => ?_)
              have hP : va_P D vwCl (wM y q F_20 G) H := hP
              have hD : va_D A (wM y q F_20 G) := hD
              obtain ⟨r_24, hc_25, h⟩ := q_bd_ok h
              refine q_ci (r := r_24) (va_runS (As := [.int r_22]) (rest := []) ⟨hx, hb, hml, hown, hts⟩ (c_X4_bits l D y t q _ N r_22 r_24 hc_25) (va_cwS 1 hts gX4_thick_X4_bits rfl rfl rfl eX4_bits ⟨Nat.le_of_ble_eq_true rfl, Nat.le_of_ble_eq_true rfl⟩) ⟨q_blind, (q_pre hP hK hZ hD hA hS [] rfl (by decide))⟩ rfl rfl hl.1 rfl (lv_room (Nat.le_of_ble_eq_true rfl)) dX4_thick_67 ⟨Nat.zero_le _, Nat.zero_le _⟩) hP hD hA hS [] rfl (by decide) rfl (fun H locs hP hD hS => ?_)
              have hP : va_P D vwCl (wM y q F_20 G) H := hP
              have hD : va_D A (wM y q F_20 G) := hD
              refine lv_iload_n hx hb dX4_thick_70 rfl (lv_at hl 2 rfl) ?_
              refine lv_icmp_lt (tgt := 79) hx hb dX4_thick_71 (by decide) (fun c_26 => ?_) (fun c_26 => ?_)
              · have h := q_t c_26 h
                refine lv_iconst (v := -1) hx hb dX4_thick_79 (by decide) ?_
                refine lv_istore_n (lv' := [(3, .int (-1 : Int32)), (0, .ref (q 0)), (1, .int v1), (2, .int v2), (4, .int v4)]) hx hb dX4_thick_80 rfl hl (by decide) rfl (fun ls hl => ?_)
                refine lv_aload_n hx hb dX4_thick_81 rfl (lv_at hl 1 rfl) ?_
                obtain ⟨F_27, hc_28, h⟩ := q_bd_ok h
                refine q_cv (va_runV (As := []) (rest := []) ⟨hx, hb, hml, hown, hts⟩ (c_X4_putsBack l D y t q _ N F_20 G F_27 hc_28) (cwV 0 hts gX4_thick_X4_putsBack rfl rfl rfl eX4_putsBack ⟨Nat.le_of_ble_eq_true rfl, Nat.le_of_ble_eq_true rfl⟩) ⟨q_blind, (va_recv hK hP (ci := 4) (q0 := 0) rfl rfl), (q_pre hP hK hZ hD hA hS [0, 1, 2, 3, 4, 5, 6, 7, 8] rfl (by decide))⟩ rfl rfl hl.1 rfl (lv_room (Nat.le_of_ble_eq_true rfl)) dX4_thick_82 ⟨Nat.zero_le _, Nat.zero_le _⟩) hP hD hA hS [0, 1, 2, 3, 4, 5, 6, 7, 8] rfl (by decide) rfl (fun H locs hP hD hS => ?_)
                have hP : va_P D vwCl (wM y q F_27 G) H := hP
                have hD : va_D A (wM y q F_27 G) := hD
                obtain ⟨x_29, ex_29, h⟩ := q_let_ok h
                refine lv_iinc (v := x_29) (lv' := [(4, .int x_29), (3, .int (-1 : Int32)), (0, .ref (q 0)), (1, .int v1), (2, .int v2)]) hx hb dX4_thick_85 hl (k := 4) rfl (by rw [ex_29]; rfl) (by decide) rfl (fun ls hl => ?_)
                refine lv_goto (tgt := 38) hx hb dX4_thick_88 (by decide) ?_
                exact ih38_12 (-1 : Int32) x_29 F_27 K38_12 _ _ _ hP hD hS (lv_sub hl [2, 3, 4, 1, 0] rfl) h
              · have h := q_f c_26 h
                refine lv_iload hx hb dX4_thick_74 (lv_at hl 4 rfl) ?_
                refine lv_goto (tgt := 80) hx hb dX4_thick_76 (by decide) ?_
                refine lv_istore_n (lv' := [(3, .int v4), (0, .ref (q 0)), (1, .int v1), (2, .int v2), (4, .int v4)]) hx hb dX4_thick_80 rfl hl (by decide) rfl (fun ls hl => ?_)
                refine lv_aload_n hx hb dX4_thick_81 rfl (lv_at hl 1 rfl) ?_
                obtain ⟨F_30, hc_31, h⟩ := q_bd_ok h
                refine q_cv (va_runV (As := []) (rest := []) ⟨hx, hb, hml, hown, hts⟩ (c_X4_putsBack l D y t q _ N F_20 G F_30 hc_31) (cwV 0 hts gX4_thick_X4_putsBack rfl rfl rfl eX4_putsBack ⟨Nat.le_of_ble_eq_true rfl, Nat.le_of_ble_eq_true rfl⟩) ⟨q_blind, (va_recv hK hP (ci := 4) (q0 := 0) rfl rfl), (q_pre hP hK hZ hD hA hS [0, 1, 2, 3, 4, 5, 6, 7, 8] rfl (by decide))⟩ rfl rfl hl.1 rfl (lv_room (Nat.le_of_ble_eq_true rfl)) dX4_thick_82 ⟨Nat.zero_le _, Nat.zero_le _⟩) hP hD hA hS [0, 1, 2, 3, 4, 5, 6, 7, 8] rfl (by decide) rfl (fun H locs hP hD hS => ?_)
                have hP : va_P D vwCl (wM y q F_30 G) H := hP
                have hD : va_D A (wM y q F_30 G) := hD
                obtain ⟨x_32, ex_32, h⟩ := q_let_ok h
                refine lv_iinc (v := x_32) (lv' := [(4, .int x_32), (3, .int v4), (0, .ref (q 0)), (1, .int v1), (2, .int v2)]) hx hb dX4_thick_85 hl (k := 4) rfl (by rw [ex_32]; rfl) (by decide) rfl (fun ls hl => ?_)
                refine lv_goto (tgt := 38) hx hb dX4_thick_88 (by decide) ?_
                exact ih38_12 v4 x_32 F_30 K38_12 _ _ _ hP hD hS (lv_sub hl [2, 3, 4, 1, 0] rfl) h
      exact L38_12 G p1 p2 N (-1 : Int32) (1 : Int32) F_10 K38_12 _ _ _ hP hD hS (lv_sub hl [2, 3, 4, 1, 0] rfl) hL12
    · have h := q_t c_9 h
      exact B22 F G _ _ _ hP hD hS (lv_sub hl [0] rfl) h
theorem eX4_thick : yX4_thick.cls = RX4 ∧ yX4_thick.cls ≠ "java/lang/invoke/MethodHandle" ∧ yX4_thick.cls ≠ "java/lang/invoke/VarHandle" ∧ (parseMethodDescriptor yX4_thick.desc).map (fun d => d.parameters.length) = some 2 := by decide +kernel
theorem uX4_save_X4 : ∀ w ∈ u_ws RX4 TX4 15, w ∈ wsX4_save := by decide +kernel
theorem kX4_save_1 : Cond.fieldLink RX4 9 "BeamSeatsModel" "m" "[I" ∈ wsX4_save := List.mem_of_getElem? (i := 2) (by decide +kernel)
theorem kX4_save_2 : Cond.constant RX4 35 (-1000000001) ∈ wsX4_save := List.mem_of_getElem? (i := 1) (by decide +kernel)
def f_X4_save_L30 (N : Nat) (G : Nat → Int64) (v1 : Int32) : Nat → Int32 → Int32 → Int32 → (Nat → Nat → Int32) → Option (Int32 × Int32 × Int32 × (Nat → Nat → Int32))
  | 0, _, _, _, _ => none
  | k + 1, v2, v3, v4, F =>
    q_grd (4 : Int32) 69 (
    if (F 1 (4 : Int32).toNatClampNeg) ≤ v4 then
      some (v2, v3, v4, F)
    else
      q_bd (f_X4_isOn N F G v4) (fun r_13 =>
      if r_13 = 0 then
        q_let (v4 + 1) (fun x_16 =>
        f_X4_save_L30 N G v1 k v2 v3 x_16 F)
      else
        q_grd (1 : Int32) 69 (
        q_bd (f_X4_goesOff N F G v4 (F 1 (1 : Int32).toNatClampNeg)) (fun F_18 =>
        q_bd (f_X4_goesFor N F_18 G v1) (fun F_20 =>
        q_bd (f_X4_setOf N F_20 G (6 : Int32)) (fun r_22 =>
        q_bd (f_X4_bits N r_22) (fun r_24 =>
        q_bd (f_X4_putsBack N F_20 G) (fun F_26 =>
        if v3 ≤ r_24 then
          if v3 ≤ r_24 then
            q_let (v4 + 1) (fun x_30 =>
            f_X4_save_L30 N G v1 k v2 v3 x_30 F_26)
          else
            q_let (v4 + 1) (fun x_31 =>
            f_X4_save_L30 N G v1 k v2 r_24 x_31 F_26)
        else
          if v3 ≤ r_24 then
            q_let (v4 + 1) (fun x_33 =>
            f_X4_save_L30 N G v1 k v4 v3 x_33 F_26)
          else
            q_let (v4 + 1) (fun x_34 =>
            f_X4_save_L30 N G v1 k v4 r_24 x_34 F_26)))))))))
def f_X4_save (N : Nat) (F : Nat → Nat → Int32) (G : Nat → Int64) (p1 : Int32) : Option (Int32 × (Nat → Nat → Int32)) :=
  q_bd (f_X4_in N (p1.toInt64) (1 : Int32) (120 : Int32)) (fun r_1 =>
  if r_1 = 0 then
    q_bd2 (f_X4_finds N F G (-1000000001 : Int32)) (fun r_38 F_39 =>
    some (r_38, F_39))
  else
    q_bd (f_X4_thinks N F G) (fun F_4 =>
    q_bd4 (f_X4_save_L30 N G p1 N (-1 : Int32) (9 : Int32) (0 : Int32) F_4) (fun x_7 x_8 x_9 F_10 =>
    q_bd2 (f_X4_orNone N F_10 G x_7) (fun r_35 F_36 =>
    some (r_35, F_36)))))
set_option maxHeartbeats 4000000 in
set_option maxRecDepth 100000 in
theorem c_X4_save (l : Launch) (D : va_G) (y : Nat → ClassId) (t : Nat → Nat) (q : Nat → Nat) (sz N : Nat) (F : Nat → Nat → Int32) (G : Nat → Int64) (p1 : Int32) (res : Int32 × (Nat → Nat → Int32)) (h : f_X4_save N F G p1 = some res) : Met l yX4_save wsX4_save ({ frames := 7, cells := 0, slots := 0, locals := 156 } : Room) (pPre D y t [.ref (q 0), .int p1] (wM y q F G) sz) (pQi D y (res.1) (wM y q (res.2) G) (va_A (wM y q F G) sz)) 0 0 (va_A (wM y q F G) sz) := by
  refine q_start (Qc := (fun A => pQi D y (res.1) (wM y q (res.2) G) A)) (cc := cX4_save) (maxL := 6) (ret := (some .int)) (by decide) rfl (Nat.le_of_ble_eq_true rfl) ?_
  intro p e s m below meth c A ls hx hb hr hts hown hlocks hmn hml hP hK hZ hD hA hS hl
  have hl : lv_has ls 6 [(0, .ref (q 0)), (1, .int p1)] := hl
  have hown : s.vm.findClass RX4 = some m.cls := hown
  unfold f_X4_save at h
  refine lv_iload_n hx hb dX4_save_0 rfl (lv_at hl 1 rfl) ?_
  refine lv_i2l hx hb dX4_save_1 rfl ?_
  refine lv_iconst (v := 1) hx hb dX4_save_2 (by decide) ?_
  refine lv_bipush (v := 120) hx hb dX4_save_3 (by decide) ?_
  obtain ⟨r_1, hc_2, h⟩ := q_bd_ok h
  refine q_ci (r := r_1) (va_runS (As := [.long (p1.toInt64), .int (1 : Int32), .int (120 : Int32)]) (rest := []) ⟨hx, hb, hml, hown, hts⟩ (c_X4_in l D y t q _ N (p1.toInt64) (1 : Int32) (120 : Int32) r_1 hc_2) (va_cwS 3 hts gX4_save_X4_in rfl rfl rfl eX4_in ⟨Nat.le_of_ble_eq_true rfl, Nat.le_of_ble_eq_true rfl⟩) ⟨q_blind, (q_pre hP hK hZ hD hA hS [] rfl (by decide))⟩ rfl rfl hl.1 rfl (lv_room (Nat.le_of_ble_eq_true rfl)) dX4_save_5 ⟨Nat.zero_le _, Nat.zero_le _⟩) hP hD hA hS [] rfl (by decide) rfl (fun H locs hP hD hS => ?_)
  have hP : va_P D vwCl (wM y q F G) H := hP
  have hD : va_D A (wM y q F G) := hD
  refine lv_if_ne (tgt := 18) hx hb dX4_save_8 (by decide) (fun c_3 => ?_) (fun c_3 => ?_)
  · have h := q_f c_3 h
    refine lv_aload_n hx hb dX4_save_18 rfl (lv_at hl 0 rfl) ?_
    obtain ⟨F_4, hc_5, h⟩ := q_bd_ok h
    refine q_cv (va_runV (As := []) (rest := []) ⟨hx, hb, hml, hown, hts⟩ (c_X4_thinks l D y t q _ N F G F_4 hc_5) (cwV 0 hts gX4_save_X4_thinks rfl rfl rfl eX4_thinks ⟨Nat.le_of_ble_eq_true rfl, Nat.le_of_ble_eq_true rfl⟩) ⟨q_blind, (va_recv hK hP (ci := 4) (q0 := 0) rfl rfl), (q_pre hP hK hZ hD hA hS [0, 1, 2, 3, 4, 5, 6, 7, 8] rfl (by decide))⟩ rfl rfl hl.1 rfl (lv_room (Nat.le_of_ble_eq_true rfl)) dX4_save_19 ⟨Nat.zero_le _, Nat.zero_le _⟩) hP hD hA hS [0, 1, 2, 3, 4, 5, 6, 7, 8] rfl (by decide) rfl (fun H locs hP hD hS => ?_)
    have hP : va_P D vwCl (wM y q F_4 G) H := hP
    have hD : va_D A (wM y q F_4 G) := hD
    refine lv_iconst (v := -1) hx hb dX4_save_22 (by decide) ?_
    refine lv_istore_n (lv' := [(2, .int (-1 : Int32)), (0, .ref (q 0)), (1, .int p1)]) hx hb dX4_save_23 rfl hl (by decide) rfl (fun ls hl => ?_)
    refine lv_bipush (v := 9) hx hb dX4_save_24 (by decide) ?_
    refine lv_istore_n (lv' := [(3, .int (9 : Int32)), (2, .int (-1 : Int32)), (0, .ref (q 0)), (1, .int p1)]) hx hb dX4_save_26 rfl hl (by decide) rfl (fun ls hl => ?_)
    refine lv_iconst (v := 0) hx hb dX4_save_27 (by decide) ?_
    refine lv_istore (lv' := [(4, .int (0 : Int32)), (3, .int (9 : Int32)), (2, .int (-1 : Int32)), (0, .ref (q 0)), (1, .int p1)]) hx hb dX4_save_28 hl (by decide) rfl (fun ls hl => ?_)
    obtain ⟨x_7, x_8, x_9, F_10, hL6, h⟩ := q_bd4_ok h
    have K30_6 : ∀ (H : Heap) (locs : List Loc) (ls : Array Slot), va_P D vwCl (wM y q F_10 G) H → va_D A (wM y q F_10 G) → va_S A s.heap H locs → lv_has ls 6 [(0, .ref (q 0)), (1, .int p1), (2, .int x_7), (3, .int x_8), (4, .int x_9)] → W p l e ({ frames := 7, cells := 0, slots := 0, locals := 156 } : Room) s m ([.ref (q 0), .int p1] : List Value).toArray below meth c H locs 0 0 (MQ below (pQi D y (res.1) (wM y q (res.2) G) A) ([.ref (q 0), .int p1] : List Value).toArray s 0 0 A) (F0 m 114 ls []) := by
      intro H locs ls hP hD hS hl
      refine lv_aload_n hx hb dX4_save_114 rfl (lv_at hl 0 rfl) ?_
      refine lv_iload_n hx hb dX4_save_115 rfl (lv_at hl 2 rfl) ?_
      obtain ⟨r_35, F_36, hc_37, h⟩ := q_bd2_ok h
      refine q_ci (r := r_35) (va_runV (As := [.int x_7]) (rest := []) ⟨hx, hb, hml, hown, hts⟩ (c_X4_orNone l D y t q _ N F_10 G x_7 (r_35, F_36) hc_37) (cwV 1 hts gX4_save_X4_orNone rfl rfl rfl eX4_orNone ⟨Nat.le_of_ble_eq_true rfl, Nat.le_of_ble_eq_true rfl⟩) ⟨q_blind, (va_recv hK hP (ci := 4) (q0 := 0) rfl rfl), (q_pre hP hK hZ hD hA hS [0, 1, 2, 3, 4, 5, 6, 7, 8] rfl (by decide))⟩ rfl rfl hl.1 rfl (lv_room (Nat.le_of_ble_eq_true rfl)) dX4_save_116 ⟨Nat.zero_le _, Nat.zero_le _⟩) hP hD hA hS [0, 1, 2, 3, 4, 5, 6, 7, 8] rfl (by decide) rfl (fun H locs hP hD hS => ?_)
      have hP : va_P D vwCl (wM y q F_36 G) H := hP
      have hD : va_D A (wM y q F_36 G) := hD
      have e9 := Option.some.inj h
      exact q_iret hx hb hr hlocks hK hP hD hS dX4_save_119 (by first | rw [← e9] | rfl) (by first | rw [← e9] | rfl)
    have L30_6 : ∀ (G : Nat → Int64) (v1 : Int32) (k : Nat) (v2 : Int32) (v3 : Int32) (v4 : Int32) (F : Nat → Nat → Int32), (∀ (H : Heap) (locs : List Loc) (ls : Array Slot), va_P D vwCl (wM y q F_10 G) H → va_D A (wM y q F_10 G) → va_S A s.heap H locs → lv_has ls 6 [(0, .ref (q 0)), (1, .int v1), (2, .int x_7), (3, .int x_8), (4, .int x_9)] → W p l e ({ frames := 7, cells := 0, slots := 0, locals := 156 } : Room) s m ([.ref (q 0), .int p1] : List Value).toArray below meth c H locs 0 0 (MQ below (pQi D y (res.1) (wM y q (res.2) G) A) ([.ref (q 0), .int p1] : List Value).toArray s 0 0 A) (F0 m 114 ls [])) → ∀ (H : Heap) (locs : List Loc) (ls : Array Slot), va_P D vwCl (wM y q F G) H → va_D A (wM y q F G) → va_S A s.heap H locs → lv_has ls 6 [(0, .ref (q 0)), (1, .int v1), (2, .int v2), (3, .int v3), (4, .int v4)] → f_X4_save_L30 N G v1 k v2 v3 v4 F = some (x_7, x_8, x_9, F_10) → W p l e ({ frames := 7, cells := 0, slots := 0, locals := 156 } : Room) s m ([.ref (q 0), .int p1] : List Value).toArray below meth c H locs 0 0 (MQ below (pQi D y (res.1) (wM y q (res.2) G) A) ([.ref (q 0), .int p1] : List Value).toArray s 0 0 A) (F0 m 30 ls []) := by
      intro G v1 k
      induction k with
      | zero =>
        intro v2 v3 v4 F K30_6 H locs ls hP hD hS hl h
        have h : (none : Option (Int32 × Int32 × Int32 × (Nat → Nat → Int32))) = some _ := h
        cases h
      | succ k ih30_6 =>
        intro v2 v3 v4 F K30_6 H locs ls hP hD hS hl h
        rw [f_X4_save_L30] at h
        refine lv_iload hx hb dX4_save_30 (lv_at hl 4 rfl) ?_
        refine lv_aload_n hx hb dX4_save_32 rfl (lv_at hl 0 rfl) ?_
        refine va_get (D := D) (ci := 4) (v := .ref (q 1)) (C := RX4) (T := TX4) (N := 15) hx hb hts uX4_save_X4 hown hK hP 0 rfl rfl 0 (by decide) (hts _ kX4_save_1) (fun _ h9 => h9) rfl dX4_save_33 ?_
        refine lv_iconst (v := 4) hx hb dX4_save_36 (by decide) ?_
        obtain ⟨z_11, h⟩ := q_grd_ok h
        refine va_iald hx hb hK hP 1 0 rfl rfl z_11 dX4_save_37 ?_
        refine lv_icmp_ge (tgt := 114) hx hb dX4_save_38 (by decide) (fun c_12 => ?_) (fun c_12 => ?_)
        · have h := q_t c_12 h
          cases h
          exact K30_6 _ _ _ hP hD hS (lv_sub hl [0, 1, 2, 3, 4] rfl)
        · have h := q_f c_12 h
          refine lv_aload_n hx hb dX4_save_41 rfl (lv_at hl 0 rfl) ?_
          refine lv_iload hx hb dX4_save_42 (lv_at hl 4 rfl) ?_
          obtain ⟨r_13, hc_14, h⟩ := q_bd_ok h
          refine q_ci (r := r_13) (va_runV (As := [.int v4]) (rest := []) ⟨hx, hb, hml, hown, hts⟩ (c_X4_isOn l D y t q _ N F G v4 r_13 hc_14) (cwV 1 hts gX4_save_X4_isOn rfl rfl rfl eX4_isOn ⟨Nat.le_of_ble_eq_true rfl, Nat.le_of_ble_eq_true rfl⟩) ⟨q_blind, (va_recv hK hP (ci := 4) (q0 := 0) rfl rfl), (q_pre hP hK hZ hD hA hS [0, 1, 2, 3, 4, 5, 6, 7, 8] rfl (by decide))⟩ rfl rfl hl.1 rfl (lv_room (Nat.le_of_ble_eq_true rfl)) dX4_save_44 ⟨Nat.zero_le _, Nat.zero_le _⟩) hP hD hA hS [0, 1, 2, 3, 4, 5, 6, 7, 8] rfl (by decide) rfl (fun H locs hP hD hS => ?_)
          have hP : va_P D vwCl (wM y q F G) H := hP
          have hD : va_D A (wM y q F G) := hD
          refine lv_if_eq (tgt := 108) hx hb dX4_save_47 (by decide) (fun c_15 => ?_) (fun c_15 => ?_)
          · have h := q_t c_15 h
            obtain ⟨x_16, ex_16, h⟩ := q_let_ok h
            refine lv_iinc (v := x_16) (lv' := [(4, .int x_16), (0, .ref (q 0)), (1, .int v1), (2, .int v2), (3, .int v3)]) hx hb dX4_save_108 hl (k := 4) rfl (by rw [ex_16]; rfl) (by decide) rfl (fun ls hl => ?_)
            refine lv_goto (tgt := 30) hx hb dX4_save_111 (by decide) ?_
            exact ih30_6 v2 v3 x_16 F K30_6 _ _ _ hP hD hS (lv_sub hl [1, 2, 3, 4, 0] rfl) h
          · have h := q_f c_15 h
            refine lv_aload_n hx hb dX4_save_50 rfl (lv_at hl 0 rfl) ?_
            refine lv_iload hx hb dX4_save_51 (lv_at hl 4 rfl) ?_
            refine lv_aload_n hx hb dX4_save_53 rfl (lv_at hl 0 rfl) ?_
            refine va_get (D := D) (ci := 4) (v := .ref (q 1)) (C := RX4) (T := TX4) (N := 15) hx hb hts uX4_save_X4 hown hK hP 0 rfl rfl 0 (by decide) (hts _ kX4_save_1) (fun _ h9 => h9) rfl dX4_save_54 ?_
            refine lv_iconst (v := 1) hx hb dX4_save_57 (by decide) ?_
            obtain ⟨z_17, h⟩ := q_grd_ok h
            refine va_iald hx hb hK hP 1 0 rfl rfl z_17 dX4_save_58 ?_
            obtain ⟨F_18, hc_19, h⟩ := q_bd_ok h
            refine q_cv (va_runV (As := [.int v4, .int (F 1 (1 : Int32).toNatClampNeg)]) (rest := []) ⟨hx, hb, hml, hown, hts⟩ (c_X4_goesOff l D y t q _ N F G v4 (F 1 (1 : Int32).toNatClampNeg) F_18 hc_19) (cwV 2 hts gX4_save_X4_goesOff rfl rfl rfl eX4_goesOff ⟨Nat.le_of_ble_eq_true rfl, Nat.le_of_ble_eq_true rfl⟩) ⟨q_blind, (va_recv hK hP (ci := 4) (q0 := 0) rfl rfl), (q_pre hP hK hZ hD hA hS [0, 1, 2, 3, 4, 5, 6, 7, 8] rfl (by decide))⟩ rfl rfl hl.1 rfl (lv_room (Nat.le_of_ble_eq_true rfl)) dX4_save_59 ⟨Nat.zero_le _, Nat.zero_le _⟩) hP hD hA hS [0, 1, 2, 3, 4, 5, 6, 7, 8] rfl (by decide) rfl (fun H locs hP hD hS => ?_)
            have hP : va_P D vwCl (wM y q F_18 G) H := hP
            have hD : va_D A (wM y q F_18 G) := hD
            refine lv_aload_n hx hb dX4_save_62 rfl (lv_at hl 0 rfl) ?_
            refine lv_iload_n hx hb dX4_save_63 rfl (lv_at hl 1 rfl) ?_
            obtain ⟨F_20, hc_21, h⟩ := q_bd_ok h
            refine q_cv (va_runV (As := [.int v1]) (rest := []) ⟨hx, hb, hml, hown, hts⟩ (c_X4_goesFor l D y t q _ N F_18 G v1 F_20 hc_21) (cwV 1 hts gX4_save_X4_goesFor rfl rfl rfl eX4_goesFor ⟨Nat.le_of_ble_eq_true rfl, Nat.le_of_ble_eq_true rfl⟩) ⟨q_blind, (va_recv hK hP (ci := 4) (q0 := 0) rfl rfl), (q_pre hP hK hZ hD hA hS [0, 1, 2, 3, 4, 5, 6, 7, 8] rfl (by decide))⟩ rfl rfl hl.1 rfl (lv_room (Nat.le_of_ble_eq_true rfl)) dX4_save_64 ⟨Nat.zero_le _, Nat.zero_le _⟩) hP hD hA hS [0, 1, 2, 3, 4, 5, 6, 7, 8] rfl (by decide) rfl (fun H locs hP hD hS => ?_)
            have hP : va_P D vwCl (wM y q F_20 G) H := hP
            have hD : va_D A (wM y q F_20 G) := hD
            refine lv_aload_n hx hb dX4_save_67 rfl (lv_at hl 0 rfl) ?_
            refine lv_bipush (v := 6) hx hb dX4_save_68 (by decide) ?_
            obtain ⟨r_22, hc_23, h⟩ := q_bd_ok h
            refine q_ci (r := r_22) (va_runV (As := [.int (6 : Int32)]) (rest := []) ⟨hx, hb, hml, hown, hts⟩ (c_X4_setOf l D y t q _ N F_20 G (6 : Int32) r_22 hc_23) (cwV 1 hts gX4_save_X4_setOf rfl rfl rfl eX4_setOf ⟨Nat.le_of_ble_eq_true rfl, Nat.le_of_ble_eq_true rfl⟩) ⟨q_blind, (va_recv hK hP (ci := 4) (q0 := 0) rfl rfl), (q_pre hP hK hZ hD hA hS [0, 1, 2, 3, 4, 5, 6, 7, 8] rfl (by decide))⟩ rfl rfl hl.1 rfl (lv_room (Nat.le_of_ble_eq_true rfl)) dX4_save_70 ⟨Nat.zero_le _, Nat.zero_le _⟩) hP hD hA hS [0, 1, 2, 3, 4, 5, 6, 7, 8] rfl (by decide) rfl (fun H locs hP hD hS => ?_)
            have hP : va_P D vwCl (wM y q F_20 G) H := hP
            have hD : va_D A (wM y q F_20 G) := hD
            obtain ⟨r_24, hc_25, h⟩ := q_bd_ok h
            refine q_ci (r := r_24) (va_runS (As := [.int r_22]) (rest := []) ⟨hx, hb, hml, hown, hts⟩ (c_X4_bits l D y t q _ N r_22 r_24 hc_25) (va_cwS 1 hts gX4_save_X4_bits rfl rfl rfl eX4_bits ⟨Nat.le_of_ble_eq_true rfl, Nat.le_of_ble_eq_true rfl⟩) ⟨q_blind, (q_pre hP hK hZ hD hA hS [] rfl (by decide))⟩ rfl rfl hl.1 rfl (lv_room (Nat.le_of_ble_eq_true rfl)) dX4_save_73 ⟨Nat.zero_le _, Nat.zero_le _⟩) hP hD hA hS [] rfl (by decide) rfl (fun H locs hP hD hS => ?_)
            have hP : va_P D vwCl (wM y q F_20 G) H := hP
            have hD : va_D A (wM y q F_20 G) := hD
            refine lv_istore (lv' := [(5, .int r_24), (0, .ref (q 0)), (1, .int v1), (2, .int v2), (3, .int v3), (4, .int v4)]) hx hb dX4_save_76 hl (by decide) rfl (fun ls hl => ?_)
            refine lv_aload_n hx hb dX4_save_78 rfl (lv_at hl 1 rfl) ?_
            obtain ⟨F_26, hc_27, h⟩ := q_bd_ok h
            refine q_cv (va_runV (As := []) (rest := []) ⟨hx, hb, hml, hown, hts⟩ (c_X4_putsBack l D y t q _ N F_20 G F_26 hc_27) (cwV 0 hts gX4_save_X4_putsBack rfl rfl rfl eX4_putsBack ⟨Nat.le_of_ble_eq_true rfl, Nat.le_of_ble_eq_true rfl⟩) ⟨q_blind, (va_recv hK hP (ci := 4) (q0 := 0) rfl rfl), (q_pre hP hK hZ hD hA hS [0, 1, 2, 3, 4, 5, 6, 7, 8] rfl (by decide))⟩ rfl rfl hl.1 rfl (lv_room (Nat.le_of_ble_eq_true rfl)) dX4_save_79 ⟨Nat.zero_le _, Nat.zero_le _⟩) hP hD hA hS [0, 1, 2, 3, 4, 5, 6, 7, 8] rfl (by decide) rfl (fun H locs hP hD hS => ?_)
            have hP : va_P D vwCl (wM y q F_26 G) H := hP
            have hD : va_D A (wM y q F_26 G) := hD
            refine lv_iload hx hb dX4_save_82 (lv_at hl 0 rfl) ?_
            refine lv_iload_n hx hb dX4_save_84 rfl (lv_at hl 4 rfl) ?_
            refine lv_icmp_ge (tgt := 93) hx hb dX4_save_85 (by decide) (fun c_28 => ?_) (fun c_28 => ?_)
            · have h := q_t c_28 h
              refine lv_iload_n hx hb dX4_save_93 rfl (lv_at hl 3 rfl) ?_
              refine lv_istore_n (lv' := [(2, .int v2), (5, .int r_24), (0, .ref (q 0)), (1, .int v1), (3, .int v3), (4, .int v4)]) hx hb dX4_save_94 rfl hl (by decide) rfl (fun ls hl => ?_)
              refine lv_iload hx hb dX4_save_95 (lv_at hl 1 rfl) ?_
              refine lv_iload_n hx hb dX4_save_97 rfl (lv_at hl 4 rfl) ?_
              refine lv_icmp_ge (tgt := 106) hx hb dX4_save_98 (by decide) (fun c_29 => ?_) (fun c_29 => ?_)
              · have h := q_t c_29 h
                refine lv_iload_n hx hb dX4_save_106 rfl (lv_at hl 4 rfl) ?_
                refine lv_istore_n (lv' := [(3, .int v3), (2, .int v2), (5, .int r_24), (0, .ref (q 0)), (1, .int v1), (4, .int v4)]) hx hb dX4_save_107 rfl hl (by decide) rfl (fun ls hl => ?_)
                obtain ⟨x_30, ex_30, h⟩ := q_let_ok h
                refine lv_iinc (v := x_30) (lv' := [(4, .int x_30), (3, .int v3), (2, .int v2), (5, .int r_24), (0, .ref (q 0)), (1, .int v1)]) hx hb dX4_save_108 hl (k := 5) rfl (by rw [ex_30]; rfl) (by decide) rfl (fun ls hl => ?_)
                refine lv_goto (tgt := 30) hx hb dX4_save_111 (by decide) ?_
                exact ih30_6 v2 v3 x_30 F_26 K30_6 _ _ _ hP hD hS (lv_sub hl [4, 5, 2, 1, 0] rfl) h
              · have h := q_f c_29 h
                refine lv_iload hx hb dX4_save_101 (lv_at hl 1 rfl) ?_
                refine lv_goto (tgt := 107) hx hb dX4_save_103 (by decide) ?_
                refine lv_istore_n (lv' := [(3, .int r_24), (2, .int v2), (5, .int r_24), (0, .ref (q 0)), (1, .int v1), (4, .int v4)]) hx hb dX4_save_107 rfl hl (by decide) rfl (fun ls hl => ?_)
                obtain ⟨x_31, ex_31, h⟩ := q_let_ok h
                refine lv_iinc (v := x_31) (lv' := [(4, .int x_31), (3, .int r_24), (2, .int v2), (5, .int r_24), (0, .ref (q 0)), (1, .int v1)]) hx hb dX4_save_108 hl (k := 5) rfl (by rw [ex_31]; rfl) (by decide) rfl (fun ls hl => ?_)
                refine lv_goto (tgt := 30) hx hb dX4_save_111 (by decide) ?_
                exact ih30_6 v2 r_24 x_31 F_26 K30_6 _ _ _ hP hD hS (lv_sub hl [4, 5, 2, 1, 0] rfl) h
            · have h := q_f c_28 h
              refine lv_iload hx hb dX4_save_88 (lv_at hl 5 rfl) ?_
              refine lv_goto (tgt := 94) hx hb dX4_save_90 (by decide) ?_
              refine lv_istore_n (lv' := [(2, .int v4), (5, .int r_24), (0, .ref (q 0)), (1, .int v1), (3, .int v3), (4, .int v4)]) hx hb dX4_save_94 rfl hl (by decide) rfl (fun ls hl => ?_)
              refine lv_iload hx hb dX4_save_95 (lv_at hl 1 rfl) ?_
              refine lv_iload_n hx hb dX4_save_97 rfl (lv_at hl 4 rfl) ?_
              refine lv_icmp_ge (tgt := 106) hx hb dX4_save_98 (by decide) (fun c_32 => ?_) (fun c_32 => ?_)
              · have h := q_t c_32 h
                refine lv_iload_n hx hb dX4_save_106 rfl (lv_at hl 4 rfl) ?_
                refine lv_istore_n (lv' := [(3, .int v3), (2, .int v4), (5, .int r_24), (0, .ref (q 0)), (1, .int v1), (4, .int v4)]) hx hb dX4_save_107 rfl hl (by decide) rfl (fun ls hl => ?_)
                obtain ⟨x_33, ex_33, h⟩ := q_let_ok h
                refine lv_iinc (v := x_33) (lv' := [(4, .int x_33), (3, .int v3), (2, .int v4), (5, .int r_24), (0, .ref (q 0)), (1, .int v1)]) hx hb dX4_save_108 hl (k := 5) rfl (by rw [ex_33]; rfl) (by decide) rfl (fun ls hl => ?_)
                refine lv_goto (tgt := 30) hx hb dX4_save_111 (by decide) ?_
                exact ih30_6 v4 v3 x_33 F_26 K30_6 _ _ _ hP hD hS (lv_sub hl [4, 5, 2, 1, 0] rfl) h
              · have h := q_f c_32 h
                refine lv_iload hx hb dX4_save_101 (lv_at hl 1 rfl) ?_
                refine lv_goto (tgt := 107) hx hb dX4_save_103 (by decide) ?_
                refine lv_istore_n (lv' := [(3, .int r_24), (2, .int v4), (5, .int r_24), (0, .ref (q 0)), (1, .int v1), (4, .int v4)]) hx hb dX4_save_107 rfl hl (by decide) rfl (fun ls hl => ?_)
                obtain ⟨x_34, ex_34, h⟩ := q_let_ok h
                refine lv_iinc (v := x_34) (lv' := [(4, .int x_34), (3, .int r_24), (2, .int v4), (5, .int r_24), (0, .ref (q 0)), (1, .int v1)]) hx hb dX4_save_108 hl (k := 5) rfl (by rw [ex_34]; rfl) (by decide) rfl (fun ls hl => ?_)
                refine lv_goto (tgt := 30) hx hb dX4_save_111 (by decide) ?_
                exact ih30_6 v4 r_24 x_34 F_26 K30_6 _ _ _ hP hD hS (lv_sub hl [4, 5, 2, 1, 0] rfl) h
    exact L30_6 G p1 N (-1 : Int32) (9 : Int32) (0 : Int32) F_4 K30_6 _ _ _ hP hD hS (lv_sub hl [3, 4, 2, 1, 0] rfl) hL6
  · have h := q_t c_3 h
    refine lv_aload_n hx hb dX4_save_11 rfl (lv_at hl 0 rfl) ?_
    refine lv_ldc (v := -1000000001) hx hb hown (hts _ kX4_save_2) dX4_save_12 ?_
    obtain ⟨r_38, F_39, hc_40, h⟩ := q_bd2_ok h
    refine q_ci (r := r_38) (va_runV (As := [.int (-1000000001 : Int32)]) (rest := []) ⟨hx, hb, hml, hown, hts⟩ (c_X4_finds l D y t q _ N F G (-1000000001 : Int32) (r_38, F_39) hc_40) (cwV 1 hts gX4_save_X4_finds rfl rfl rfl eX4_finds ⟨Nat.le_of_ble_eq_true rfl, Nat.le_of_ble_eq_true rfl⟩) ⟨q_blind, (va_recv hK hP (ci := 4) (q0 := 0) rfl rfl), (q_pre hP hK hZ hD hA hS [0, 1, 2, 3, 4, 5, 6, 7, 8] rfl (by decide))⟩ rfl rfl hl.1 rfl (lv_room (Nat.le_of_ble_eq_true rfl)) dX4_save_14 ⟨Nat.zero_le _, Nat.zero_le _⟩) hP hD hA hS [0, 1, 2, 3, 4, 5, 6, 7, 8] rfl (by decide) rfl (fun H locs hP hD hS => ?_)
    have hP : va_P D vwCl (wM y q F_39 G) H := hP
    have hD : va_D A (wM y q F_39 G) := hD
    have e9 := Option.some.inj h
    exact q_iret hx hb hr hlocks hK hP hD hS dX4_save_17 (by first | rw [← e9] | rfl) (by first | rw [← e9] | rfl)
theorem eX4_save : yX4_save.cls = RX4 ∧ yX4_save.cls ≠ "java/lang/invoke/MethodHandle" ∧ yX4_save.cls ≠ "java/lang/invoke/VarHandle" ∧ (parseMethodDescriptor yX4_save.desc).map (fun d => d.parameters.length) = some 1 := by decide +kernel
theorem kX4_goal_0 : Cond.constant RX4 35 (-1000000001) ∈ wsX4_goal := List.mem_of_getElem? (i := 1) (by decide +kernel)
def f_X4_goal_L27 (N : Nat) (G : Nat → Int64) (v1 : Int32) : Nat → Int32 → Int32 → Int32 → (Nat → Nat → Int32) → Option (Int32 × Int32 × Int32 × (Nat → Nat → Int32))
  | 0, _, _, _, _ => none
  | k + 1, v2, v3, v4, F =>
    if (60 : Int32) ≤ v4 then
      some (v2, v3, v4, F)
    else
      q_bd (f_X4_put N F G v1 (5 : Int32) v4) (fun F_12 =>
      q_bd2 (f_X4_arrivesIn N F_12 G v1 (120 : Int32)) (fun r_14 F_15 =>
      if r_14 ≤ 0 then
        if (0 : Int32) = 0 then
          if (0 : Int32) = 0 then
            q_let (v4 + 1) (fun x_20 =>
            f_X4_goal_L27 N G v1 k v2 v3 x_20 F_15)
          else
            q_let (v4 + 1) (fun x_21 =>
            f_X4_goal_L27 N G v1 k v2 r_14 x_21 F_15)
        else
          if (0 : Int32) = 0 then
            q_let (v4 + 1) (fun x_23 =>
            f_X4_goal_L27 N G v1 k v4 v3 x_23 F_15)
          else
            q_let (v4 + 1) (fun x_24 =>
            f_X4_goal_L27 N G v1 k v4 r_14 x_24 F_15)
      else
        if v3 ≤ r_14 then
          if (0 : Int32) = 0 then
            if (0 : Int32) = 0 then
              q_let (v4 + 1) (fun x_28 =>
              f_X4_goal_L27 N G v1 k v2 v3 x_28 F_15)
            else
              q_let (v4 + 1) (fun x_29 =>
              f_X4_goal_L27 N G v1 k v2 r_14 x_29 F_15)
          else
            if (0 : Int32) = 0 then
              q_let (v4 + 1) (fun x_31 =>
              f_X4_goal_L27 N G v1 k v4 v3 x_31 F_15)
            else
              q_let (v4 + 1) (fun x_32 =>
              f_X4_goal_L27 N G v1 k v4 r_14 x_32 F_15)
        else
          if (1 : Int32) = 0 then
            if (1 : Int32) = 0 then
              q_let (v4 + 1) (fun x_35 =>
              f_X4_goal_L27 N G v1 k v2 v3 x_35 F_15)
            else
              q_let (v4 + 1) (fun x_36 =>
              f_X4_goal_L27 N G v1 k v2 r_14 x_36 F_15)
          else
            if (1 : Int32) = 0 then
              q_let (v4 + 1) (fun x_38 =>
              f_X4_goal_L27 N G v1 k v4 v3 x_38 F_15)
            else
              q_let (v4 + 1) (fun x_39 =>
              f_X4_goal_L27 N G v1 k v4 r_14 x_39 F_15)))
def f_X4_goal (N : Nat) (F : Nat → Nat → Int32) (G : Nat → Int64) (p1 : Int32) : Option (Int32 × (Nat → Nat → Int32)) :=
  q_bd (f_X4_isThing N F G p1) (fun r_1 =>
  if r_1 = 0 then
    q_bd2 (f_X4_finds N F G (-1000000001 : Int32)) (fun r_43 F_44 =>
    some (r_43, F_44))
  else
    q_bd (f_X4_thinks N F G) (fun F_4 =>
    q_bd4 (f_X4_goal_L27 N G p1 N (-1 : Int32) (121 : Int32) (0 : Int32) F_4) (fun x_7 x_8 x_9 F_10 =>
    q_bd2 (f_X4_orNone N F_10 G x_7) (fun r_40 F_41 =>
    some (r_40, F_41)))))
set_option maxHeartbeats 4000000 in
set_option maxRecDepth 100000 in
theorem c_X4_goal (l : Launch) (D : va_G) (y : Nat → ClassId) (t : Nat → Nat) (q : Nat → Nat) (sz N : Nat) (F : Nat → Nat → Int32) (G : Nat → Int64) (p1 : Int32) (res : Int32 × (Nat → Nat → Int32)) (h : f_X4_goal N F G p1 = some res) : Met l yX4_goal wsX4_goal ({ frames := 7, cells := 0, slots := 0, locals := 157 } : Room) (pPre D y t [.ref (q 0), .int p1] (wM y q F G) sz) (pQi D y (res.1) (wM y q (res.2) G) (va_A (wM y q F G) sz)) 0 0 (va_A (wM y q F G) sz) := by
  refine q_start (Qc := (fun A => pQi D y (res.1) (wM y q (res.2) G) A)) (cc := cX4_goal) (maxL := 7) (ret := (some .int)) (by decide) rfl (Nat.le_of_ble_eq_true rfl) ?_
  intro p e s m below meth c A ls hx hb hr hts hown hlocks hmn hml hP hK hZ hD hA hS hl
  have hl : lv_has ls 7 [(0, .ref (q 0)), (1, .int p1)] := hl
  have hown : s.vm.findClass RX4 = some m.cls := hown
  unfold f_X4_goal at h
  refine lv_aload_n hx hb dX4_goal_0 rfl (lv_at hl 0 rfl) ?_
  refine lv_iload_n hx hb dX4_goal_1 rfl (lv_at hl 1 rfl) ?_
  obtain ⟨r_1, hc_2, h⟩ := q_bd_ok h
  refine q_ci (r := r_1) (va_runV (As := [.int p1]) (rest := []) ⟨hx, hb, hml, hown, hts⟩ (c_X4_isThing l D y t q _ N F G p1 r_1 hc_2) (cwV 1 hts gX4_goal_X4_isThing rfl rfl rfl eX4_isThing ⟨Nat.le_of_ble_eq_true rfl, Nat.le_of_ble_eq_true rfl⟩) ⟨q_blind, (va_recv hK hP (ci := 4) (q0 := 0) rfl rfl), (q_pre hP hK hZ hD hA hS [0, 1, 2, 3, 4, 5, 6, 7, 8] rfl (by decide))⟩ rfl rfl hl.1 rfl (lv_room (Nat.le_of_ble_eq_true rfl)) dX4_goal_2 ⟨Nat.zero_le _, Nat.zero_le _⟩) hP hD hA hS [0, 1, 2, 3, 4, 5, 6, 7, 8] rfl (by decide) rfl (fun H locs hP hD hS => ?_)
  have hP : va_P D vwCl (wM y q F G) H := hP
  have hD : va_D A (wM y q F G) := hD
  refine lv_if_ne (tgt := 15) hx hb dX4_goal_5 (by decide) (fun c_3 => ?_) (fun c_3 => ?_)
  · have h := q_f c_3 h
    refine lv_aload_n hx hb dX4_goal_15 rfl (lv_at hl 0 rfl) ?_
    obtain ⟨F_4, hc_5, h⟩ := q_bd_ok h
    refine q_cv (va_runV (As := []) (rest := []) ⟨hx, hb, hml, hown, hts⟩ (c_X4_thinks l D y t q _ N F G F_4 hc_5) (cwV 0 hts gX4_goal_X4_thinks rfl rfl rfl eX4_thinks ⟨Nat.le_of_ble_eq_true rfl, Nat.le_of_ble_eq_true rfl⟩) ⟨q_blind, (va_recv hK hP (ci := 4) (q0 := 0) rfl rfl), (q_pre hP hK hZ hD hA hS [0, 1, 2, 3, 4, 5, 6, 7, 8] rfl (by decide))⟩ rfl rfl hl.1 rfl (lv_room (Nat.le_of_ble_eq_true rfl)) dX4_goal_16 ⟨Nat.zero_le _, Nat.zero_le _⟩) hP hD hA hS [0, 1, 2, 3, 4, 5, 6, 7, 8] rfl (by decide) rfl (fun H locs hP hD hS => ?_)
    have hP : va_P D vwCl (wM y q F_4 G) H := hP
    have hD : va_D A (wM y q F_4 G) := hD
    refine lv_iconst (v := -1) hx hb dX4_goal_19 (by decide) ?_
    refine lv_istore_n (lv' := [(2, .int (-1 : Int32)), (0, .ref (q 0)), (1, .int p1)]) hx hb dX4_goal_20 rfl hl (by decide) rfl (fun ls hl => ?_)
    refine lv_bipush (v := 121) hx hb dX4_goal_21 (by decide) ?_
    refine lv_istore_n (lv' := [(3, .int (121 : Int32)), (2, .int (-1 : Int32)), (0, .ref (q 0)), (1, .int p1)]) hx hb dX4_goal_23 rfl hl (by decide) rfl (fun ls hl => ?_)
    refine lv_iconst (v := 0) hx hb dX4_goal_24 (by decide) ?_
    refine lv_istore (lv' := [(4, .int (0 : Int32)), (3, .int (121 : Int32)), (2, .int (-1 : Int32)), (0, .ref (q 0)), (1, .int p1)]) hx hb dX4_goal_25 hl (by decide) rfl (fun ls hl => ?_)
    obtain ⟨x_7, x_8, x_9, F_10, hL6, h⟩ := q_bd4_ok h
    have K27_6 : ∀ (H : Heap) (locs : List Loc) (ls : Array Slot), va_P D vwCl (wM y q F_10 G) H → va_D A (wM y q F_10 G) → va_S A s.heap H locs → lv_has ls 7 [(0, .ref (q 0)), (1, .int p1), (2, .int x_7), (3, .int x_8), (4, .int x_9)] → W p l e ({ frames := 7, cells := 0, slots := 0, locals := 157 } : Room) s m ([.ref (q 0), .int p1] : List Value).toArray below meth c H locs 0 0 (MQ below (pQi D y (res.1) (wM y q (res.2) G) A) ([.ref (q 0), .int p1] : List Value).toArray s 0 0 A) (F0 m 99 ls []) := by
      intro H locs ls hP hD hS hl
      refine lv_aload_n hx hb dX4_goal_99 rfl (lv_at hl 0 rfl) ?_
      refine lv_iload_n hx hb dX4_goal_100 rfl (lv_at hl 2 rfl) ?_
      obtain ⟨r_40, F_41, hc_42, h⟩ := q_bd2_ok h
      refine q_ci (r := r_40) (va_runV (As := [.int x_7]) (rest := []) ⟨hx, hb, hml, hown, hts⟩ (c_X4_orNone l D y t q _ N F_10 G x_7 (r_40, F_41) hc_42) (cwV 1 hts gX4_goal_X4_orNone rfl rfl rfl eX4_orNone ⟨Nat.le_of_ble_eq_true rfl, Nat.le_of_ble_eq_true rfl⟩) ⟨q_blind, (va_recv hK hP (ci := 4) (q0 := 0) rfl rfl), (q_pre hP hK hZ hD hA hS [0, 1, 2, 3, 4, 5, 6, 7, 8] rfl (by decide))⟩ rfl rfl hl.1 rfl (lv_room (Nat.le_of_ble_eq_true rfl)) dX4_goal_101 ⟨Nat.zero_le _, Nat.zero_le _⟩) hP hD hA hS [0, 1, 2, 3, 4, 5, 6, 7, 8] rfl (by decide) rfl (fun H locs hP hD hS => ?_)
      have hP : va_P D vwCl (wM y q F_41 G) H := hP
      have hD : va_D A (wM y q F_41 G) := hD
      have e9 := Option.some.inj h
      exact q_iret hx hb hr hlocks hK hP hD hS dX4_goal_104 (by first | rw [← e9] | rfl) (by first | rw [← e9] | rfl)
    have L27_6 : ∀ (G : Nat → Int64) (v1 : Int32) (k : Nat) (v2 : Int32) (v3 : Int32) (v4 : Int32) (F : Nat → Nat → Int32), (∀ (H : Heap) (locs : List Loc) (ls : Array Slot), va_P D vwCl (wM y q F_10 G) H → va_D A (wM y q F_10 G) → va_S A s.heap H locs → lv_has ls 7 [(0, .ref (q 0)), (1, .int v1), (2, .int x_7), (3, .int x_8), (4, .int x_9)] → W p l e ({ frames := 7, cells := 0, slots := 0, locals := 157 } : Room) s m ([.ref (q 0), .int p1] : List Value).toArray below meth c H locs 0 0 (MQ below (pQi D y (res.1) (wM y q (res.2) G) A) ([.ref (q 0), .int p1] : List Value).toArray s 0 0 A) (F0 m 99 ls [])) → ∀ (H : Heap) (locs : List Loc) (ls : Array Slot), va_P D vwCl (wM y q F G) H → va_D A (wM y q F G) → va_S A s.heap H locs → lv_has ls 7 [(0, .ref (q 0)), (1, .int v1), (2, .int v2), (3, .int v3), (4, .int v4)] → f_X4_goal_L27 N G v1 k v2 v3 v4 F = some (x_7, x_8, x_9, F_10) → W p l e ({ frames := 7, cells := 0, slots := 0, locals := 157 } : Room) s m ([.ref (q 0), .int p1] : List Value).toArray below meth c H locs 0 0 (MQ below (pQi D y (res.1) (wM y q (res.2) G) A) ([.ref (q 0), .int p1] : List Value).toArray s 0 0 A) (F0 m 27 ls []) := by
      intro G v1 k
      induction k with
      | zero =>
        intro v2 v3 v4 F K27_6 H locs ls hP hD hS hl h
        have h : (none : Option (Int32 × Int32 × Int32 × (Nat → Nat → Int32))) = some _ := h
        cases h
      | succ k ih27_6 =>
        intro v2 v3 v4 F K27_6 H locs ls hP hD hS hl h
        rw [f_X4_goal_L27] at h
        refine lv_iload hx hb dX4_goal_27 (lv_at hl 4 rfl) ?_
        refine lv_bipush (v := 60) hx hb dX4_goal_29 (by decide) ?_
        refine lv_icmp_ge (tgt := 99) hx hb dX4_goal_31 (by decide) (fun c_11 => ?_) (fun c_11 => ?_)
        · have h := q_t c_11 h
          cases h
          exact K27_6 _ _ _ hP hD hS (lv_sub hl [0, 1, 2, 3, 4] rfl)
        · have h := q_f c_11 h
          refine lv_aload_n hx hb dX4_goal_34 rfl (lv_at hl 0 rfl) ?_
          refine lv_iload_n hx hb dX4_goal_35 rfl (lv_at hl 1 rfl) ?_
          refine lv_iconst (v := 5) hx hb dX4_goal_36 (by decide) ?_
          refine lv_iload hx hb dX4_goal_37 (lv_at hl 4 rfl) ?_
          obtain ⟨F_12, hc_13, h⟩ := q_bd_ok h
          refine q_cv (va_runV (As := [.int v1, .int (5 : Int32), .int v4]) (rest := []) ⟨hx, hb, hml, hown, hts⟩ (c_X4_put l D y t q _ N F G v1 (5 : Int32) v4 F_12 hc_13) (cwV 3 hts gX4_goal_X4_put rfl rfl rfl eX4_put ⟨Nat.le_of_ble_eq_true rfl, Nat.le_of_ble_eq_true rfl⟩) ⟨q_blind, (va_recv hK hP (ci := 4) (q0 := 0) rfl rfl), (q_pre hP hK hZ hD hA hS [0, 1, 2, 3, 4, 5, 6, 7, 8] rfl (by decide))⟩ rfl rfl hl.1 rfl (lv_room (Nat.le_of_ble_eq_true rfl)) dX4_goal_39 ⟨Nat.zero_le _, Nat.zero_le _⟩) hP hD hA hS [0, 1, 2, 3, 4, 5, 6, 7, 8] rfl (by decide) rfl (fun H locs hP hD hS => ?_)
          have hP : va_P D vwCl (wM y q F_12 G) H := hP
          have hD : va_D A (wM y q F_12 G) := hD
          refine lv_aload_n hx hb dX4_goal_42 rfl (lv_at hl 0 rfl) ?_
          refine lv_iload_n hx hb dX4_goal_43 rfl (lv_at hl 1 rfl) ?_
          refine lv_bipush (v := 120) hx hb dX4_goal_44 (by decide) ?_
          obtain ⟨r_14, F_15, hc_16, h⟩ := q_bd2_ok h
          refine q_ci (r := r_14) (va_runV (As := [.int v1, .int (120 : Int32)]) (rest := []) ⟨hx, hb, hml, hown, hts⟩ (c_X4_arrivesIn l D y t q _ N F_12 G v1 (120 : Int32) (r_14, F_15) hc_16) (cwV 2 hts gX4_goal_X4_arrivesIn rfl rfl rfl eX4_arrivesIn ⟨Nat.le_of_ble_eq_true rfl, Nat.le_of_ble_eq_true rfl⟩) ⟨q_blind, (va_recv hK hP (ci := 4) (q0 := 0) rfl rfl), (q_pre hP hK hZ hD hA hS [0, 1, 2, 3, 4, 5, 6, 7, 8] rfl (by decide))⟩ rfl rfl hl.1 rfl (lv_room (Nat.le_of_ble_eq_true rfl)) dX4_goal_46 ⟨Nat.zero_le _, Nat.zero_le _⟩) hP hD hA hS [0, 1, 2, 3, 4, 5, 6, 7, 8] rfl (by decide) rfl (fun H locs hP hD hS => ?_)
          have hP : va_P D vwCl (wM y q F_15 G) H := hP
          have hD : va_D A (wM y q F_15 G) := hD
          refine lv_istore (lv' := [(5, .int r_14), (0, .ref (q 0)), (1, .int v1), (2, .int v2), (3, .int v3), (4, .int v4)]) hx hb dX4_goal_49 hl (by decide) rfl (fun ls hl => ?_)
          refine lv_iload hx hb dX4_goal_51 (lv_at hl 0 rfl) ?_
          refine lv_if_le (tgt := 66) hx hb dX4_goal_53 (by decide) (fun c_17 => ?_) (fun c_17 => ?_)
          · have h := q_t c_17 h
            refine lv_iconst (v := 0) hx hb dX4_goal_66 (by decide) ?_
            refine lv_istore (lv' := [(6, .int (0 : Int32)), (5, .int r_14), (0, .ref (q 0)), (1, .int v1), (2, .int v2), (3, .int v3), (4, .int v4)]) hx hb dX4_goal_67 hl (by decide) rfl (fun ls hl => ?_)
            refine lv_iload hx hb dX4_goal_69 (lv_at hl 0 rfl) ?_
            refine lv_if_eq (tgt := 79) hx hb dX4_goal_71 (by decide) (fun c_18 => ?_) (fun c_18 => ?_)
            · have h := q_t c_18 h
              refine lv_iload_n hx hb dX4_goal_79 rfl (lv_at hl 4 rfl) ?_
              refine lv_istore_n (lv' := [(2, .int v2), (6, .int (0 : Int32)), (5, .int r_14), (0, .ref (q 0)), (1, .int v1), (3, .int v3), (4, .int v4)]) hx hb dX4_goal_80 rfl hl (by decide) rfl (fun ls hl => ?_)
              refine lv_iload hx hb dX4_goal_81 (lv_at hl 1 rfl) ?_
              refine lv_if_eq (tgt := 91) hx hb dX4_goal_83 (by decide) (fun c_19 => ?_) (fun c_19 => ?_)
              · have h := q_t c_19 h
                refine lv_iload_n hx hb dX4_goal_91 rfl (lv_at hl 5 rfl) ?_
                refine lv_istore_n (lv' := [(3, .int v3), (2, .int v2), (6, .int (0 : Int32)), (5, .int r_14), (0, .ref (q 0)), (1, .int v1), (4, .int v4)]) hx hb dX4_goal_92 rfl hl (by decide) rfl (fun ls hl => ?_)
                obtain ⟨x_20, ex_20, h⟩ := q_let_ok h
                refine lv_iinc (v := x_20) (lv' := [(4, .int x_20), (3, .int v3), (2, .int v2), (6, .int (0 : Int32)), (5, .int r_14), (0, .ref (q 0)), (1, .int v1)]) hx hb dX4_goal_93 hl (k := 6) rfl (by rw [ex_20]; rfl) (by decide) rfl (fun ls hl => ?_)
                refine lv_goto (tgt := 27) hx hb dX4_goal_96 (by decide) ?_
                exact ih27_6 v2 v3 x_20 F_15 K27_6 _ _ _ hP hD hS (lv_sub hl [5, 6, 2, 1, 0] rfl) h
              · have h := q_f c_19 h
                refine lv_iload hx hb dX4_goal_86 (lv_at hl 2 rfl) ?_
                refine lv_goto (tgt := 92) hx hb dX4_goal_88 (by decide) ?_
                refine lv_istore_n (lv' := [(3, .int r_14), (2, .int v2), (6, .int (0 : Int32)), (5, .int r_14), (0, .ref (q 0)), (1, .int v1), (4, .int v4)]) hx hb dX4_goal_92 rfl hl (by decide) rfl (fun ls hl => ?_)
                obtain ⟨x_21, ex_21, h⟩ := q_let_ok h
                refine lv_iinc (v := x_21) (lv' := [(4, .int x_21), (3, .int r_14), (2, .int v2), (6, .int (0 : Int32)), (5, .int r_14), (0, .ref (q 0)), (1, .int v1)]) hx hb dX4_goal_93 hl (k := 6) rfl (by rw [ex_21]; rfl) (by decide) rfl (fun ls hl => ?_)
                refine lv_goto (tgt := 27) hx hb dX4_goal_96 (by decide) ?_
                exact ih27_6 v2 r_14 x_21 F_15 K27_6 _ _ _ hP hD hS (lv_sub hl [5, 6, 2, 1, 0] rfl) h
            · have h := q_f c_18 h
              refine lv_iload hx hb dX4_goal_74 (lv_at hl 6 rfl) ?_
              refine lv_goto (tgt := 80) hx hb dX4_goal_76 (by decide) ?_
              refine lv_istore_n (lv' := [(2, .int v4), (6, .int (0 : Int32)), (5, .int r_14), (0, .ref (q 0)), (1, .int v1), (3, .int v3), (4, .int v4)]) hx hb dX4_goal_80 rfl hl (by decide) rfl (fun ls hl => ?_)
              refine lv_iload hx hb dX4_goal_81 (lv_at hl 1 rfl) ?_
              refine lv_if_eq (tgt := 91) hx hb dX4_goal_83 (by decide) (fun c_22 => ?_) (fun c_22 => ?_)
              · have h := q_t c_22 h
                refine lv_iload_n hx hb dX4_goal_91 rfl (lv_at hl 5 rfl) ?_
                refine lv_istore_n (lv' := [(3, .int v3), (2, .int v4), (6, .int (0 : Int32)), (5, .int r_14), (0, .ref (q 0)), (1, .int v1), (4, .int v4)]) hx hb dX4_goal_92 rfl hl (by decide) rfl (fun ls hl => ?_)
                obtain ⟨x_23, ex_23, h⟩ := q_let_ok h
                refine lv_iinc (v := x_23) (lv' := [(4, .int x_23), (3, .int v3), (2, .int v4), (6, .int (0 : Int32)), (5, .int r_14), (0, .ref (q 0)), (1, .int v1)]) hx hb dX4_goal_93 hl (k := 6) rfl (by rw [ex_23]; rfl) (by decide) rfl (fun ls hl => ?_)
                refine lv_goto (tgt := 27) hx hb dX4_goal_96 (by decide) ?_
                exact ih27_6 v4 v3 x_23 F_15 K27_6 _ _ _ hP hD hS (lv_sub hl [5, 6, 2, 1, 0] rfl) h
              · have h := q_f c_22 h
                refine lv_iload hx hb dX4_goal_86 (lv_at hl 2 rfl) ?_
                refine lv_goto (tgt := 92) hx hb dX4_goal_88 (by decide) ?_
                refine lv_istore_n (lv' := [(3, .int r_14), (2, .int v4), (6, .int (0 : Int32)), (5, .int r_14), (0, .ref (q 0)), (1, .int v1), (4, .int v4)]) hx hb dX4_goal_92 rfl hl (by decide) rfl (fun ls hl => ?_)
                obtain ⟨x_24, ex_24, h⟩ := q_let_ok h
                refine lv_iinc (v := x_24) (lv' := [(4, .int x_24), (3, .int r_14), (2, .int v4), (6, .int (0 : Int32)), (5, .int r_14), (0, .ref (q 0)), (1, .int v1)]) hx hb dX4_goal_93 hl (k := 6) rfl (by rw [ex_24]; rfl) (by decide) rfl (fun ls hl => ?_)
                refine lv_goto (tgt := 27) hx hb dX4_goal_96 (by decide) ?_
                exact ih27_6 v4 r_14 x_24 F_15 K27_6 _ _ _ hP hD hS (lv_sub hl [5, 6, 2, 1, 0] rfl) h
          · have h := q_f c_17 h
            refine lv_iload hx hb dX4_goal_56 (lv_at hl 0 rfl) ?_
            refine lv_iload_n hx hb dX4_goal_58 rfl (lv_at hl 4 rfl) ?_
            refine lv_icmp_ge (tgt := 66) hx hb dX4_goal_59 (by decide) (fun c_25 => ?_) (fun c_25 => ?_)
            · have h := q_t c_25 h
              refine lv_iconst (v := 0) hx hb dX4_goal_66 (by decide) ?_
              refine lv_istore (lv' := [(6, .int (0 : Int32)), (5, .int r_14), (0, .ref (q 0)), (1, .int v1), (2, .int v2), (3, .int v3), (4, .int v4)]) hx hb dX4_goal_67 hl (by decide) rfl (fun ls hl => ?_)
              refine lv_iload hx hb dX4_goal_69 (lv_at hl 0 rfl) ?_
              refine lv_if_eq (tgt := 79) hx hb dX4_goal_71 (by decide) (fun c_26 => ?_) (fun c_26 => ?_)
              · have h := q_t c_26 h
                refine lv_iload_n hx hb dX4_goal_79 rfl (lv_at hl 4 rfl) ?_
                refine lv_istore_n (lv' := [(2, .int v2), (6, .int (0 : Int32)), (5, .int r_14), (0, .ref (q 0)), (1, .int v1), (3, .int v3), (4, .int v4)]) hx hb dX4_goal_80 rfl hl (by decide) rfl (fun ls hl => ?_)
                refine lv_iload hx hb dX4_goal_81 (lv_at hl 1 rfl) ?_
                refine lv_if_eq (tgt := 91) hx hb dX4_goal_83 (by decide) (fun c_27 => ?_) (fun c_27 => ?_)
                · have h := q_t c_27 h
                  refine lv_iload_n hx hb dX4_goal_91 rfl (lv_at hl 5 rfl) ?_
                  refine lv_istore_n (lv' := [(3, .int v3), (2, .int v2), (6, .int (0 : Int32)), (5, .int r_14), (0, .ref (q 0)), (1, .int v1), (4, .int v4)]) hx hb dX4_goal_92 rfl hl (by decide) rfl (fun ls hl => ?_)
                  obtain ⟨x_28, ex_28, h⟩ := q_let_ok h
                  refine lv_iinc (v := x_28) (lv' := [(4, .int x_28), (3, .int v3), (2, .int v2), (6, .int (0 : Int32)), (5, .int r_14), (0, .ref (q 0)), (1, .int v1)]) hx hb dX4_goal_93 hl (k := 6) rfl (by rw [ex_28]; rfl) (by decide) rfl (fun ls hl => ?_)
                  refine lv_goto (tgt := 27) hx hb dX4_goal_96 (by decide) ?_
                  exact ih27_6 v2 v3 x_28 F_15 K27_6 _ _ _ hP hD hS (lv_sub hl [5, 6, 2, 1, 0] rfl) h
                · have h := q_f c_27 h
                  refine lv_iload hx hb dX4_goal_86 (lv_at hl 2 rfl) ?_
                  refine lv_goto (tgt := 92) hx hb dX4_goal_88 (by decide) ?_
                  refine lv_istore_n (lv' := [(3, .int r_14), (2, .int v2), (6, .int (0 : Int32)), (5, .int r_14), (0, .ref (q 0)), (1, .int v1), (4, .int v4)]) hx hb dX4_goal_92 rfl hl (by decide) rfl (fun ls hl => ?_)
                  obtain ⟨x_29, ex_29, h⟩ := q_let_ok h
                  refine lv_iinc (v := x_29) (lv' := [(4, .int x_29), (3, .int r_14), (2, .int v2), (6, .int (0 : Int32)), (5, .int r_14), (0, .ref (q 0)), (1, .int v1)]) hx hb dX4_goal_93 hl (k := 6) rfl (by rw [ex_29]; rfl) (by decide) rfl (fun ls hl => ?_)
                  refine lv_goto (tgt := 27) hx hb dX4_goal_96 (by decide) ?_
                  exact ih27_6 v2 r_14 x_29 F_15 K27_6 _ _ _ hP hD hS (lv_sub hl [5, 6, 2, 1, 0] rfl) h
              · have h := q_f c_26 h
                refine lv_iload hx hb dX4_goal_74 (lv_at hl 6 rfl) ?_
                refine lv_goto (tgt := 80) hx hb dX4_goal_76 (by decide) ?_
                refine lv_istore_n (lv' := [(2, .int v4), (6, .int (0 : Int32)), (5, .int r_14), (0, .ref (q 0)), (1, .int v1), (3, .int v3), (4, .int v4)]) hx hb dX4_goal_80 rfl hl (by decide) rfl (fun ls hl => ?_)
                refine lv_iload hx hb dX4_goal_81 (lv_at hl 1 rfl) ?_
                refine lv_if_eq (tgt := 91) hx hb dX4_goal_83 (by decide) (fun c_30 => ?_) (fun c_30 => ?_)
                · have h := q_t c_30 h
                  refine lv_iload_n hx hb dX4_goal_91 rfl (lv_at hl 5 rfl) ?_
                  refine lv_istore_n (lv' := [(3, .int v3), (2, .int v4), (6, .int (0 : Int32)), (5, .int r_14), (0, .ref (q 0)), (1, .int v1), (4, .int v4)]) hx hb dX4_goal_92 rfl hl (by decide) rfl (fun ls hl => ?_)
                  obtain ⟨x_31, ex_31, h⟩ := q_let_ok h
                  refine lv_iinc (v := x_31) (lv' := [(4, .int x_31), (3, .int v3), (2, .int v4), (6, .int (0 : Int32)), (5, .int r_14), (0, .ref (q 0)), (1, .int v1)]) hx hb dX4_goal_93 hl (k := 6) rfl (by rw [ex_31]; rfl) (by decide) rfl (fun ls hl => ?_)
                  refine lv_goto (tgt := 27) hx hb dX4_goal_96 (by decide) ?_
                  exact ih27_6 v4 v3 x_31 F_15 K27_6 _ _ _ hP hD hS (lv_sub hl [5, 6, 2, 1, 0] rfl) h
                · have h := q_f c_30 h
                  refine lv_iload hx hb dX4_goal_86 (lv_at hl 2 rfl) ?_
                  refine lv_goto (tgt := 92) hx hb dX4_goal_88 (by decide) ?_
                  refine lv_istore_n (lv' := [(3, .int r_14), (2, .int v4), (6, .int (0 : Int32)), (5, .int r_14), (0, .ref (q 0)), (1, .int v1), (4, .int v4)]) hx hb dX4_goal_92 rfl hl (by decide) rfl (fun ls hl => ?_)
                  obtain ⟨x_32, ex_32, h⟩ := q_let_ok h
                  refine lv_iinc (v := x_32) (lv' := [(4, .int x_32), (3, .int r_14), (2, .int v4), (6, .int (0 : Int32)), (5, .int r_14), (0, .ref (q 0)), (1, .int v1)]) hx hb dX4_goal_93 hl (k := 6) rfl (by rw [ex_32]; rfl) (by decide) rfl (fun ls hl => ?_)
                  refine lv_goto (tgt := 27) hx hb dX4_goal_96 (by decide) ?_
                  exact ih27_6 v4 r_14 x_32 F_15 K27_6 _ _ _ hP hD hS (lv_sub hl [5, 6, 2, 1, 0] rfl) h
            · have h := q_f c_25 h
              refine lv_iconst (v := 1) hx hb dX4_goal_62 (by decide) ?_
              refine lv_goto (tgt := 67) hx hb dX4_goal_63 (by decide) ?_
              refine lv_istore (lv' := [(6, .int (1 : Int32)), (5, .int r_14), (0, .ref (q 0)), (1, .int v1), (2, .int v2), (3, .int v3), (4, .int v4)]) hx hb dX4_goal_67 hl (by decide) rfl (fun ls hl => ?_)
              refine lv_iload hx hb dX4_goal_69 (lv_at hl 0 rfl) ?_
              refine lv_if_eq (tgt := 79) hx hb dX4_goal_71 (by decide) (fun c_33 => ?_) (fun c_33 => ?_)
              · have h := q_t c_33 h
                refine lv_iload_n hx hb dX4_goal_79 rfl (lv_at hl 4 rfl) ?_
                refine lv_istore_n (lv' := [(2, .int v2), (6, .int (1 : Int32)), (5, .int r_14), (0, .ref (q 0)), (1, .int v1), (3, .int v3), (4, .int v4)]) hx hb dX4_goal_80 rfl hl (by decide) rfl (fun ls hl => ?_)
                refine lv_iload hx hb dX4_goal_81 (lv_at hl 1 rfl) ?_
                refine lv_if_eq (tgt := 91) hx hb dX4_goal_83 (by decide) (fun c_34 => ?_) (fun c_34 => ?_)
                · have h := q_t c_34 h
                  refine lv_iload_n hx hb dX4_goal_91 rfl (lv_at hl 5 rfl) ?_
                  refine lv_istore_n (lv' := [(3, .int v3), (2, .int v2), (6, .int (1 : Int32)), (5, .int r_14), (0, .ref (q 0)), (1, .int v1), (4, .int v4)]) hx hb dX4_goal_92 rfl hl (by decide) rfl (fun ls hl => ?_)
                  obtain ⟨x_35, ex_35, h⟩ := q_let_ok h
                  refine lv_iinc (v := x_35) (lv' := [(4, .int x_35), (3, .int v3), (2, .int v2), (6, .int (1 : Int32)), (5, .int r_14), (0, .ref (q 0)), (1, .int v1)]) hx hb dX4_goal_93 hl (k := 6) rfl (by rw [ex_35]; rfl) (by decide) rfl (fun ls hl => ?_)
                  refine lv_goto (tgt := 27) hx hb dX4_goal_96 (by decide) ?_
                  exact ih27_6 v2 v3 x_35 F_15 K27_6 _ _ _ hP hD hS (lv_sub hl [5, 6, 2, 1, 0] rfl) h
                · have h := q_f c_34 h
                  refine lv_iload hx hb dX4_goal_86 (lv_at hl 2 rfl) ?_
                  refine lv_goto (tgt := 92) hx hb dX4_goal_88 (by decide) ?_
                  refine lv_istore_n (lv' := [(3, .int r_14), (2, .int v2), (6, .int (1 : Int32)), (5, .int r_14), (0, .ref (q 0)), (1, .int v1), (4, .int v4)]) hx hb dX4_goal_92 rfl hl (by decide) rfl (fun ls hl => ?_)
                  obtain ⟨x_36, ex_36, h⟩ := q_let_ok h
                  refine lv_iinc (v := x_36) (lv' := [(4, .int x_36), (3, .int r_14), (2, .int v2), (6, .int (1 : Int32)), (5, .int r_14), (0, .ref (q 0)), (1, .int v1)]) hx hb dX4_goal_93 hl (k := 6) rfl (by rw [ex_36]; rfl) (by decide) rfl (fun ls hl => ?_)
                  refine lv_goto (tgt := 27) hx hb dX4_goal_96 (by decide) ?_
                  exact ih27_6 v2 r_14 x_36 F_15 K27_6 _ _ _ hP hD hS (lv_sub hl [5, 6, 2, 1, 0] rfl) h
              · have h := q_f c_33 h
                refine lv_iload hx hb dX4_goal_74 (lv_at hl 6 rfl) ?_
                refine lv_goto (tgt := 80) hx hb dX4_goal_76 (by decide) ?_
                refine lv_istore_n (lv' := [(2, .int v4), (6, .int (1 : Int32)), (5, .int r_14), (0, .ref (q 0)), (1, .int v1), (3, .int v3), (4, .int v4)]) hx hb dX4_goal_80 rfl hl (by decide) rfl (fun ls hl => ?_)
                refine lv_iload hx hb dX4_goal_81 (lv_at hl 1 rfl) ?_
                refine lv_if_eq (tgt := 91) hx hb dX4_goal_83 (by decide) (fun c_37 => ?_) (fun c_37 => ?_)
                · have h := q_t c_37 h
                  refine lv_iload_n hx hb dX4_goal_91 rfl (lv_at hl 5 rfl) ?_
                  refine lv_istore_n (lv' := [(3, .int v3), (2, .int v4), (6, .int (1 : Int32)), (5, .int r_14), (0, .ref (q 0)), (1, .int v1), (4, .int v4)]) hx hb dX4_goal_92 rfl hl (by decide) rfl (fun ls hl => ?_)
                  obtain ⟨x_38, ex_38, h⟩ := q_let_ok h
                  refine lv_iinc (v := x_38) (lv' := [(4, .int x_38), (3, .int v3), (2, .int v4), (6, .int (1 : Int32)), (5, .int r_14), (0, .ref (q 0)), (1, .int v1)]) hx hb dX4_goal_93 hl (k := 6) rfl (by rw [ex_38]; rfl) (by decide) rfl (fun ls hl => ?_)
                  refine lv_goto (tgt := 27) hx hb dX4_goal_96 (by decide) ?_
                  exact ih27_6 v4 v3 x_38 F_15 K27_6 _ _ _ hP hD hS (lv_sub hl [5, 6, 2, 1, 0] rfl) h
                · have h := q_f c_37 h
                  refine lv_iload hx hb dX4_goal_86 (lv_at hl 2 rfl) ?_
                  refine lv_goto (tgt := 92) hx hb dX4_goal_88 (by decide) ?_
                  refine lv_istore_n (lv' := [(3, .int r_14), (2, .int v4), (6, .int (1 : Int32)), (5, .int r_14), (0, .ref (q 0)), (1, .int v1), (4, .int v4)]) hx hb dX4_goal_92 rfl hl (by decide) rfl (fun ls hl => ?_)
                  obtain ⟨x_39, ex_39, h⟩ := q_let_ok h
                  refine lv_iinc (v := x_39) (lv' := [(4, .int x_39), (3, .int r_14), (2, .int v4), (6, .int (1 : Int32)), (5, .int r_14), (0, .ref (q 0)), (1, .int v1)]) hx hb dX4_goal_93 hl (k := 6) rfl (by rw [ex_39]; rfl) (by decide) rfl (fun ls hl => ?_)
                  refine lv_goto (tgt := 27) hx hb dX4_goal_96 (by decide) ?_
                  exact ih27_6 v4 r_14 x_39 F_15 K27_6 _ _ _ hP hD hS (lv_sub hl [5, 6, 2, 1, 0] rfl) h
    exact L27_6 G p1 N (-1 : Int32) (121 : Int32) (0 : Int32) F_4 K27_6 _ _ _ hP hD hS (lv_sub hl [3, 4, 2, 1, 0] rfl) hL6
  · have h := q_t c_3 h
    refine lv_aload_n hx hb dX4_goal_8 rfl (lv_at hl 0 rfl) ?_
    refine lv_ldc (v := -1000000001) hx hb hown (hts _ kX4_goal_0) dX4_goal_9 ?_
    obtain ⟨r_43, F_44, hc_45, h⟩ := q_bd2_ok h
    refine q_ci (r := r_43) (va_runV (As := [.int (-1000000001 : Int32)]) (rest := []) ⟨hx, hb, hml, hown, hts⟩ (c_X4_finds l D y t q _ N F G (-1000000001 : Int32) (r_43, F_44) hc_45) (cwV 1 hts gX4_goal_X4_finds rfl rfl rfl eX4_finds ⟨Nat.le_of_ble_eq_true rfl, Nat.le_of_ble_eq_true rfl⟩) ⟨q_blind, (va_recv hK hP (ci := 4) (q0 := 0) rfl rfl), (q_pre hP hK hZ hD hA hS [0, 1, 2, 3, 4, 5, 6, 7, 8] rfl (by decide))⟩ rfl rfl hl.1 rfl (lv_room (Nat.le_of_ble_eq_true rfl)) dX4_goal_11 ⟨Nat.zero_le _, Nat.zero_le _⟩) hP hD hA hS [0, 1, 2, 3, 4, 5, 6, 7, 8] rfl (by decide) rfl (fun H locs hP hD hS => ?_)
    have hP : va_P D vwCl (wM y q F_44 G) H := hP
    have hD : va_D A (wM y q F_44 G) := hD
    have e9 := Option.some.inj h
    exact q_iret hx hb hr hlocks hK hP hD hS dX4_goal_14 (by first | rw [← e9] | rfl) (by first | rw [← e9] | rfl)
theorem eX4_goal : yX4_goal.cls = RX4 ∧ yX4_goal.cls ≠ "java/lang/invoke/MethodHandle" ∧ yX4_goal.cls ≠ "java/lang/invoke/VarHandle" ∧ (parseMethodDescriptor yX4_goal.desc).map (fun d => d.parameters.length) = some 1 := by decide +kernel
theorem uX4_feed_X4 : ∀ w ∈ u_ws RX4 TX4 15, w ∈ wsX4_feed := by decide +kernel
theorem kX4_feed_1 : Cond.fieldLink RX4 159 "BeamSeatsModel" "taped" "I" ∈ wsX4_feed := List.mem_of_getElem? (i := 2) (by decide +kernel)
theorem kX4_feed_2 : Cond.fieldLink RX4 22 "BeamSeatsModel" "tape" "[I" ∈ wsX4_feed := List.mem_of_getElem? (i := 4) (by decide +kernel)
theorem kX4_feed_3 : Cond.constant RX4 89 (-1000000002) ∈ wsX4_feed := List.mem_of_getElem? (i := 3) (by decide +kernel)
theorem kX4_feed_4 : Cond.constant RX4 35 (-1000000001) ∈ wsX4_feed := List.mem_of_getElem? (i := 1) (by decide +kernel)
def f_X4_feed_L39 (N : Nat) (G : Nat → Int64) (v1 : Int32) : Nat → Int32 → (Nat → Nat → Int32) → Option (Int32 × (Nat → Nat → Int32))
  | 0, _, _ => none
  | k + 1, v3, F =>
    if v3 < 0 then
      some (v3, F)
    else
      q_grd (F 0 1) 120 (
      q_let (q_up F 5 (F 0 1).toNatClampNeg ((v1 >>> (((8 : Int32) * v3) &&& 31)) &&& (255 : Int32))) (fun F_11 =>
      q_let (q_up F_11 0 1 ((F_11 0 1) + (1 : Int32))) (fun F_12 =>
      q_let (v3 + (-1)) (fun x_13 =>
      f_X4_feed_L39 N G v1 k x_13 F_12))))
def f_X4_feed (N : Nat) (F : Nat → Nat → Int32) (G : Nat → Int64) (p1 : Int32) (p2 : Int32) : Option (Int32 × (Nat → Nat → Int32)) :=
  q_bd (f_X4_in N (p2.toInt64) (1 : Int32) (4 : Int32)) (fun r_1 =>
  if r_1 = 0 then
    q_bd2 (f_X4_finds N F G (-1000000001 : Int32)) (fun r_17 F_18 =>
    some (r_17, F_18))
  else
    if ((F 0 1) + p2) ≤ (120 : Int32) then
      q_let (p2 - (1 : Int32)) (fun x_5 =>
      q_bd2 (f_X4_feed_L39 N G p1 N x_5 F) (fun x_7 F_8 =>
      some ((F_8 0 1), F_8)))
    else
      q_bd2 (f_X4_finds N F G (-1000000002 : Int32)) (fun r_14 F_15 =>
      some (r_14, F_15)))
set_option maxHeartbeats 4000000 in
set_option maxRecDepth 100000 in
theorem c_X4_feed (l : Launch) (D : va_G) (y : Nat → ClassId) (t : Nat → Nat) (q : Nat → Nat) (sz N : Nat) (F : Nat → Nat → Int32) (G : Nat → Int64) (p1 : Int32) (p2 : Int32) (res : Int32 × (Nat → Nat → Int32)) (h : f_X4_feed N F G p1 p2 = some res) : Met l yX4_feed wsX4_feed ({ frames := 1, cells := 0, slots := 0, locals := 23 } : Room) (pPre D y t [.ref (q 0), .int p1, .int p2] (wM y q F G) sz) (pQi D y (res.1) (wM y q (res.2) G) (va_A (wM y q F G) sz)) 0 0 (va_A (wM y q F G) sz) := by
  refine q_start (Qc := (fun A => pQi D y (res.1) (wM y q (res.2) G) A)) (cc := cX4_feed) (maxL := 4) (ret := (some .int)) (by decide) rfl (Nat.le_of_ble_eq_true rfl) ?_
  intro p e s m below meth c A ls hx hb hr hts hown hlocks hmn hml hP hK hZ hD hA hS hl
  have hl : lv_has ls 4 [(0, .ref (q 0)), (1, .int p1), (2, .int p2)] := hl
  have hown : s.vm.findClass RX4 = some m.cls := hown
  unfold f_X4_feed at h
  refine lv_iload_n hx hb dX4_feed_0 rfl (lv_at hl 2 rfl) ?_
  refine lv_i2l hx hb dX4_feed_1 rfl ?_
  refine lv_iconst (v := 1) hx hb dX4_feed_2 (by decide) ?_
  refine lv_iconst (v := 4) hx hb dX4_feed_3 (by decide) ?_
  obtain ⟨r_1, hc_2, h⟩ := q_bd_ok h
  refine q_ci (r := r_1) (va_runS (As := [.long (p2.toInt64), .int (1 : Int32), .int (4 : Int32)]) (rest := []) ⟨hx, hb, hml, hown, hts⟩ (c_X4_in l D y t q _ N (p2.toInt64) (1 : Int32) (4 : Int32) r_1 hc_2) (va_cwS 3 hts gX4_feed_X4_in rfl rfl rfl eX4_in ⟨Nat.le_of_ble_eq_true rfl, Nat.le_of_ble_eq_true rfl⟩) ⟨q_blind, (q_pre hP hK hZ hD hA hS [] rfl (by decide))⟩ rfl rfl hl.1 rfl (lv_room (Nat.le_of_ble_eq_true rfl)) dX4_feed_4 ⟨Nat.zero_le _, Nat.zero_le _⟩) hP hD hA hS [] rfl (by decide) rfl (fun H locs hP hD hS => ?_)
  have hP : va_P D vwCl (wM y q F G) H := hP
  have hD : va_D A (wM y q F G) := hD
  refine lv_if_ne (tgt := 17) hx hb dX4_feed_7 (by decide) (fun c_3 => ?_) (fun c_3 => ?_)
  · have h := q_f c_3 h
    refine lv_aload_n hx hb dX4_feed_17 rfl (lv_at hl 0 rfl) ?_
    refine va_get (D := D) (ci := 4) (v := .int (F 0 1)) (C := RX4) (T := TX4) (N := 15) hx hb hts uX4_feed_X4 hown hK hP 0 rfl rfl 6 (by decide) (hts _ kX4_feed_1) (fun _ h9 => h9) rfl dX4_feed_18 ?_
    refine lv_iload_n hx hb dX4_feed_21 rfl (lv_at hl 2 rfl) ?_
    refine lv_iadd hx hb dX4_feed_22 ?_
    refine lv_bipush (v := 120) hx hb dX4_feed_23 (by decide) ?_
    refine lv_icmp_le (tgt := 35) hx hb dX4_feed_25 (by decide) (fun c_4 => ?_) (fun c_4 => ?_)
    · have h := q_t c_4 h
      refine lv_iload_n hx hb dX4_feed_35 rfl (lv_at hl 2 rfl) ?_
      refine lv_iconst (v := 1) hx hb dX4_feed_36 (by decide) ?_
      refine lv_isub hx hb dX4_feed_37 ?_
      refine lv_topi (fun x_5 ex_5 => ?_)
      have h := q_let_at ex_5 h
      refine lv_istore_n (lv' := [(3, .int x_5), (0, .ref (q 0)), (1, .int p1), (2, .int p2)]) hx hb dX4_feed_38 rfl hl (by decide) rfl (fun ls hl => ?_)
      obtain ⟨x_7, F_8, hL6, h⟩ := q_bd2_ok h
      have K39_6 : ∀ (H : Heap) (locs : List Loc) (ls : Array Slot), va_P D vwCl (wM y q F_8 G) H → va_D A (wM y q F_8 G) → va_S A s.heap H locs → lv_has ls 4 [(0, .ref (q 0)), (1, .int p1), (3, .int x_7)] → W p l e ({ frames := 1, cells := 0, slots := 0, locals := 23 } : Room) s m ([.ref (q 0), .int p1, .int p2] : List Value).toArray below meth c H locs 0 0 (MQ below (pQi D y (res.1) (wM y q (res.2) G) A) ([.ref (q 0), .int p1, .int p2] : List Value).toArray s 0 0 A) (F0 m 78 ls []) := by
        intro H locs ls hP hD hS hl
        refine lv_aload_n hx hb dX4_feed_78 rfl (lv_at hl 0 rfl) ?_
        refine va_get (D := D) (ci := 4) (v := .int (F_8 0 1)) (C := RX4) (T := TX4) (N := 15) hx hb hts uX4_feed_X4 hown hK hP 0 rfl rfl 6 (by decide) (hts _ kX4_feed_1) (fun _ h9 => h9) rfl dX4_feed_79 ?_
        have e9 := Option.some.inj h
        exact q_iret hx hb hr hlocks hK hP hD hS dX4_feed_82 (by first | rw [← e9] | rfl) (by first | rw [← e9] | rfl)
      have L39_6 : ∀ (G : Nat → Int64) (v1 : Int32) (k : Nat) (v3 : Int32) (F : Nat → Nat → Int32), (∀ (H : Heap) (locs : List Loc) (ls : Array Slot), va_P D vwCl (wM y q F_8 G) H → va_D A (wM y q F_8 G) → va_S A s.heap H locs → lv_has ls 4 [(0, .ref (q 0)), (1, .int v1), (3, .int x_7)] → W p l e ({ frames := 1, cells := 0, slots := 0, locals := 23 } : Room) s m ([.ref (q 0), .int p1, .int p2] : List Value).toArray below meth c H locs 0 0 (MQ below (pQi D y (res.1) (wM y q (res.2) G) A) ([.ref (q 0), .int p1, .int p2] : List Value).toArray s 0 0 A) (F0 m 78 ls [])) → ∀ (H : Heap) (locs : List Loc) (ls : Array Slot), va_P D vwCl (wM y q F G) H → va_D A (wM y q F G) → va_S A s.heap H locs → lv_has ls 4 [(0, .ref (q 0)), (1, .int v1), (3, .int v3)] → f_X4_feed_L39 N G v1 k v3 F = some (x_7, F_8) → W p l e ({ frames := 1, cells := 0, slots := 0, locals := 23 } : Room) s m ([.ref (q 0), .int p1, .int p2] : List Value).toArray below meth c H locs 0 0 (MQ below (pQi D y (res.1) (wM y q (res.2) G) A) ([.ref (q 0), .int p1, .int p2] : List Value).toArray s 0 0 A) (F0 m 39 ls []) := by
        intro G v1 k
        induction k with
        | zero =>
          intro v3 F K39_6 H locs ls hP hD hS hl h
          have h : (none : Option (Int32 × (Nat → Nat → Int32))) = some _ := h
          cases h
        | succ k ih39_6 =>
          intro v3 F K39_6 H locs ls hP hD hS hl h
          rw [f_X4_feed_L39] at h
          refine lv_iload_n hx hb dX4_feed_39 rfl (lv_at hl 2 rfl) ?_
          refine lv_if_lt (tgt := 78) hx hb dX4_feed_40 (by decide) (fun c_9 => ?_) (fun c_9 => ?_)
          · have h := q_t c_9 h
            cases h
            exact K39_6 _ _ _ hP hD hS (lv_sub hl [0, 1, 2] rfl)
          · have h := q_f c_9 h
            refine lv_aload_n hx hb dX4_feed_43 rfl (lv_at hl 0 rfl) ?_
            refine va_get (D := D) (ci := 4) (v := .ref (q 5)) (C := RX4) (T := TX4) (N := 15) hx hb hts uX4_feed_X4 hown hK hP 0 rfl rfl 5 (by decide) (hts _ kX4_feed_2) (fun _ h9 => h9) rfl dX4_feed_44 ?_
            refine lv_aload_n hx hb dX4_feed_47 rfl (lv_at hl 0 rfl) ?_
            refine va_get (D := D) (ci := 4) (v := .int (F 0 1)) (C := RX4) (T := TX4) (N := 15) hx hb hts uX4_feed_X4 hown hK hP 0 rfl rfl 6 (by decide) (hts _ kX4_feed_1) (fun _ h9 => h9) rfl dX4_feed_48 ?_
            refine lv_iload_n hx hb dX4_feed_51 rfl (lv_at hl 1 rfl) ?_
            refine lv_bipush (v := 8) hx hb dX4_feed_52 (by decide) ?_
            refine lv_iload_n hx hb dX4_feed_54 rfl (lv_at hl 2 rfl) ?_
            refine lv_imul hx hb dX4_feed_55 ?_
            refine lv_ishr hx hb dX4_feed_56 ?_
            refine lv_sipush (v := 255) hx hb dX4_feed_57 (by decide) ?_
            refine lv_iand hx hb dX4_feed_60 ?_
            obtain ⟨z_10, h⟩ := q_grd_ok h
            obtain ⟨F_11, eF_11, h⟩ := q_let_ok h
            refine va_iast hx hb hK hP hD hS 5 0 rfl rfl z_10 dX4_feed_61 (fun H locs hP hD hS => ?_)
            have hP : va_P D vwCl (wM y q F_11 G) H := by rw [eF_11]; exact hP
            have hD : va_D A (wM y q F_11 G) := by rw [eF_11]; exact hD
            refine lv_aload_n hx hb dX4_feed_62 rfl (lv_at hl 0 rfl) ?_
            refine lv_dup hx hb dX4_feed_63 rfl ?_
            refine va_get (D := D) (ci := 4) (v := .int (F_11 0 1)) (C := RX4) (T := TX4) (N := 15) hx hb hts uX4_feed_X4 hown hK hP 0 rfl rfl 6 (by decide) (hts _ kX4_feed_1) (fun _ h9 => h9) rfl dX4_feed_64 ?_
            refine lv_iconst (v := 1) hx hb dX4_feed_67 (by decide) ?_
            refine lv_iadd hx hb dX4_feed_68 ?_
            obtain ⟨F_12, eF_12, h⟩ := q_let_ok h
            refine va_put (D := D) (ci := 4) (v := .int ((F_11 0 1) + (1 : Int32))) (ty := .int) (C := RX4) (T := TX4) (N := 15) hx hb hts uX4_feed_X4 tyX4 tyX4_ok nmX4 hown hK hP hD hS 0 rfl rfl 6 (by decide) (hts _ kX4_feed_1) (fun _ h9 => h9) rfl (by decide +kernel) rfl rfl (Nat.le_of_ble_eq_true rfl) dX4_feed_69 (fun H locs hP hD hS => ?_)
            have hP : va_P D vwCl (wM y q F_12 G) H := by rw [eF_12]; exact hP
            have hD : va_D A (wM y q F_12 G) := by rw [eF_12]; exact hD
            obtain ⟨x_13, ex_13, h⟩ := q_let_ok h
            refine lv_iinc (v := x_13) (lv' := [(3, .int x_13), (0, .ref (q 0)), (1, .int v1)]) hx hb dX4_feed_72 hl (k := 2) rfl (by rw [ex_13]; rfl) (by decide) rfl (fun ls hl => ?_)
            refine lv_goto (tgt := 39) hx hb dX4_feed_75 (by decide) ?_
            exact ih39_6 x_13 F_12 K39_6 _ _ _ hP hD hS (lv_sub hl [1, 2, 0] rfl) h
      exact L39_6 G p1 N x_5 F K39_6 _ _ _ hP hD hS (lv_sub hl [1, 2, 0] rfl) hL6
    · have h := q_f c_4 h
      refine lv_aload_n hx hb dX4_feed_28 rfl (lv_at hl 0 rfl) ?_
      refine lv_ldc (v := -1000000002) hx hb hown (hts _ kX4_feed_3) dX4_feed_29 ?_
      obtain ⟨r_14, F_15, hc_16, h⟩ := q_bd2_ok h
      refine q_ci (r := r_14) (va_runV (As := [.int (-1000000002 : Int32)]) (rest := []) ⟨hx, hb, hml, hown, hts⟩ (c_X4_finds l D y t q _ N F G (-1000000002 : Int32) (r_14, F_15) hc_16) (cwV 1 hts gX4_feed_X4_finds rfl rfl rfl eX4_finds ⟨Nat.le_of_ble_eq_true rfl, Nat.le_of_ble_eq_true rfl⟩) ⟨q_blind, (va_recv hK hP (ci := 4) (q0 := 0) rfl rfl), (q_pre hP hK hZ hD hA hS [0, 1, 2, 3, 4, 5, 6, 7, 8] rfl (by decide))⟩ rfl rfl hl.1 rfl (lv_room (Nat.le_of_ble_eq_true rfl)) dX4_feed_31 ⟨Nat.zero_le _, Nat.zero_le _⟩) hP hD hA hS [0, 1, 2, 3, 4, 5, 6, 7, 8] rfl (by decide) rfl (fun H locs hP hD hS => ?_)
      have hP : va_P D vwCl (wM y q F_15 G) H := hP
      have hD : va_D A (wM y q F_15 G) := hD
      have e9 := Option.some.inj h
      exact q_iret hx hb hr hlocks hK hP hD hS dX4_feed_34 (by first | rw [← e9] | rfl) (by first | rw [← e9] | rfl)
  · have h := q_t c_3 h
    refine lv_aload_n hx hb dX4_feed_10 rfl (lv_at hl 0 rfl) ?_
    refine lv_ldc (v := -1000000001) hx hb hown (hts _ kX4_feed_4) dX4_feed_11 ?_
    obtain ⟨r_17, F_18, hc_19, h⟩ := q_bd2_ok h
    refine q_ci (r := r_17) (va_runV (As := [.int (-1000000001 : Int32)]) (rest := []) ⟨hx, hb, hml, hown, hts⟩ (c_X4_finds l D y t q _ N F G (-1000000001 : Int32) (r_17, F_18) hc_19) (cwV 1 hts gX4_feed_X4_finds rfl rfl rfl eX4_finds ⟨Nat.le_of_ble_eq_true rfl, Nat.le_of_ble_eq_true rfl⟩) ⟨q_blind, (va_recv hK hP (ci := 4) (q0 := 0) rfl rfl), (q_pre hP hK hZ hD hA hS [0, 1, 2, 3, 4, 5, 6, 7, 8] rfl (by decide))⟩ rfl rfl hl.1 rfl (lv_room (Nat.le_of_ble_eq_true rfl)) dX4_feed_13 ⟨Nat.zero_le _, Nat.zero_le _⟩) hP hD hA hS [0, 1, 2, 3, 4, 5, 6, 7, 8] rfl (by decide) rfl (fun H locs hP hD hS => ?_)
    have hP : va_P D vwCl (wM y q F_18 G) H := hP
    have hD : va_D A (wM y q F_18 G) := hD
    have e9 := Option.some.inj h
    exact q_iret hx hb hr hlocks hK hP hD hS dX4_feed_16 (by first | rw [← e9] | rfl) (by first | rw [← e9] | rfl)
theorem eX4_feed : yX4_feed.cls = RX4 ∧ yX4_feed.cls ≠ "java/lang/invoke/MethodHandle" ∧ yX4_feed.cls ≠ "java/lang/invoke/VarHandle" ∧ (parseMethodDescriptor yX4_feed.desc).map (fun d => d.parameters.length) = some 2 := by decide +kernel
theorem uX4_wipe_X4 : ∀ w ∈ u_ws RX4 TX4 15, w ∈ wsX4_wipe := by decide +kernel
theorem kX4_wipe_1 : Cond.fieldLink RX4 159 "BeamSeatsModel" "taped" "I" ∈ wsX4_wipe := List.mem_of_getElem? (i := 1) (by decide +kernel)
def f_X4_wipe (N : Nat) (F : Nat → Nat → Int32) (G : Nat → Int64) : Option (Int32 × (Nat → Nat → Int32)) :=
  q_let (F 0 1) (fun x_1 =>
  q_let (q_up F 0 1 (0 : Int32)) (fun F_2 =>
  some (x_1, F_2)))
set_option maxHeartbeats 4000000 in
set_option maxRecDepth 100000 in
theorem c_X4_wipe (l : Launch) (D : va_G) (y : Nat → ClassId) (t : Nat → Nat) (q : Nat → Nat) (sz N : Nat) (F : Nat → Nat → Int32) (G : Nat → Int64) (res : Int32 × (Nat → Nat → Int32)) (h : f_X4_wipe N F G = some res) : Met l yX4_wipe wsX4_wipe ({ frames := 0, cells := 0, slots := 0, locals := 0 } : Room) (pPre D y t [.ref (q 0)] (wM y q F G) sz) (pQi D y (res.1) (wM y q (res.2) G) (va_A (wM y q F G) sz)) 0 0 (va_A (wM y q F G) sz) := by
  refine q_start (Qc := (fun A => pQi D y (res.1) (wM y q (res.2) G) A)) (cc := cX4_wipe) (maxL := 2) (ret := (some .int)) (by decide) rfl (Nat.le_of_ble_eq_true rfl) ?_
  intro p e s m below meth c A ls hx hb hr hts hown hlocks hmn hml hP hK hZ hD hA hS hl
  have hl : lv_has ls 2 [(0, .ref (q 0))] := hl
  have hown : s.vm.findClass RX4 = some m.cls := hown
  unfold f_X4_wipe at h
  refine lv_aload_n hx hb dX4_wipe_0 rfl (lv_at hl 0 rfl) ?_
  refine va_get (D := D) (ci := 4) (v := .int (F 0 1)) (C := RX4) (T := TX4) (N := 15) hx hb hts uX4_wipe_X4 hown hK hP 0 rfl rfl 6 (by decide) (hts _ kX4_wipe_1) (fun _ h9 => h9) rfl dX4_wipe_1 ?_
  refine lv_topi (fun x_1 ex_1 => ?_)
  have h := q_let_at ex_1 h
  refine lv_istore_n (lv' := [(1, .int x_1), (0, .ref (q 0))]) hx hb dX4_wipe_4 rfl hl (by decide) rfl (fun ls hl => ?_)
  refine lv_aload_n hx hb dX4_wipe_5 rfl (lv_at hl 1 rfl) ?_
  refine lv_iconst (v := 0) hx hb dX4_wipe_6 (by decide) ?_
  obtain ⟨F_2, eF_2, h⟩ := q_let_ok h
  refine va_put (D := D) (ci := 4) (v := .int (0 : Int32)) (ty := .int) (C := RX4) (T := TX4) (N := 15) hx hb hts uX4_wipe_X4 tyX4 tyX4_ok nmX4 hown hK hP hD hS 0 rfl rfl 6 (by decide) (hts _ kX4_wipe_1) (fun _ h9 => h9) rfl (by decide +kernel) rfl rfl (Nat.le_of_ble_eq_true rfl) dX4_wipe_7 (fun H locs hP hD hS => ?_)
  have hP : va_P D vwCl (wM y q F_2 G) H := by rw [eF_2]; exact hP
  have hD : va_D A (wM y q F_2 G) := by rw [eF_2]; exact hD
  refine lv_iload_n hx hb dX4_wipe_10 rfl (lv_at hl 0 rfl) ?_
  have e9 := Option.some.inj h
  exact q_iret hx hb hr hlocks hK hP hD hS dX4_wipe_11 (by first | rw [← e9] | rfl) (by first | rw [← e9] | rfl)
theorem eX4_wipe : yX4_wipe.cls = RX4 ∧ yX4_wipe.cls ≠ "java/lang/invoke/MethodHandle" ∧ yX4_wipe.cls ≠ "java/lang/invoke/VarHandle" ∧ (parseMethodDescriptor yX4_wipe.desc).map (fun d => d.parameters.length) = some 0 := by decide +kernel
theorem uX4_isByte_X4 : ∀ w ∈ u_ws RX4 TX4 15, w ∈ wsX4_isByte := by decide +kernel
theorem kX4_isByte_1 : Cond.fieldLink RX4 22 "BeamSeatsModel" "tape" "[I" ∈ wsX4_isByte := List.mem_of_getElem? (i := 2) (by decide +kernel)
theorem kX4_isByte_2 : Cond.fieldLink RX4 159 "BeamSeatsModel" "taped" "I" ∈ wsX4_isByte := List.mem_of_getElem? (i := 1) (by decide +kernel)
def f_X4_isByte (N : Nat) (F : Nat → Nat → Int32) (G : Nat → Int64) (p1 : Int32) (p2 : Int32) (p3 : Int32) : Option (Int32) :=
  if (F 0 1) ≤ p1 then
    some (0 : Int32)
  else
    q_grd p1 120 (
    q_bd (f_X4_in N ((F 5 p1.toNatClampNeg).toInt64) p2 p3) (fun r_3 =>
    if r_3 = 0 then
      some (0 : Int32)
    else
      some (1 : Int32)))
set_option maxHeartbeats 4000000 in
set_option maxRecDepth 100000 in
theorem c_X4_isByte (l : Launch) (D : va_G) (y : Nat → ClassId) (t : Nat → Nat) (q : Nat → Nat) (sz N : Nat) (F : Nat → Nat → Int32) (G : Nat → Int64) (p1 : Int32) (p2 : Int32) (p3 : Int32) (res : Int32) (h : f_X4_isByte N F G p1 p2 p3 = some res) : Met l yX4_isByte wsX4_isByte ({ frames := 1, cells := 0, slots := 0, locals := 23 } : Room) (pPre D y t [.ref (q 0), .int p1, .int p2, .int p3] (wM y q F G) sz) (pQi D y res (wM y q F G) (va_A (wM y q F G) sz)) 0 0 (va_A (wM y q F G) sz) := by
  refine q_start (Qc := (fun A => pQi D y res (wM y q F G) A)) (cc := cX4_isByte) (maxL := 4) (ret := (some .boolean)) (by decide) rfl (Nat.le_of_ble_eq_true rfl) ?_
  intro p e s m below meth c A ls hx hb hr hts hown hlocks hmn hml hP hK hZ hD hA hS hl
  have hl : lv_has ls 4 [(0, .ref (q 0)), (1, .int p1), (2, .int p2), (3, .int p3)] := hl
  have hown : s.vm.findClass RX4 = some m.cls := hown
  unfold f_X4_isByte at h
  refine lv_iload_n hx hb dX4_isByte_0 rfl (lv_at hl 1 rfl) ?_
  refine lv_aload_n hx hb dX4_isByte_1 rfl (lv_at hl 0 rfl) ?_
  refine va_get (D := D) (ci := 4) (v := .int (F 0 1)) (C := RX4) (T := TX4) (N := 15) hx hb hts uX4_isByte_X4 hown hK hP 0 rfl rfl 6 (by decide) (hts _ kX4_isByte_2) (fun _ h9 => h9) rfl dX4_isByte_2 ?_
  refine lv_icmp_ge (tgt := 27) hx hb dX4_isByte_5 (by decide) (fun c_1 => ?_) (fun c_1 => ?_)
  · have h := q_t c_1 h
    refine lv_iconst (v := 0) hx hb dX4_isByte_27 (by decide) ?_
    have e9 := Option.some.inj h
    exact q_zret hx hb hr hlocks hK hP hD hS dX4_isByte_28 rfl (by first | rw [← e9] | rfl) (by first | rw [← e9] | rfl)
  · have h := q_f c_1 h
    refine lv_aload_n hx hb dX4_isByte_8 rfl (lv_at hl 0 rfl) ?_
    refine va_get (D := D) (ci := 4) (v := .ref (q 5)) (C := RX4) (T := TX4) (N := 15) hx hb hts uX4_isByte_X4 hown hK hP 0 rfl rfl 5 (by decide) (hts _ kX4_isByte_1) (fun _ h9 => h9) rfl dX4_isByte_9 ?_
    refine lv_iload_n hx hb dX4_isByte_12 rfl (lv_at hl 1 rfl) ?_
    obtain ⟨z_2, h⟩ := q_grd_ok h
    refine va_iald hx hb hK hP 5 0 rfl rfl z_2 dX4_isByte_13 ?_
    refine lv_i2l hx hb dX4_isByte_14 rfl ?_
    refine lv_iload_n hx hb dX4_isByte_15 rfl (lv_at hl 2 rfl) ?_
    refine lv_iload_n hx hb dX4_isByte_16 rfl (lv_at hl 3 rfl) ?_
    obtain ⟨r_3, hc_4, h⟩ := q_bd_ok h
    refine q_ci (r := r_3) (va_runS (As := [.long ((F 5 p1.toNatClampNeg).toInt64), .int p2, .int p3]) (rest := []) ⟨hx, hb, hml, hown, hts⟩ (c_X4_in l D y t q _ N ((F 5 p1.toNatClampNeg).toInt64) p2 p3 r_3 hc_4) (va_cwS 3 hts gX4_isByte_X4_in rfl rfl rfl eX4_in ⟨Nat.le_of_ble_eq_true rfl, Nat.le_of_ble_eq_true rfl⟩) ⟨q_blind, (q_pre hP hK hZ hD hA hS [] rfl (by decide))⟩ rfl rfl hl.1 rfl (lv_room (Nat.le_of_ble_eq_true rfl)) dX4_isByte_17 ⟨Nat.zero_le _, Nat.zero_le _⟩) hP hD hA hS [] rfl (by decide) rfl (fun H locs hP hD hS => ?_)
    have hP : va_P D vwCl (wM y q F G) H := hP
    have hD : va_D A (wM y q F G) := hD
    refine lv_if_eq (tgt := 27) hx hb dX4_isByte_20 (by decide) (fun c_5 => ?_) (fun c_5 => ?_)
    · have h := q_t c_5 h
      refine lv_iconst (v := 0) hx hb dX4_isByte_27 (by decide) ?_
      have e9 := Option.some.inj h
      exact q_zret hx hb hr hlocks hK hP hD hS dX4_isByte_28 rfl (by first | rw [← e9] | rfl) (by first | rw [← e9] | rfl)
    · have h := q_f c_5 h
      refine lv_iconst (v := 1) hx hb dX4_isByte_23 (by decide) ?_
      refine lv_goto (tgt := 28) hx hb dX4_isByte_24 (by decide) ?_
      have e9 := Option.some.inj h
      exact q_zret hx hb hr hlocks hK hP hD hS dX4_isByte_28 rfl (by first | rw [← e9] | rfl) (by first | rw [← e9] | rfl)
theorem eX4_isByte : yX4_isByte.cls = RX4 ∧ yX4_isByte.cls ≠ "java/lang/invoke/MethodHandle" ∧ yX4_isByte.cls ≠ "java/lang/invoke/VarHandle" ∧ (parseMethodDescriptor yX4_isByte.desc).map (fun d => d.parameters.length) = some 3 := by decide +kernel
theorem uX4_isName_X4 : ∀ w ∈ u_ws RX4 TX4 15, w ∈ wsX4_isName := by decide +kernel
theorem kX4_isName_1 : Cond.fieldLink RX4 166 "BeamSeatsModel" "begin" "I" ∈ wsX4_isName := List.mem_of_getElem? (i := 3) (by decide +kernel)
theorem kX4_isName_2 : Cond.fieldLink RX4 22 "BeamSeatsModel" "tape" "[I" ∈ wsX4_isName := List.mem_of_getElem? (i := 2) (by decide +kernel)
theorem kX4_isName_3 : Cond.fieldLink RX4 163 "BeamSeatsModel" "NAMES" "[I" ∈ wsX4_isName := List.mem_of_getElem? (i := 1) (by decide +kernel)
def f_X4_isName_L34 (N : Nat) (F : Nat → Nat → Int32) (G : Nat → Int64) (v1 : Int32) (v2 : Int32) : Nat → Int32 → Int32 → Option (Int32 × Int32)
  | 0, _, _ => none
  | k + 1, v3, v4 =>
    if v2 ≤ v4 then
      some (v3, v4)
    else
      if v3 = 0 then
        some (v3, v4)
      else
        q_grd (((7 : Int32) * v1) + v4) 84 (
        q_grd ((F 0 3) + v4) 120 (
        if (nms (((7 : Int32) * v1) + v4).toNatClampNeg) = (F 5 ((F 0 3) + v4).toNatClampNeg) then
          q_let (v4 + 1) (fun x_11 =>
          f_X4_isName_L34 N F G v1 v2 k (1 : Int32) x_11)
        else
          q_let (v4 + 1) (fun x_10 =>
          f_X4_isName_L34 N F G v1 v2 k (0 : Int32) x_10)))
def f_X4_isName (N : Nat) (F : Nat → Nat → Int32) (G : Nat → Int64) (p1 : Int32) (p2 : Int32) : Option (Int32) :=
  if (7 : Int32) < p2 then
    q_bd2 (f_X4_isName_L34 N F G p1 p2 N (0 : Int32) (0 : Int32)) (fun x_3 x_4 =>
    q_gb x_3 (some x_3))
  else
    if p2 = (7 : Int32) then
      q_bd2 (f_X4_isName_L34 N F G p1 p2 N (1 : Int32) (0 : Int32)) (fun x_14 x_15 =>
      q_gb x_14 (some x_14))
    else
      q_grd (((7 : Int32) * p1) + p2) 84 (
      if (nms (((7 : Int32) * p1) + p2).toNatClampNeg) = 0 then
        q_bd2 (f_X4_isName_L34 N F G p1 p2 N (1 : Int32) (0 : Int32)) (fun x_36 x_37 =>
        q_gb x_36 (some x_36))
      else
        q_bd2 (f_X4_isName_L34 N F G p1 p2 N (0 : Int32) (0 : Int32)) (fun x_26 x_27 =>
        q_gb x_26 (some x_26)))
set_option maxHeartbeats 4000000 in
set_option maxRecDepth 100000 in
theorem c_X4_isName (l : Launch) (D : va_G) (y : Nat → ClassId) (t : Nat → Nat) (q : Nat → Nat) (sz N : Nat) (F : Nat → Nat → Int32) (G : Nat → Int64) (p1 : Int32) (p2 : Int32) (res : Int32) (h : f_X4_isName N F G p1 p2 = some res) : Met l yX4_isName wsX4_isName ({ frames := 0, cells := 0, slots := 0, locals := 0 } : Room) (pPre D y t [.ref (q 0), .int p1, .int p2] (wM y q F G) sz) (pQi D y res (wM y q F G) (va_A (wM y q F G) sz)) 0 0 (va_A (wM y q F G) sz) := by
  refine q_start (Qc := (fun A => pQi D y res (wM y q F G) A)) (cc := cX4_isName) (maxL := 5) (ret := (some .boolean)) (by decide) rfl (Nat.le_of_ble_eq_true rfl) ?_
  intro p e s m below meth c A ls hx hb hr hts hown hlocks hmn hml hP hK hZ hD hA hS hl
  have hl : lv_has ls 5 [(0, .ref (q 0)), (1, .int p1), (2, .int p2)] := hl
  have hown : s.vm.findClass RX4 = some m.cls := hown
  unfold f_X4_isName at h
  refine lv_iload_n hx hb dX4_isName_0 rfl (lv_at hl 2 rfl) ?_
  refine lv_bipush (v := 7) hx hb dX4_isName_1 (by decide) ?_
  refine lv_icmp_gt (tgt := 29) hx hb dX4_isName_3 (by decide) (fun c_1 => ?_) (fun c_1 => ?_)
  · have h := q_t c_1 h
    refine lv_iconst (v := 0) hx hb dX4_isName_29 (by decide) ?_
    refine lv_istore_n (lv' := [(3, .int (0 : Int32)), (0, .ref (q 0)), (1, .int p1), (2, .int p2)]) hx hb dX4_isName_30 rfl hl (by decide) rfl (fun ls hl => ?_)
    refine lv_iconst (v := 0) hx hb dX4_isName_31 (by decide) ?_
    refine lv_istore (lv' := [(4, .int (0 : Int32)), (3, .int (0 : Int32)), (0, .ref (q 0)), (1, .int p1), (2, .int p2)]) hx hb dX4_isName_32 hl (by decide) rfl (fun ls hl => ?_)
    obtain ⟨x_3, x_4, hL2, h⟩ := q_bd2_ok h
    have K34_2 : ∀ (H : Heap) (locs : List Loc) (ls : Array Slot), va_P D vwCl (wM y q F G) H → va_D A (wM y q F G) → va_S A s.heap H locs → lv_has ls 5 [(0, .ref (q 0)), (1, .int p1), (2, .int p2), (3, .int x_3), (4, .int x_4)] → W p l e ({ frames := 0, cells := 0, slots := 0, locals := 0 } : Room) s m ([.ref (q 0), .int p1, .int p2] : List Value).toArray below meth c H locs 0 0 (MQ below (pQi D y res (wM y q F G) A) ([.ref (q 0), .int p1, .int p2] : List Value).toArray s 0 0 A) (F0 m 82 ls []) := by
      intro H locs ls hP hD hS hl
      refine lv_iload_n hx hb dX4_isName_82 rfl (lv_at hl 3 rfl) ?_
      obtain ⟨hg9, h⟩ := q_gb_ok h
      have e9 := Option.some.inj h
      exact q_zret hx hb hr hlocks hK hP hD hS dX4_isName_83 (q_gb_nar hg9) (by first | rw [← e9] | rfl) (by first | rw [← e9] | rfl)
    have L34_2 : ∀ (F : Nat → Nat → Int32) (G : Nat → Int64) (v1 : Int32) (v2 : Int32) (k : Nat) (v3 : Int32) (v4 : Int32), (∀ (H : Heap) (locs : List Loc) (ls : Array Slot), va_P D vwCl (wM y q F G) H → va_D A (wM y q F G) → va_S A s.heap H locs → lv_has ls 5 [(0, .ref (q 0)), (1, .int v1), (2, .int v2), (3, .int x_3), (4, .int x_4)] → W p l e ({ frames := 0, cells := 0, slots := 0, locals := 0 } : Room) s m ([.ref (q 0), .int p1, .int p2] : List Value).toArray below meth c H locs 0 0 (MQ below (pQi D y res (wM y q F G) A) ([.ref (q 0), .int p1, .int p2] : List Value).toArray s 0 0 A) (F0 m 82 ls [])) → ∀ (H : Heap) (locs : List Loc) (ls : Array Slot), va_P D vwCl (wM y q F G) H → va_D A (wM y q F G) → va_S A s.heap H locs → lv_has ls 5 [(0, .ref (q 0)), (1, .int v1), (2, .int v2), (3, .int v3), (4, .int v4)] → f_X4_isName_L34 N F G v1 v2 k v3 v4 = some (x_3, x_4) → W p l e ({ frames := 0, cells := 0, slots := 0, locals := 0 } : Room) s m ([.ref (q 0), .int p1, .int p2] : List Value).toArray below meth c H locs 0 0 (MQ below (pQi D y res (wM y q F G) A) ([.ref (q 0), .int p1, .int p2] : List Value).toArray s 0 0 A) (F0 m 34 ls []) := by
      intro F G v1 v2 k
      induction k with
      | zero =>
        intro v3 v4 K34_2 H locs ls hP hD hS hl h
        have h : (none : Option (Int32 × Int32)) = some _ := h
        cases h
      | succ k ih34_2 =>
        intro v3 v4 K34_2 H locs ls hP hD hS hl h
        rw [f_X4_isName_L34] at h
        refine lv_iload hx hb dX4_isName_34 (lv_at hl 4 rfl) ?_
        refine lv_iload_n hx hb dX4_isName_36 rfl (lv_at hl 2 rfl) ?_
        refine lv_icmp_ge (tgt := 82) hx hb dX4_isName_37 (by decide) (fun c_5 => ?_) (fun c_5 => ?_)
        · have h := q_t c_5 h
          cases h
          exact K34_2 _ _ _ hP hD hS (lv_sub hl [0, 1, 2, 3, 4] rfl)
        · have h := q_f c_5 h
          refine lv_iload_n hx hb dX4_isName_40 rfl (lv_at hl 3 rfl) ?_
          refine lv_if_eq (tgt := 82) hx hb dX4_isName_41 (by decide) (fun c_6 => ?_) (fun c_6 => ?_)
          · have h := q_t c_6 h
            cases h
            exact K34_2 _ _ _ hP hD hS (lv_sub hl [0, 1, 2, 3, 4] rfl)
          · have h := q_f c_6 h
            refine va_gets (C := "BeamSeatsModel") (n := "NAMES") (d := "[I") (v := .ref (t 1)) hx hb hZ.2.1.1 hS hown (hts _ kX4_isName_3) (fun _ h9 => h9) dX4_isName_44 ?_
            refine lv_bipush (v := 7) hx hb dX4_isName_47 (by decide) ?_
            refine lv_iload_n hx hb dX4_isName_49 rfl (lv_at hl 1 rfl) ?_
            refine lv_imul hx hb dX4_isName_50 ?_
            refine lv_iload hx hb dX4_isName_51 (lv_at hl 4 rfl) ?_
            refine lv_iadd hx hb dX4_isName_53 ?_
            obtain ⟨z_7, h⟩ := q_grd_ok h
            refine va_ti (v := .int (nms (((7 : Int32) * v1) + v4).toNatClampNeg)) hx hb hZ.2.1.2 hS z_7 rfl dX4_isName_54 ?_
            refine lv_aload_n hx hb dX4_isName_55 rfl (lv_at hl 0 rfl) ?_
            refine va_get (D := D) (ci := 4) (v := .ref (q 5)) (C := RX4) (T := TX4) (N := 15) hx hb hts uX4_isName_X4 hown hK hP 0 rfl rfl 5 (by decide) (hts _ kX4_isName_2) (fun _ h9 => h9) rfl dX4_isName_56 ?_
            refine lv_aload_n hx hb dX4_isName_59 rfl (lv_at hl 0 rfl) ?_
            refine va_get (D := D) (ci := 4) (v := .int (F 0 3)) (C := RX4) (T := TX4) (N := 15) hx hb hts uX4_isName_X4 hown hK hP 0 rfl rfl 8 (by decide) (hts _ kX4_isName_1) (fun _ h9 => h9) rfl dX4_isName_60 ?_
            refine lv_iload hx hb dX4_isName_63 (lv_at hl 4 rfl) ?_
            refine lv_iadd hx hb dX4_isName_65 ?_
            obtain ⟨z_8, h⟩ := q_grd_ok h
            refine va_iald hx hb hK hP 5 0 rfl rfl z_8 dX4_isName_66 ?_
            refine lv_icmp_ne (tgt := 74) hx hb dX4_isName_67 (by decide) (fun c_9 => ?_) (fun c_9 => ?_)
            · have h := q_f c_9 h
              refine lv_iconst (v := 0) hx hb dX4_isName_74 (by decide) ?_
              refine lv_istore_n (lv' := [(3, .int (0 : Int32)), (0, .ref (q 0)), (1, .int v1), (2, .int v2), (4, .int v4)]) hx hb dX4_isName_75 rfl hl (by decide) rfl (fun ls hl => ?_)
              obtain ⟨x_10, ex_10, h⟩ := q_let_ok h
              refine lv_iinc (v := x_10) (lv' := [(4, .int x_10), (3, .int (0 : Int32)), (0, .ref (q 0)), (1, .int v1), (2, .int v2)]) hx hb dX4_isName_76 hl (k := 4) rfl (by rw [ex_10]; rfl) (by decide) rfl (fun ls hl => ?_)
              refine lv_goto (tgt := 34) hx hb dX4_isName_79 (by decide) ?_
              exact ih34_2 (0 : Int32) x_10 K34_2 _ _ _ hP hD hS (lv_sub hl [2, 3, 4, 1, 0] rfl) h
            · have h := q_t c_9 h
              refine lv_iconst (v := 1) hx hb dX4_isName_70 (by decide) ?_
              refine lv_goto (tgt := 75) hx hb dX4_isName_71 (by decide) ?_
              refine lv_istore_n (lv' := [(3, .int (1 : Int32)), (0, .ref (q 0)), (1, .int v1), (2, .int v2), (4, .int v4)]) hx hb dX4_isName_75 rfl hl (by decide) rfl (fun ls hl => ?_)
              obtain ⟨x_11, ex_11, h⟩ := q_let_ok h
              refine lv_iinc (v := x_11) (lv' := [(4, .int x_11), (3, .int (1 : Int32)), (0, .ref (q 0)), (1, .int v1), (2, .int v2)]) hx hb dX4_isName_76 hl (k := 4) rfl (by rw [ex_11]; rfl) (by decide) rfl (fun ls hl => ?_)
              refine lv_goto (tgt := 34) hx hb dX4_isName_79 (by decide) ?_
              exact ih34_2 (1 : Int32) x_11 K34_2 _ _ _ hP hD hS (lv_sub hl [2, 3, 4, 1, 0] rfl) h
    exact L34_2 F G p1 p2 N (0 : Int32) (0 : Int32) K34_2 _ _ _ hP hD hS (lv_sub hl [2, 3, 4, 1, 0] rfl) hL2
  · have h := q_f c_1 h
    refine lv_iload_n hx hb dX4_isName_6 rfl (lv_at hl 2 rfl) ?_
    refine lv_bipush (v := 7) hx hb dX4_isName_7 (by decide) ?_
    refine lv_icmp_eq (tgt := 25) hx hb dX4_isName_9 (by decide) (fun c_12 => ?_) (fun c_12 => ?_)
    · have h := q_t c_12 h
      refine lv_iconst (v := 1) hx hb dX4_isName_25 (by decide) ?_
      refine lv_goto (tgt := 30) hx hb dX4_isName_26 (by decide) ?_
      refine lv_istore_n (lv' := [(3, .int (1 : Int32)), (0, .ref (q 0)), (1, .int p1), (2, .int p2)]) hx hb dX4_isName_30 rfl hl (by decide) rfl (fun ls hl => ?_)
      refine lv_iconst (v := 0) hx hb dX4_isName_31 (by decide) ?_
      refine lv_istore (lv' := [(4, .int (0 : Int32)), (3, .int (1 : Int32)), (0, .ref (q 0)), (1, .int p1), (2, .int p2)]) hx hb dX4_isName_32 hl (by decide) rfl (fun ls hl => ?_)
      obtain ⟨x_14, x_15, hL13, h⟩ := q_bd2_ok h
      have K34_13 : ∀ (H : Heap) (locs : List Loc) (ls : Array Slot), va_P D vwCl (wM y q F G) H → va_D A (wM y q F G) → va_S A s.heap H locs → lv_has ls 5 [(0, .ref (q 0)), (1, .int p1), (2, .int p2), (3, .int x_14), (4, .int x_15)] → W p l e ({ frames := 0, cells := 0, slots := 0, locals := 0 } : Room) s m ([.ref (q 0), .int p1, .int p2] : List Value).toArray below meth c H locs 0 0 (MQ below (pQi D y res (wM y q F G) A) ([.ref (q 0), .int p1, .int p2] : List Value).toArray s 0 0 A) (F0 m 82 ls []) := by
        intro H locs ls hP hD hS hl
        refine lv_iload_n hx hb dX4_isName_82 rfl (lv_at hl 3 rfl) ?_
        obtain ⟨hg9, h⟩ := q_gb_ok h
        have e9 := Option.some.inj h
        exact q_zret hx hb hr hlocks hK hP hD hS dX4_isName_83 (q_gb_nar hg9) (by first | rw [← e9] | rfl) (by first | rw [← e9] | rfl)
      have L34_13 : ∀ (F : Nat → Nat → Int32) (G : Nat → Int64) (v1 : Int32) (v2 : Int32) (k : Nat) (v3 : Int32) (v4 : Int32), (∀ (H : Heap) (locs : List Loc) (ls : Array Slot), va_P D vwCl (wM y q F G) H → va_D A (wM y q F G) → va_S A s.heap H locs → lv_has ls 5 [(0, .ref (q 0)), (1, .int v1), (2, .int v2), (3, .int x_14), (4, .int x_15)] → W p l e ({ frames := 0, cells := 0, slots := 0, locals := 0 } : Room) s m ([.ref (q 0), .int p1, .int p2] : List Value).toArray below meth c H locs 0 0 (MQ below (pQi D y res (wM y q F G) A) ([.ref (q 0), .int p1, .int p2] : List Value).toArray s 0 0 A) (F0 m 82 ls [])) → ∀ (H : Heap) (locs : List Loc) (ls : Array Slot), va_P D vwCl (wM y q F G) H → va_D A (wM y q F G) → va_S A s.heap H locs → lv_has ls 5 [(0, .ref (q 0)), (1, .int v1), (2, .int v2), (3, .int v3), (4, .int v4)] → f_X4_isName_L34 N F G v1 v2 k v3 v4 = some (x_14, x_15) → W p l e ({ frames := 0, cells := 0, slots := 0, locals := 0 } : Room) s m ([.ref (q 0), .int p1, .int p2] : List Value).toArray below meth c H locs 0 0 (MQ below (pQi D y res (wM y q F G) A) ([.ref (q 0), .int p1, .int p2] : List Value).toArray s 0 0 A) (F0 m 34 ls []) := by
        intro F G v1 v2 k
        induction k with
        | zero =>
          intro v3 v4 K34_13 H locs ls hP hD hS hl h
          have h : (none : Option (Int32 × Int32)) = some _ := h
          cases h
        | succ k ih34_13 =>
          intro v3 v4 K34_13 H locs ls hP hD hS hl h
          rw [f_X4_isName_L34] at h
          refine lv_iload hx hb dX4_isName_34 (lv_at hl 4 rfl) ?_
          refine lv_iload_n hx hb dX4_isName_36 rfl (lv_at hl 2 rfl) ?_
          refine lv_icmp_ge (tgt := 82) hx hb dX4_isName_37 (by decide) (fun c_16 => ?_) (fun c_16 => ?_)
          · have h := q_t c_16 h
            cases h
            exact K34_13 _ _ _ hP hD hS (lv_sub hl [0, 1, 2, 3, 4] rfl)
          · have h := q_f c_16 h
            refine lv_iload_n hx hb dX4_isName_40 rfl (lv_at hl 3 rfl) ?_
            refine lv_if_eq (tgt := 82) hx hb dX4_isName_41 (by decide) (fun c_17 => ?_) (fun c_17 => ?_)
            · have h := q_t c_17 h
              cases h
              exact K34_13 _ _ _ hP hD hS (lv_sub hl [0, 1, 2, 3, 4] rfl)
            · have h := q_f c_17 h
              refine va_gets (C := "BeamSeatsModel") (n := "NAMES") (d := "[I") (v := .ref (t 1)) hx hb hZ.2.1.1 hS hown (hts _ kX4_isName_3) (fun _ h9 => h9) dX4_isName_44 ?_
              refine lv_bipush (v := 7) hx hb dX4_isName_47 (by decide) ?_
              refine lv_iload_n hx hb dX4_isName_49 rfl (lv_at hl 1 rfl) ?_
              refine lv_imul hx hb dX4_isName_50 ?_
              refine lv_iload hx hb dX4_isName_51 (lv_at hl 4 rfl) ?_
              refine lv_iadd hx hb dX4_isName_53 ?_
              obtain ⟨z_18, h⟩ := q_grd_ok h
              refine va_ti (v := .int (nms (((7 : Int32) * v1) + v4).toNatClampNeg)) hx hb hZ.2.1.2 hS z_18 rfl dX4_isName_54 ?_
              refine lv_aload_n hx hb dX4_isName_55 rfl (lv_at hl 0 rfl) ?_
              refine va_get (D := D) (ci := 4) (v := .ref (q 5)) (C := RX4) (T := TX4) (N := 15) hx hb hts uX4_isName_X4 hown hK hP 0 rfl rfl 5 (by decide) (hts _ kX4_isName_2) (fun _ h9 => h9) rfl dX4_isName_56 ?_
              refine lv_aload_n hx hb dX4_isName_59 rfl (lv_at hl 0 rfl) ?_
              refine va_get (D := D) (ci := 4) (v := .int (F 0 3)) (C := RX4) (T := TX4) (N := 15) hx hb hts uX4_isName_X4 hown hK hP 0 rfl rfl 8 (by decide) (hts _ kX4_isName_1) (fun _ h9 => h9) rfl dX4_isName_60 ?_
              refine lv_iload hx hb dX4_isName_63 (lv_at hl 4 rfl) ?_
              refine lv_iadd hx hb dX4_isName_65 ?_
              obtain ⟨z_19, h⟩ := q_grd_ok h
              refine va_iald hx hb hK hP 5 0 rfl rfl z_19 dX4_isName_66 ?_
              refine lv_icmp_ne (tgt := 74) hx hb dX4_isName_67 (by decide) (fun c_20 => ?_) (fun c_20 => ?_)
              · have h := q_f c_20 h
                refine lv_iconst (v := 0) hx hb dX4_isName_74 (by decide) ?_
                refine lv_istore_n (lv' := [(3, .int (0 : Int32)), (0, .ref (q 0)), (1, .int v1), (2, .int v2), (4, .int v4)]) hx hb dX4_isName_75 rfl hl (by decide) rfl (fun ls hl => ?_)
                obtain ⟨x_21, ex_21, h⟩ := q_let_ok h
                refine lv_iinc (v := x_21) (lv' := [(4, .int x_21), (3, .int (0 : Int32)), (0, .ref (q 0)), (1, .int v1), (2, .int v2)]) hx hb dX4_isName_76 hl (k := 4) rfl (by rw [ex_21]; rfl) (by decide) rfl (fun ls hl => ?_)
                refine lv_goto (tgt := 34) hx hb dX4_isName_79 (by decide) ?_
                exact ih34_13 (0 : Int32) x_21 K34_13 _ _ _ hP hD hS (lv_sub hl [2, 3, 4, 1, 0] rfl) h
              · have h := q_t c_20 h
                refine lv_iconst (v := 1) hx hb dX4_isName_70 (by decide) ?_
                refine lv_goto (tgt := 75) hx hb dX4_isName_71 (by decide) ?_
                refine lv_istore_n (lv' := [(3, .int (1 : Int32)), (0, .ref (q 0)), (1, .int v1), (2, .int v2), (4, .int v4)]) hx hb dX4_isName_75 rfl hl (by decide) rfl (fun ls hl => ?_)
                obtain ⟨x_22, ex_22, h⟩ := q_let_ok h
                refine lv_iinc (v := x_22) (lv' := [(4, .int x_22), (3, .int (1 : Int32)), (0, .ref (q 0)), (1, .int v1), (2, .int v2)]) hx hb dX4_isName_76 hl (k := 4) rfl (by rw [ex_22]; rfl) (by decide) rfl (fun ls hl => ?_)
                refine lv_goto (tgt := 34) hx hb dX4_isName_79 (by decide) ?_
                exact ih34_13 (1 : Int32) x_22 K34_13 _ _ _ hP hD hS (lv_sub hl [2, 3, 4, 1, 0] rfl) h
      exact L34_13 F G p1 p2 N (1 : Int32) (0 : Int32) K34_13 _ _ _ hP hD hS (lv_sub hl [2, 3, 4, 1, 0] rfl) hL13
    · have h := q_f c_12 h
      refine va_gets (C := "BeamSeatsModel") (n := "NAMES") (d := "[I") (v := .ref (t 1)) hx hb hZ.2.1.1 hS hown (hts _ kX4_isName_3) (fun _ h9 => h9) dX4_isName_12 ?_
      refine lv_bipush (v := 7) hx hb dX4_isName_15 (by decide) ?_
      refine lv_iload_n hx hb dX4_isName_17 rfl (lv_at hl 1 rfl) ?_
      refine lv_imul hx hb dX4_isName_18 ?_
      refine lv_iload_n hx hb dX4_isName_19 rfl (lv_at hl 2 rfl) ?_
      refine lv_iadd hx hb dX4_isName_20 ?_
      obtain ⟨z_23, h⟩ := q_grd_ok h
      refine va_ti (v := .int (nms (((7 : Int32) * p1) + p2).toNatClampNeg)) hx hb hZ.2.1.2 hS z_23 rfl dX4_isName_21 ?_
      refine lv_if_ne (tgt := 29) hx hb dX4_isName_22 (by decide) (fun c_24 => ?_) (fun c_24 => ?_)
      · have h := q_f c_24 h
        refine lv_iconst (v := 0) hx hb dX4_isName_29 (by decide) ?_
        refine lv_istore_n (lv' := [(3, .int (0 : Int32)), (0, .ref (q 0)), (1, .int p1), (2, .int p2)]) hx hb dX4_isName_30 rfl hl (by decide) rfl (fun ls hl => ?_)
        refine lv_iconst (v := 0) hx hb dX4_isName_31 (by decide) ?_
        refine lv_istore (lv' := [(4, .int (0 : Int32)), (3, .int (0 : Int32)), (0, .ref (q 0)), (1, .int p1), (2, .int p2)]) hx hb dX4_isName_32 hl (by decide) rfl (fun ls hl => ?_)
        obtain ⟨x_26, x_27, hL25, h⟩ := q_bd2_ok h
        have K34_25 : ∀ (H : Heap) (locs : List Loc) (ls : Array Slot), va_P D vwCl (wM y q F G) H → va_D A (wM y q F G) → va_S A s.heap H locs → lv_has ls 5 [(0, .ref (q 0)), (1, .int p1), (2, .int p2), (3, .int x_26), (4, .int x_27)] → W p l e ({ frames := 0, cells := 0, slots := 0, locals := 0 } : Room) s m ([.ref (q 0), .int p1, .int p2] : List Value).toArray below meth c H locs 0 0 (MQ below (pQi D y res (wM y q F G) A) ([.ref (q 0), .int p1, .int p2] : List Value).toArray s 0 0 A) (F0 m 82 ls []) := by
          intro H locs ls hP hD hS hl
          refine lv_iload_n hx hb dX4_isName_82 rfl (lv_at hl 3 rfl) ?_
          obtain ⟨hg9, h⟩ := q_gb_ok h
          have e9 := Option.some.inj h
          exact q_zret hx hb hr hlocks hK hP hD hS dX4_isName_83 (q_gb_nar hg9) (by first | rw [← e9] | rfl) (by first | rw [← e9] | rfl)
        have L34_25 : ∀ (F : Nat → Nat → Int32) (G : Nat → Int64) (v1 : Int32) (v2 : Int32) (k : Nat) (v3 : Int32) (v4 : Int32), (∀ (H : Heap) (locs : List Loc) (ls : Array Slot), va_P D vwCl (wM y q F G) H → va_D A (wM y q F G) → va_S A s.heap H locs → lv_has ls 5 [(0, .ref (q 0)), (1, .int v1), (2, .int v2), (3, .int x_26), (4, .int x_27)] → W p l e ({ frames := 0, cells := 0, slots := 0, locals := 0 } : Room) s m ([.ref (q 0), .int p1, .int p2] : List Value).toArray below meth c H locs 0 0 (MQ below (pQi D y res (wM y q F G) A) ([.ref (q 0), .int p1, .int p2] : List Value).toArray s 0 0 A) (F0 m 82 ls [])) → ∀ (H : Heap) (locs : List Loc) (ls : Array Slot), va_P D vwCl (wM y q F G) H → va_D A (wM y q F G) → va_S A s.heap H locs → lv_has ls 5 [(0, .ref (q 0)), (1, .int v1), (2, .int v2), (3, .int v3), (4, .int v4)] → f_X4_isName_L34 N F G v1 v2 k v3 v4 = some (x_26, x_27) → W p l e ({ frames := 0, cells := 0, slots := 0, locals := 0 } : Room) s m ([.ref (q 0), .int p1, .int p2] : List Value).toArray below meth c H locs 0 0 (MQ below (pQi D y res (wM y q F G) A) ([.ref (q 0), .int p1, .int p2] : List Value).toArray s 0 0 A) (F0 m 34 ls []) := by
          intro F G v1 v2 k
          induction k with
          | zero =>
            intro v3 v4 K34_25 H locs ls hP hD hS hl h
            have h : (none : Option (Int32 × Int32)) = some _ := h
            cases h
          | succ k ih34_25 =>
            intro v3 v4 K34_25 H locs ls hP hD hS hl h
            rw [f_X4_isName_L34] at h
            refine lv_iload hx hb dX4_isName_34 (lv_at hl 4 rfl) ?_
            refine lv_iload_n hx hb dX4_isName_36 rfl (lv_at hl 2 rfl) ?_
            refine lv_icmp_ge (tgt := 82) hx hb dX4_isName_37 (by decide) (fun c_28 => ?_) (fun c_28 => ?_)
            · have h := q_t c_28 h
              cases h
              exact K34_25 _ _ _ hP hD hS (lv_sub hl [0, 1, 2, 3, 4] rfl)
            · have h := q_f c_28 h
              refine lv_iload_n hx hb dX4_isName_40 rfl (lv_at hl 3 rfl) ?_
              refine lv_if_eq (tgt := 82) hx hb dX4_isName_41 (by decide) (fun c_29 => ?_) (fun c_29 => ?_)
              · have h := q_t c_29 h
                cases h
                exact K34_25 _ _ _ hP hD hS (lv_sub hl [0, 1, 2, 3, 4] rfl)
              · have h := q_f c_29 h
                refine va_gets (C := "BeamSeatsModel") (n := "NAMES") (d := "[I") (v := .ref (t 1)) hx hb hZ.2.1.1 hS hown (hts _ kX4_isName_3) (fun _ h9 => h9) dX4_isName_44 ?_
                refine lv_bipush (v := 7) hx hb dX4_isName_47 (by decide) ?_
                refine lv_iload_n hx hb dX4_isName_49 rfl (lv_at hl 1 rfl) ?_
                refine lv_imul hx hb dX4_isName_50 ?_
                refine lv_iload hx hb dX4_isName_51 (lv_at hl 4 rfl) ?_
                refine lv_iadd hx hb dX4_isName_53 ?_
                obtain ⟨z_30, h⟩ := q_grd_ok h
                refine va_ti (v := .int (nms (((7 : Int32) * v1) + v4).toNatClampNeg)) hx hb hZ.2.1.2 hS z_30 rfl dX4_isName_54 ?_
                refine lv_aload_n hx hb dX4_isName_55 rfl (lv_at hl 0 rfl) ?_
                refine va_get (D := D) (ci := 4) (v := .ref (q 5)) (C := RX4) (T := TX4) (N := 15) hx hb hts uX4_isName_X4 hown hK hP 0 rfl rfl 5 (by decide) (hts _ kX4_isName_2) (fun _ h9 => h9) rfl dX4_isName_56 ?_
                refine lv_aload_n hx hb dX4_isName_59 rfl (lv_at hl 0 rfl) ?_
                refine va_get (D := D) (ci := 4) (v := .int (F 0 3)) (C := RX4) (T := TX4) (N := 15) hx hb hts uX4_isName_X4 hown hK hP 0 rfl rfl 8 (by decide) (hts _ kX4_isName_1) (fun _ h9 => h9) rfl dX4_isName_60 ?_
                refine lv_iload hx hb dX4_isName_63 (lv_at hl 4 rfl) ?_
                refine lv_iadd hx hb dX4_isName_65 ?_
                obtain ⟨z_31, h⟩ := q_grd_ok h
                refine va_iald hx hb hK hP 5 0 rfl rfl z_31 dX4_isName_66 ?_
                refine lv_icmp_ne (tgt := 74) hx hb dX4_isName_67 (by decide) (fun c_32 => ?_) (fun c_32 => ?_)
                · have h := q_f c_32 h
                  refine lv_iconst (v := 0) hx hb dX4_isName_74 (by decide) ?_
                  refine lv_istore_n (lv' := [(3, .int (0 : Int32)), (0, .ref (q 0)), (1, .int v1), (2, .int v2), (4, .int v4)]) hx hb dX4_isName_75 rfl hl (by decide) rfl (fun ls hl => ?_)
                  obtain ⟨x_33, ex_33, h⟩ := q_let_ok h
                  refine lv_iinc (v := x_33) (lv' := [(4, .int x_33), (3, .int (0 : Int32)), (0, .ref (q 0)), (1, .int v1), (2, .int v2)]) hx hb dX4_isName_76 hl (k := 4) rfl (by rw [ex_33]; rfl) (by decide) rfl (fun ls hl => ?_)
                  refine lv_goto (tgt := 34) hx hb dX4_isName_79 (by decide) ?_
                  exact ih34_25 (0 : Int32) x_33 K34_25 _ _ _ hP hD hS (lv_sub hl [2, 3, 4, 1, 0] rfl) h
                · have h := q_t c_32 h
                  refine lv_iconst (v := 1) hx hb dX4_isName_70 (by decide) ?_
                  refine lv_goto (tgt := 75) hx hb dX4_isName_71 (by decide) ?_
                  refine lv_istore_n (lv' := [(3, .int (1 : Int32)), (0, .ref (q 0)), (1, .int v1), (2, .int v2), (4, .int v4)]) hx hb dX4_isName_75 rfl hl (by decide) rfl (fun ls hl => ?_)
                  obtain ⟨x_34, ex_34, h⟩ := q_let_ok h
                  refine lv_iinc (v := x_34) (lv' := [(4, .int x_34), (3, .int (1 : Int32)), (0, .ref (q 0)), (1, .int v1), (2, .int v2)]) hx hb dX4_isName_76 hl (k := 4) rfl (by rw [ex_34]; rfl) (by decide) rfl (fun ls hl => ?_)
                  refine lv_goto (tgt := 34) hx hb dX4_isName_79 (by decide) ?_
                  exact ih34_25 (1 : Int32) x_34 K34_25 _ _ _ hP hD hS (lv_sub hl [2, 3, 4, 1, 0] rfl) h
        exact L34_25 F G p1 p2 N (0 : Int32) (0 : Int32) K34_25 _ _ _ hP hD hS (lv_sub hl [2, 3, 4, 1, 0] rfl) hL25
      · have h := q_t c_24 h
        refine lv_iconst (v := 1) hx hb dX4_isName_25 (by decide) ?_
        refine lv_goto (tgt := 30) hx hb dX4_isName_26 (by decide) ?_
        refine lv_istore_n (lv' := [(3, .int (1 : Int32)), (0, .ref (q 0)), (1, .int p1), (2, .int p2)]) hx hb dX4_isName_30 rfl hl (by decide) rfl (fun ls hl => ?_)
        refine lv_iconst (v := 0) hx hb dX4_isName_31 (by decide) ?_
        refine lv_istore (lv' := [(4, .int (0 : Int32)), (3, .int (1 : Int32)), (0, .ref (q 0)), (1, .int p1), (2, .int p2)]) hx hb dX4_isName_32 hl (by decide) rfl (fun ls hl => ?_)
        obtain ⟨x_36, x_37, hL35, h⟩ := q_bd2_ok h
        have K34_35 : ∀ (H : Heap) (locs : List Loc) (ls : Array Slot), va_P D vwCl (wM y q F G) H → va_D A (wM y q F G) → va_S A s.heap H locs → lv_has ls 5 [(0, .ref (q 0)), (1, .int p1), (2, .int p2), (3, .int x_36), (4, .int x_37)] → W p l e ({ frames := 0, cells := 0, slots := 0, locals := 0 } : Room) s m ([.ref (q 0), .int p1, .int p2] : List Value).toArray below meth c H locs 0 0 (MQ below (pQi D y res (wM y q F G) A) ([.ref (q 0), .int p1, .int p2] : List Value).toArray s 0 0 A) (F0 m 82 ls []) := by
          intro H locs ls hP hD hS hl
          refine lv_iload_n hx hb dX4_isName_82 rfl (lv_at hl 3 rfl) ?_
          obtain ⟨hg9, h⟩ := q_gb_ok h
          have e9 := Option.some.inj h
          exact q_zret hx hb hr hlocks hK hP hD hS dX4_isName_83 (q_gb_nar hg9) (by first | rw [← e9] | rfl) (by first | rw [← e9] | rfl)
        have L34_35 : ∀ (F : Nat → Nat → Int32) (G : Nat → Int64) (v1 : Int32) (v2 : Int32) (k : Nat) (v3 : Int32) (v4 : Int32), (∀ (H : Heap) (locs : List Loc) (ls : Array Slot), va_P D vwCl (wM y q F G) H → va_D A (wM y q F G) → va_S A s.heap H locs → lv_has ls 5 [(0, .ref (q 0)), (1, .int v1), (2, .int v2), (3, .int x_36), (4, .int x_37)] → W p l e ({ frames := 0, cells := 0, slots := 0, locals := 0 } : Room) s m ([.ref (q 0), .int p1, .int p2] : List Value).toArray below meth c H locs 0 0 (MQ below (pQi D y res (wM y q F G) A) ([.ref (q 0), .int p1, .int p2] : List Value).toArray s 0 0 A) (F0 m 82 ls [])) → ∀ (H : Heap) (locs : List Loc) (ls : Array Slot), va_P D vwCl (wM y q F G) H → va_D A (wM y q F G) → va_S A s.heap H locs → lv_has ls 5 [(0, .ref (q 0)), (1, .int v1), (2, .int v2), (3, .int v3), (4, .int v4)] → f_X4_isName_L34 N F G v1 v2 k v3 v4 = some (x_36, x_37) → W p l e ({ frames := 0, cells := 0, slots := 0, locals := 0 } : Room) s m ([.ref (q 0), .int p1, .int p2] : List Value).toArray below meth c H locs 0 0 (MQ below (pQi D y res (wM y q F G) A) ([.ref (q 0), .int p1, .int p2] : List Value).toArray s 0 0 A) (F0 m 34 ls []) := by
          intro F G v1 v2 k
          induction k with
          | zero =>
            intro v3 v4 K34_35 H locs ls hP hD hS hl h
            have h : (none : Option (Int32 × Int32)) = some _ := h
            cases h
          | succ k ih34_35 =>
            intro v3 v4 K34_35 H locs ls hP hD hS hl h
            rw [f_X4_isName_L34] at h
            refine lv_iload hx hb dX4_isName_34 (lv_at hl 4 rfl) ?_
            refine lv_iload_n hx hb dX4_isName_36 rfl (lv_at hl 2 rfl) ?_
            refine lv_icmp_ge (tgt := 82) hx hb dX4_isName_37 (by decide) (fun c_38 => ?_) (fun c_38 => ?_)
            · have h := q_t c_38 h
              cases h
              exact K34_35 _ _ _ hP hD hS (lv_sub hl [0, 1, 2, 3, 4] rfl)
            · have h := q_f c_38 h
              refine lv_iload_n hx hb dX4_isName_40 rfl (lv_at hl 3 rfl) ?_
              refine lv_if_eq (tgt := 82) hx hb dX4_isName_41 (by decide) (fun c_39 => ?_) (fun c_39 => ?_)
              · have h := q_t c_39 h
                cases h
                exact K34_35 _ _ _ hP hD hS (lv_sub hl [0, 1, 2, 3, 4] rfl)
              · have h := q_f c_39 h
                refine va_gets (C := "BeamSeatsModel") (n := "NAMES") (d := "[I") (v := .ref (t 1)) hx hb hZ.2.1.1 hS hown (hts _ kX4_isName_3) (fun _ h9 => h9) dX4_isName_44 ?_
                refine lv_bipush (v := 7) hx hb dX4_isName_47 (by decide) ?_
                refine lv_iload_n hx hb dX4_isName_49 rfl (lv_at hl 1 rfl) ?_
                refine lv_imul hx hb dX4_isName_50 ?_
                refine lv_iload hx hb dX4_isName_51 (lv_at hl 4 rfl) ?_
                refine lv_iadd hx hb dX4_isName_53 ?_
                obtain ⟨z_40, h⟩ := q_grd_ok h
                refine va_ti (v := .int (nms (((7 : Int32) * v1) + v4).toNatClampNeg)) hx hb hZ.2.1.2 hS z_40 rfl dX4_isName_54 ?_
                refine lv_aload_n hx hb dX4_isName_55 rfl (lv_at hl 0 rfl) ?_
                refine va_get (D := D) (ci := 4) (v := .ref (q 5)) (C := RX4) (T := TX4) (N := 15) hx hb hts uX4_isName_X4 hown hK hP 0 rfl rfl 5 (by decide) (hts _ kX4_isName_2) (fun _ h9 => h9) rfl dX4_isName_56 ?_
                refine lv_aload_n hx hb dX4_isName_59 rfl (lv_at hl 0 rfl) ?_
                refine va_get (D := D) (ci := 4) (v := .int (F 0 3)) (C := RX4) (T := TX4) (N := 15) hx hb hts uX4_isName_X4 hown hK hP 0 rfl rfl 8 (by decide) (hts _ kX4_isName_1) (fun _ h9 => h9) rfl dX4_isName_60 ?_
                refine lv_iload hx hb dX4_isName_63 (lv_at hl 4 rfl) ?_
                refine lv_iadd hx hb dX4_isName_65 ?_
                obtain ⟨z_41, h⟩ := q_grd_ok h
                refine va_iald hx hb hK hP 5 0 rfl rfl z_41 dX4_isName_66 ?_
                refine lv_icmp_ne (tgt := 74) hx hb dX4_isName_67 (by decide) (fun c_42 => ?_) (fun c_42 => ?_)
                · have h := q_f c_42 h
                  refine lv_iconst (v := 0) hx hb dX4_isName_74 (by decide) ?_
                  refine lv_istore_n (lv' := [(3, .int (0 : Int32)), (0, .ref (q 0)), (1, .int v1), (2, .int v2), (4, .int v4)]) hx hb dX4_isName_75 rfl hl (by decide) rfl (fun ls hl => ?_)
                  obtain ⟨x_43, ex_43, h⟩ := q_let_ok h
                  refine lv_iinc (v := x_43) (lv' := [(4, .int x_43), (3, .int (0 : Int32)), (0, .ref (q 0)), (1, .int v1), (2, .int v2)]) hx hb dX4_isName_76 hl (k := 4) rfl (by rw [ex_43]; rfl) (by decide) rfl (fun ls hl => ?_)
                  refine lv_goto (tgt := 34) hx hb dX4_isName_79 (by decide) ?_
                  exact ih34_35 (0 : Int32) x_43 K34_35 _ _ _ hP hD hS (lv_sub hl [2, 3, 4, 1, 0] rfl) h
                · have h := q_t c_42 h
                  refine lv_iconst (v := 1) hx hb dX4_isName_70 (by decide) ?_
                  refine lv_goto (tgt := 75) hx hb dX4_isName_71 (by decide) ?_
                  refine lv_istore_n (lv' := [(3, .int (1 : Int32)), (0, .ref (q 0)), (1, .int v1), (2, .int v2), (4, .int v4)]) hx hb dX4_isName_75 rfl hl (by decide) rfl (fun ls hl => ?_)
                  obtain ⟨x_44, ex_44, h⟩ := q_let_ok h
                  refine lv_iinc (v := x_44) (lv' := [(4, .int x_44), (3, .int (1 : Int32)), (0, .ref (q 0)), (1, .int v1), (2, .int v2)]) hx hb dX4_isName_76 hl (k := 4) rfl (by rw [ex_44]; rfl) (by decide) rfl (fun ls hl => ?_)
                  refine lv_goto (tgt := 34) hx hb dX4_isName_79 (by decide) ?_
                  exact ih34_35 (1 : Int32) x_44 K34_35 _ _ _ hP hD hS (lv_sub hl [2, 3, 4, 1, 0] rfl) h
        exact L34_35 F G p1 p2 N (1 : Int32) (0 : Int32) K34_35 _ _ _ hP hD hS (lv_sub hl [2, 3, 4, 1, 0] rfl) hL35
theorem eX4_isName : yX4_isName.cls = RX4 ∧ yX4_isName.cls ≠ "java/lang/invoke/MethodHandle" ∧ yX4_isName.cls ≠ "java/lang/invoke/VarHandle" ∧ (parseMethodDescriptor yX4_isName.desc).map (fun d => d.parameters.length) = some 2 := by decide +kernel
theorem uX4_wordHere_X4 : ∀ w ∈ u_ws RX4 TX4 15, w ∈ wsX4_wordHere := by decide +kernel
theorem kX4_wordHere_1 : Cond.fieldLink RX4 166 "BeamSeatsModel" "begin" "I" ∈ wsX4_wordHere := List.mem_of_getElem? (i := 2) (by decide +kernel)
theorem kX4_wordHere_2 : Cond.fieldLink RX4 169 "BeamSeatsModel" "at" "I" ∈ wsX4_wordHere := List.mem_of_getElem? (i := 1) (by decide +kernel)
def f_X4_wordHere_L2 (N : Nat) (F : Nat → Nat → Int32) (G : Nat → Int64) : Nat → Int32 → Option (Int32)
  | 0, _ => none
  | k + 1, v1 =>
    if (12 : Int32) ≤ v1 then
      some v1
    else
      q_bd (f_X4_isName N F G v1 ((F 0 4) - (F 0 3))) (fun r_4 =>
      if r_4 = 0 then
        q_let (v1 + 1) (fun x_7 =>
        f_X4_wordHere_L2 N F G k x_7)
      else
        some v1)
def f_X4_wordHere_B31 (N : Nat) (F : Nat → Nat → Int32) (G : Nat → Int64) (v1 : Int32) : Option (Int32) :=
  if (12 : Int32) ≤ v1 then
    some (23 : Int32)
  else
    some v1
def f_X4_wordHere (N : Nat) (F : Nat → Nat → Int32) (G : Nat → Int64) : Option (Int32) :=
  q_bd (f_X4_wordHere_L2 N F G N (0 : Int32)) (fun x_2 =>
  f_X4_wordHere_B31 N F G x_2)
set_option maxHeartbeats 4000000 in
set_option maxRecDepth 100000 in
theorem c_X4_wordHere (l : Launch) (D : va_G) (y : Nat → ClassId) (t : Nat → Nat) (q : Nat → Nat) (sz N : Nat) (F : Nat → Nat → Int32) (G : Nat → Int64) (res : Int32) (h : f_X4_wordHere N F G = some res) : Met l yX4_wordHere wsX4_wordHere ({ frames := 1, cells := 0, slots := 0, locals := 24 } : Room) (pPre D y t [.ref (q 0)] (wM y q F G) sz) (pQi D y res (wM y q F G) (va_A (wM y q F G) sz)) 0 0 (va_A (wM y q F G) sz) := by
  refine q_start (Qc := (fun A => pQi D y res (wM y q F G) A)) (cc := cX4_wordHere) (maxL := 2) (ret := (some .int)) (by decide) rfl (Nat.le_of_ble_eq_true rfl) ?_
  intro p e s m below meth c A ls hx hb hr hts hown hlocks hmn hml hP hK hZ hD hA hS hl
  have hl : lv_has ls 2 [(0, .ref (q 0))] := hl
  have hown : s.vm.findClass RX4 = some m.cls := hown
  have B31 : ∀ (F : Nat → Nat → Int32) (G : Nat → Int64) (v1 : Int32) (H : Heap) (locs : List Loc) (ls : Array Slot), va_P D vwCl (wM y q F G) H → va_D A (wM y q F G) → va_S A s.heap H locs → lv_has ls 2 [(1, .int v1)] → f_X4_wordHere_B31 N F G v1 = some res → W p l e ({ frames := 1, cells := 0, slots := 0, locals := 24 } : Room) s m ([.ref (q 0)] : List Value).toArray below meth c H locs 0 0 (MQ below (pQi D y res (wM y q F G) A) ([.ref (q 0)] : List Value).toArray s 0 0 A) (F0 m 31 ls []) := by
    intro F G v1 H locs ls hP hD hS hl h
    unfold f_X4_wordHere_B31 at h
    refine lv_iload_n hx hb dX4_wordHere_31 rfl (lv_at hl 0 rfl) ?_
    refine lv_bipush (v := 12) hx hb dX4_wordHere_32 (by decide) ?_
    refine lv_icmp_ge (tgt := 41) hx hb dX4_wordHere_34 (by decide) (fun c_8 => ?_) (fun c_8 => ?_)
    · have h := q_t c_8 h
      refine lv_bipush (v := 23) hx hb dX4_wordHere_41 (by decide) ?_
      have e9 := Option.some.inj h
      exact q_iret hx hb hr hlocks hK hP hD hS dX4_wordHere_43 (by first | rw [← e9] | rfl) (by first | rw [← e9] | rfl)
    · have h := q_f c_8 h
      refine lv_iload_n hx hb dX4_wordHere_37 rfl (lv_at hl 0 rfl) ?_
      refine lv_goto (tgt := 43) hx hb dX4_wordHere_38 (by decide) ?_
      have e9 := Option.some.inj h
      exact q_iret hx hb hr hlocks hK hP hD hS dX4_wordHere_43 (by first | rw [← e9] | rfl) (by first | rw [← e9] | rfl)
  unfold f_X4_wordHere at h
  refine lv_iconst (v := 0) hx hb dX4_wordHere_0 (by decide) ?_
  refine lv_istore_n (lv' := [(1, .int (0 : Int32)), (0, .ref (q 0))]) hx hb dX4_wordHere_1 rfl hl (by decide) rfl (fun ls hl => ?_)
  obtain ⟨x_2, hL1, h⟩ := q_bd_ok h
  have K2_1 : ∀ (H : Heap) (locs : List Loc) (ls : Array Slot), va_P D vwCl (wM y q F G) H → va_D A (wM y q F G) → va_S A s.heap H locs → lv_has ls 2 [(0, .ref (q 0)), (1, .int x_2)] → W p l e ({ frames := 1, cells := 0, slots := 0, locals := 24 } : Room) s m ([.ref (q 0)] : List Value).toArray below meth c H locs 0 0 (MQ below (pQi D y res (wM y q F G) A) ([.ref (q 0)] : List Value).toArray s 0 0 A) (F0 m 31 ls []) := by
    intro H locs ls hP hD hS hl
    exact B31 F G x_2 _ _ _ hP hD hS (lv_sub hl [1] rfl) h
  have L2_1 : ∀ (F : Nat → Nat → Int32) (G : Nat → Int64) (k : Nat) (v1 : Int32), (∀ (H : Heap) (locs : List Loc) (ls : Array Slot), va_P D vwCl (wM y q F G) H → va_D A (wM y q F G) → va_S A s.heap H locs → lv_has ls 2 [(0, .ref (q 0)), (1, .int x_2)] → W p l e ({ frames := 1, cells := 0, slots := 0, locals := 24 } : Room) s m ([.ref (q 0)] : List Value).toArray below meth c H locs 0 0 (MQ below (pQi D y res (wM y q F G) A) ([.ref (q 0)] : List Value).toArray s 0 0 A) (F0 m 31 ls [])) → ∀ (H : Heap) (locs : List Loc) (ls : Array Slot), va_P D vwCl (wM y q F G) H → va_D A (wM y q F G) → va_S A s.heap H locs → lv_has ls 2 [(0, .ref (q 0)), (1, .int v1)] → f_X4_wordHere_L2 N F G k v1 = some x_2 → W p l e ({ frames := 1, cells := 0, slots := 0, locals := 24 } : Room) s m ([.ref (q 0)] : List Value).toArray below meth c H locs 0 0 (MQ below (pQi D y res (wM y q F G) A) ([.ref (q 0)] : List Value).toArray s 0 0 A) (F0 m 2 ls []) := by
    intro F G k
    induction k with
    | zero =>
      intro v1 K2_1 H locs ls hP hD hS hl h
      have h : (none : Option (Int32)) = some _ := h
      cases h
    | succ k ih2_1 =>
      intro v1 K2_1 H locs ls hP hD hS hl h
      rw [f_X4_wordHere_L2] at h
      refine lv_iload_n hx hb dX4_wordHere_2 rfl (lv_at hl 1 rfl) ?_
      refine lv_bipush (v := 12) hx hb dX4_wordHere_3 (by decide) ?_
      refine lv_icmp_ge (tgt := 31) hx hb dX4_wordHere_5 (by decide) (fun c_3 => ?_) (fun c_3 => ?_)
      · have h := q_t c_3 h
        cases h
        exact K2_1 _ _ _ hP hD hS (lv_sub hl [0, 1] rfl)
      · have h := q_f c_3 h
        refine lv_aload_n hx hb dX4_wordHere_8 rfl (lv_at hl 0 rfl) ?_
        refine lv_iload_n hx hb dX4_wordHere_9 rfl (lv_at hl 1 rfl) ?_
        refine lv_aload_n hx hb dX4_wordHere_10 rfl (lv_at hl 0 rfl) ?_
        refine va_get (D := D) (ci := 4) (v := .int (F 0 4)) (C := RX4) (T := TX4) (N := 15) hx hb hts uX4_wordHere_X4 hown hK hP 0 rfl rfl 9 (by decide) (hts _ kX4_wordHere_2) (fun _ h9 => h9) rfl dX4_wordHere_11 ?_
        refine lv_aload_n hx hb dX4_wordHere_14 rfl (lv_at hl 0 rfl) ?_
        refine va_get (D := D) (ci := 4) (v := .int (F 0 3)) (C := RX4) (T := TX4) (N := 15) hx hb hts uX4_wordHere_X4 hown hK hP 0 rfl rfl 8 (by decide) (hts _ kX4_wordHere_1) (fun _ h9 => h9) rfl dX4_wordHere_15 ?_
        refine lv_isub hx hb dX4_wordHere_18 ?_
        obtain ⟨r_4, hc_5, h⟩ := q_bd_ok h
        refine q_ci (r := r_4) (va_runV (As := [.int v1, .int ((F 0 4) - (F 0 3))]) (rest := []) ⟨hx, hb, hml, hown, hts⟩ (c_X4_isName l D y t q _ N F G v1 ((F 0 4) - (F 0 3)) r_4 hc_5) (cwV 2 hts gX4_wordHere_X4_isName rfl rfl rfl eX4_isName ⟨Nat.le_of_ble_eq_true rfl, Nat.le_of_ble_eq_true rfl⟩) ⟨q_blind, (va_recv hK hP (ci := 4) (q0 := 0) rfl rfl), (q_pre hP hK hZ hD hA hS [0, 1, 2, 3, 4, 5, 6, 7, 8] rfl (by decide))⟩ rfl rfl hl.1 rfl (lv_room (Nat.le_of_ble_eq_true rfl)) dX4_wordHere_19 ⟨Nat.zero_le _, Nat.zero_le _⟩) hP hD hA hS [0, 1, 2, 3, 4, 5, 6, 7, 8] rfl (by decide) rfl (fun H locs hP hD hS => ?_)
        have hP : va_P D vwCl (wM y q F G) H := hP
        have hD : va_D A (wM y q F G) := hD
        refine lv_if_ne (tgt := 31) hx hb dX4_wordHere_22 (by decide) (fun c_6 => ?_) (fun c_6 => ?_)
        · have h := q_f c_6 h
          cases h
          exact K2_1 _ _ _ hP hD hS (lv_sub hl [0, 1] rfl)
        · have h := q_t c_6 h
          obtain ⟨x_7, ex_7, h⟩ := q_let_ok h
          refine lv_iinc (v := x_7) (lv' := [(1, .int x_7), (0, .ref (q 0))]) hx hb dX4_wordHere_25 hl (k := 1) rfl (by rw [ex_7]; rfl) (by decide) rfl (fun ls hl => ?_)
          refine lv_goto (tgt := 2) hx hb dX4_wordHere_28 (by decide) ?_
          exact ih2_1 x_7 K2_1 _ _ _ hP hD hS (lv_sub hl [1, 0] rfl) h
  exact L2_1 F G N (0 : Int32) K2_1 _ _ _ hP hD hS (lv_sub hl [1, 0] rfl) hL1
theorem eX4_wordHere : yX4_wordHere.cls = RX4 ∧ yX4_wordHere.cls ≠ "java/lang/invoke/MethodHandle" ∧ yX4_wordHere.cls ≠ "java/lang/invoke/VarHandle" ∧ (parseMethodDescriptor yX4_wordHere.desc).map (fun d => d.parameters.length) = some 0 := by decide +kernel
theorem uX4_reads_X4 : ∀ w ∈ u_ws RX4 TX4 15, w ∈ wsX4_reads := by decide +kernel
theorem kX4_reads_1 : Cond.fieldLink RX4 169 "BeamSeatsModel" "at" "I" ∈ wsX4_reads := List.mem_of_getElem? (i := 1) (by decide +kernel)
theorem kX4_reads_2 : Cond.fieldLink RX4 182 "BeamSeatsModel" "token" "I" ∈ wsX4_reads := List.mem_of_getElem? (i := 5) (by decide +kernel)
theorem kX4_reads_3 : Cond.fieldLink RX4 179 "BeamSeatsModel" "value" "I" ∈ wsX4_reads := List.mem_of_getElem? (i := 3) (by decide +kernel)
theorem kX4_reads_4 : Cond.fieldLink RX4 22 "BeamSeatsModel" "tape" "[I" ∈ wsX4_reads := List.mem_of_getElem? (i := 6) (by decide +kernel)
theorem kX4_reads_5 : Cond.fieldLink RX4 159 "BeamSeatsModel" "taped" "I" ∈ wsX4_reads := List.mem_of_getElem? (i := 4) (by decide +kernel)
theorem kX4_reads_6 : Cond.fieldLink RX4 166 "BeamSeatsModel" "begin" "I" ∈ wsX4_reads := List.mem_of_getElem? (i := 2) (by decide +kernel)
def f_X4_reads_L0 (N : Nat) (G : Nat → Int64) : Nat → (Nat → Nat → Int32) → Option ((Nat → Nat → Int32))
  | 0, _ => none
  | k + 1, F =>
    q_bd (f_X4_isByte N F G (F 0 4) (32 : Int32) (32 : Int32)) (fun r_3 =>
    if r_3 = 0 then
      some F
    else
      q_let (q_up F 0 4 ((F 0 4) + (1 : Int32))) (fun F_6 =>
      f_X4_reads_L0 N G k F_6))
def f_X4_reads_B231 (N : Nat) (F : Nat → Nat → Int32) (G : Nat → Int64) (s1 : Int32) : Option ((Nat → Nat → Int32)) :=
  q_let (q_up F 0 2 s1) (fun F_19 =>
  q_let (q_up F_19 0 4 ((F_19 0 4) + (1 : Int32))) (fun F_20 =>
  some F_20))
def f_X4_reads_L130 (N : Nat) (G : Nat → Int64) : Nat → (Nat → Nat → Int32) → Option ((Nat → Nat → Int32))
  | 0, _ => none
  | k + 1, F =>
    q_bd (f_X4_isByte N F G (F 0 4) (48 : Int32) (57 : Int32)) (fun r_23 =>
    if r_23 = 0 then
      some F
    else
      if (F 0 5) ≤ (999 : Int32) then
        q_grd (F 0 4) 120 (
        q_let (q_up F 0 5 ((((10 : Int32) * (F 0 5)) + (F 5 (F 0 4).toNatClampNeg)) - (48 : Int32))) (fun F_28 =>
        q_let (q_up F_28 0 4 ((F_28 0 4) + (1 : Int32))) (fun F_29 =>
        f_X4_reads_L130 N G k F_29)))
      else
        q_let (q_up F 0 5 (F 0 5)) (fun F_30 =>
        q_let (q_up F_30 0 4 ((F_30 0 4) + (1 : Int32))) (fun F_31 =>
        f_X4_reads_L130 N G k F_31)))
def f_X4_reads_L76 (N : Nat) (G : Nat → Int64) : Nat → (Nat → Nat → Int32) → Option ((Nat → Nat → Int32))
  | 0, _ => none
  | k + 1, F =>
    q_bd (f_X4_isByte N F G (F 0 4) (97 : Int32) (122 : Int32)) (fun r_35 =>
    if r_35 = 0 then
      some F
    else
      q_let (q_up F 0 4 ((F 0 4) + (1 : Int32))) (fun F_38 =>
      f_X4_reads_L76 N G k F_38))
def f_X4_reads (N : Nat) (F : Nat → Nat → Int32) (G : Nat → Int64) : Option ((Nat → Nat → Int32)) :=
  q_bd (f_X4_reads_L0 N G N F) (fun F_2 =>
  q_let (q_up F_2 0 3 (F_2 0 4)) (fun F_7 =>
  q_let (q_up F_7 0 5 (0 : Int32)) (fun F_8 =>
  if (F_8 0 4) = (F_8 0 1) then
    q_let (q_up F_8 0 2 (22 : Int32)) (fun F_42 =>
    some F_42)
  else
    q_bd (f_X4_isByte N F_8 G (F_8 0 4) (97 : Int32) (122 : Int32)) (fun r_10 =>
    if r_10 = 0 then
      q_bd (f_X4_isByte N F_8 G (F_8 0 4) (48 : Int32) (57 : Int32)) (fun r_13 =>
      if r_13 = 0 then
        q_bd (f_X4_isByte N F_8 G (F_8 0 4) (59 : Int32) (59 : Int32)) (fun r_16 =>
        if r_16 = 0 then
          f_X4_reads_B231 N F_8 G (23 : Int32)
        else
          f_X4_reads_B231 N F_8 G (21 : Int32))
      else
        q_bd (f_X4_reads_L130 N G N F_8) (fun F_22 =>
        q_let (q_up F_22 0 2 (20 : Int32)) (fun F_32 =>
        some F_32)))
    else
      q_bd (f_X4_reads_L76 N G N F_8) (fun F_34 =>
      q_bd (f_X4_wordHere N F_34 G) (fun r_39 =>
      q_let (q_up F_34 0 2 r_39) (fun F_41 =>
      some F_41)))))))
set_option maxHeartbeats 4000000 in
set_option maxRecDepth 100000 in
theorem c_X4_reads (l : Launch) (D : va_G) (y : Nat → ClassId) (t : Nat → Nat) (q : Nat → Nat) (sz N : Nat) (F : Nat → Nat → Int32) (G : Nat → Int64) (res : (Nat → Nat → Int32)) (h : f_X4_reads N F G = some res) : Met l yX4_reads wsX4_reads ({ frames := 2, cells := 0, slots := 0, locals := 46 } : Room) (pPre D y t [.ref (q 0)] (wM y q F G) sz) (pQv D y (wM y q res G) (va_A (wM y q F G) sz)) 0 0 (va_A (wM y q F G) sz) := by
  refine q_start (Qc := (fun A => pQv D y (wM y q res G) A)) (cc := cX4_reads) (maxL := 1) (ret := none) (by decide) rfl (Nat.le_of_ble_eq_true rfl) ?_
  intro p e s m below meth c A ls hx hb hr hts hown hlocks hmn hml hP hK hZ hD hA hS hl
  have hl : lv_has ls 1 [(0, .ref (q 0))] := hl
  have hown : s.vm.findClass RX4 = some m.cls := hown
  have B231 : ∀ (F : Nat → Nat → Int32) (G : Nat → Int64) (s1 : Int32) (H : Heap) (locs : List Loc) (ls : Array Slot), va_P D vwCl (wM y q F G) H → va_D A (wM y q F G) → va_S A s.heap H locs → lv_has ls 1 [(0, .ref (q 0))] → f_X4_reads_B231 N F G s1 = some res → W p l e ({ frames := 2, cells := 0, slots := 0, locals := 46 } : Room) s m ([.ref (q 0)] : List Value).toArray below meth c H locs 0 0 (MQ below (pQv D y (wM y q res G) A) ([.ref (q 0)] : List Value).toArray s 0 0 A) (F0 m 231 ls [.int s1, .ref (q 0)]) := by
    intro F G s1 H locs ls hP hD hS hl h
    unfold f_X4_reads_B231 at h
    obtain ⟨F_19, eF_19, h⟩ := q_let_ok h
    refine va_put (D := D) (ci := 4) (v := .int s1) (ty := .int) (C := RX4) (T := TX4) (N := 15) hx hb hts uX4_reads_X4 tyX4 tyX4_ok nmX4 hown hK hP hD hS 0 rfl rfl 7 (by decide) (hts _ kX4_reads_2) (fun _ h9 => h9) rfl (by decide +kernel) rfl rfl (Nat.le_of_ble_eq_true rfl) dX4_reads_231 (fun H locs hP hD hS => ?_)
    have hP : va_P D vwCl (wM y q F_19 G) H := by rw [eF_19]; exact hP
    have hD : va_D A (wM y q F_19 G) := by rw [eF_19]; exact hD
    refine lv_aload_n hx hb dX4_reads_234 rfl (lv_at hl 0 rfl) ?_
    refine lv_dup hx hb dX4_reads_235 rfl ?_
    refine va_get (D := D) (ci := 4) (v := .int (F_19 0 4)) (C := RX4) (T := TX4) (N := 15) hx hb hts uX4_reads_X4 hown hK hP 0 rfl rfl 9 (by decide) (hts _ kX4_reads_1) (fun _ h9 => h9) rfl dX4_reads_236 ?_
    refine lv_iconst (v := 1) hx hb dX4_reads_239 (by decide) ?_
    refine lv_iadd hx hb dX4_reads_240 ?_
    obtain ⟨F_20, eF_20, h⟩ := q_let_ok h
    refine va_put (D := D) (ci := 4) (v := .int ((F_19 0 4) + (1 : Int32))) (ty := .int) (C := RX4) (T := TX4) (N := 15) hx hb hts uX4_reads_X4 tyX4 tyX4_ok nmX4 hown hK hP hD hS 0 rfl rfl 9 (by decide) (hts _ kX4_reads_1) (fun _ h9 => h9) rfl (by decide +kernel) rfl rfl (Nat.le_of_ble_eq_true rfl) dX4_reads_241 (fun H locs hP hD hS => ?_)
    have hP : va_P D vwCl (wM y q F_20 G) H := by rw [eF_20]; exact hP
    have hD : va_D A (wM y q F_20 G) := by rw [eF_20]; exact hD
    have e9 := Option.some.inj h
    exact q_vret hx hb hr hlocks hK hP hD hS dX4_reads_244 (by first | rw [← e9] | rfl)
  unfold f_X4_reads at h
  obtain ⟨F_2, hL1, h⟩ := q_bd_ok h
  have K0_1 : ∀ (H : Heap) (locs : List Loc) (ls : Array Slot), va_P D vwCl (wM y q F_2 G) H → va_D A (wM y q F_2 G) → va_S A s.heap H locs → lv_has ls 1 [(0, .ref (q 0))] → W p l e ({ frames := 2, cells := 0, slots := 0, locals := 46 } : Room) s m ([.ref (q 0)] : List Value).toArray below meth c H locs 0 0 (MQ below (pQv D y (wM y q res G) A) ([.ref (q 0)] : List Value).toArray s 0 0 A) (F0 m 28 ls []) := by
    intro H locs ls hP hD hS hl
    refine lv_aload_n hx hb dX4_reads_28 rfl (lv_at hl 0 rfl) ?_
    refine lv_aload_n hx hb dX4_reads_29 rfl (lv_at hl 0 rfl) ?_
    refine va_get (D := D) (ci := 4) (v := .int (F_2 0 4)) (C := RX4) (T := TX4) (N := 15) hx hb hts uX4_reads_X4 hown hK hP 0 rfl rfl 9 (by decide) (hts _ kX4_reads_1) (fun _ h9 => h9) rfl dX4_reads_30 ?_
    obtain ⟨F_7, eF_7, h⟩ := q_let_ok h
    refine va_put (D := D) (ci := 4) (v := .int (F_2 0 4)) (ty := .int) (C := RX4) (T := TX4) (N := 15) hx hb hts uX4_reads_X4 tyX4 tyX4_ok nmX4 hown hK hP hD hS 0 rfl rfl 8 (by decide) (hts _ kX4_reads_6) (fun _ h9 => h9) rfl (by decide +kernel) rfl rfl (Nat.le_of_ble_eq_true rfl) dX4_reads_33 (fun H locs hP hD hS => ?_)
    have hP : va_P D vwCl (wM y q F_7 G) H := by rw [eF_7]; exact hP
    have hD : va_D A (wM y q F_7 G) := by rw [eF_7]; exact hD
    refine lv_aload_n hx hb dX4_reads_36 rfl (lv_at hl 0 rfl) ?_
    refine lv_iconst (v := 0) hx hb dX4_reads_37 (by decide) ?_
    obtain ⟨F_8, eF_8, h⟩ := q_let_ok h
    refine va_put (D := D) (ci := 4) (v := .int (0 : Int32)) (ty := .int) (C := RX4) (T := TX4) (N := 15) hx hb hts uX4_reads_X4 tyX4 tyX4_ok nmX4 hown hK hP hD hS 0 rfl rfl 10 (by decide) (hts _ kX4_reads_3) (fun _ h9 => h9) rfl (by decide +kernel) rfl rfl (Nat.le_of_ble_eq_true rfl) dX4_reads_38 (fun H locs hP hD hS => ?_)
    have hP : va_P D vwCl (wM y q F_8 G) H := by rw [eF_8]; exact hP
    have hD : va_D A (wM y q F_8 G) := by rw [eF_8]; exact hD
    refine lv_aload_n hx hb dX4_reads_41 rfl (lv_at hl 0 rfl) ?_
    refine va_get (D := D) (ci := 4) (v := .int (F_8 0 4)) (C := RX4) (T := TX4) (N := 15) hx hb hts uX4_reads_X4 hown hK hP 0 rfl rfl 9 (by decide) (hts _ kX4_reads_1) (fun _ h9 => h9) rfl dX4_reads_42 ?_
    refine lv_aload_n hx hb dX4_reads_45 rfl (lv_at hl 0 rfl) ?_
    refine va_get (D := D) (ci := 4) (v := .int (F_8 0 1)) (C := RX4) (T := TX4) (N := 15) hx hb hts uX4_reads_X4 hown hK hP 0 rfl rfl 6 (by decide) (hts _ kX4_reads_5) (fun _ h9 => h9) rfl dX4_reads_46 ?_
    refine lv_icmp_ne (tgt := 61) hx hb dX4_reads_49 (by decide) (fun c_9 => ?_) (fun c_9 => ?_)
    · have h := q_f c_9 h
      refine lv_aload_n hx hb dX4_reads_61 rfl (lv_at hl 0 rfl) ?_
      refine lv_aload_n hx hb dX4_reads_62 rfl (lv_at hl 0 rfl) ?_
      refine va_get (D := D) (ci := 4) (v := .int (F_8 0 4)) (C := RX4) (T := TX4) (N := 15) hx hb hts uX4_reads_X4 hown hK hP 0 rfl rfl 9 (by decide) (hts _ kX4_reads_1) (fun _ h9 => h9) rfl dX4_reads_63 ?_
      refine lv_bipush (v := 97) hx hb dX4_reads_66 (by decide) ?_
      refine lv_bipush (v := 122) hx hb dX4_reads_68 (by decide) ?_
      obtain ⟨r_10, hc_11, h⟩ := q_bd_ok h
      refine q_ci (r := r_10) (va_runV (As := [.int (F_8 0 4), .int (97 : Int32), .int (122 : Int32)]) (rest := []) ⟨hx, hb, hml, hown, hts⟩ (c_X4_isByte l D y t q _ N F_8 G (F_8 0 4) (97 : Int32) (122 : Int32) r_10 hc_11) (cwV 3 hts gX4_reads_X4_isByte rfl rfl rfl eX4_isByte ⟨Nat.le_of_ble_eq_true rfl, Nat.le_of_ble_eq_true rfl⟩) ⟨q_blind, (va_recv hK hP (ci := 4) (q0 := 0) rfl rfl), (q_pre hP hK hZ hD hA hS [0, 1, 2, 3, 4, 5, 6, 7, 8] rfl (by decide))⟩ rfl rfl hl.1 rfl (lv_room (Nat.le_of_ble_eq_true rfl)) dX4_reads_70 ⟨Nat.zero_le _, Nat.zero_le _⟩) hP hD hA hS [0, 1, 2, 3, 4, 5, 6, 7, 8] rfl (by decide) rfl (fun H locs hP hD hS => ?_)
      have hP : va_P D vwCl (wM y q F_8 G) H := hP
      have hD : va_D A (wM y q F_8 G) := hD
      refine lv_if_eq (tgt := 115) hx hb dX4_reads_73 (by decide) (fun c_12 => ?_) (fun c_12 => ?_)
      · have h := q_t c_12 h
        refine lv_aload_n hx hb dX4_reads_115 rfl (lv_at hl 0 rfl) ?_
        refine lv_aload_n hx hb dX4_reads_116 rfl (lv_at hl 0 rfl) ?_
        refine va_get (D := D) (ci := 4) (v := .int (F_8 0 4)) (C := RX4) (T := TX4) (N := 15) hx hb hts uX4_reads_X4 hown hK hP 0 rfl rfl 9 (by decide) (hts _ kX4_reads_1) (fun _ h9 => h9) rfl dX4_reads_117 ?_
        refine lv_bipush (v := 48) hx hb dX4_reads_120 (by decide) ?_
        refine lv_bipush (v := 57) hx hb dX4_reads_122 (by decide) ?_
        obtain ⟨r_13, hc_14, h⟩ := q_bd_ok h
        refine q_ci (r := r_13) (va_runV (As := [.int (F_8 0 4), .int (48 : Int32), .int (57 : Int32)]) (rest := []) ⟨hx, hb, hml, hown, hts⟩ (c_X4_isByte l D y t q _ N F_8 G (F_8 0 4) (48 : Int32) (57 : Int32) r_13 hc_14) (cwV 3 hts gX4_reads_X4_isByte rfl rfl rfl eX4_isByte ⟨Nat.le_of_ble_eq_true rfl, Nat.le_of_ble_eq_true rfl⟩) ⟨q_blind, (va_recv hK hP (ci := 4) (q0 := 0) rfl rfl), (q_pre hP hK hZ hD hA hS [0, 1, 2, 3, 4, 5, 6, 7, 8] rfl (by decide))⟩ rfl rfl hl.1 rfl (lv_room (Nat.le_of_ble_eq_true rfl)) dX4_reads_124 ⟨Nat.zero_le _, Nat.zero_le _⟩) hP hD hA hS [0, 1, 2, 3, 4, 5, 6, 7, 8] rfl (by decide) rfl (fun H locs hP hD hS => ?_)
        have hP : va_P D vwCl (wM y q F_8 G) H := hP
        have hD : va_D A (wM y q F_8 G) := hD
        refine lv_if_eq (tgt := 208) hx hb dX4_reads_127 (by decide) (fun c_15 => ?_) (fun c_15 => ?_)
        · have h := q_t c_15 h
          refine lv_aload_n hx hb dX4_reads_208 rfl (lv_at hl 0 rfl) ?_
          refine lv_aload_n hx hb dX4_reads_209 rfl (lv_at hl 0 rfl) ?_
          refine lv_aload_n hx hb dX4_reads_210 rfl (lv_at hl 0 rfl) ?_
          refine va_get (D := D) (ci := 4) (v := .int (F_8 0 4)) (C := RX4) (T := TX4) (N := 15) hx hb hts uX4_reads_X4 hown hK hP 0 rfl rfl 9 (by decide) (hts _ kX4_reads_1) (fun _ h9 => h9) rfl dX4_reads_211 ?_
          refine lv_bipush (v := 59) hx hb dX4_reads_214 (by decide) ?_
          refine lv_bipush (v := 59) hx hb dX4_reads_216 (by decide) ?_
          obtain ⟨r_16, hc_17, h⟩ := q_bd_ok h
          refine q_ci (r := r_16) (va_runV (As := [.int (F_8 0 4), .int (59 : Int32), .int (59 : Int32)]) (rest := [.ref (q 0)]) ⟨hx, hb, hml, hown, hts⟩ (c_X4_isByte l D y t q _ N F_8 G (F_8 0 4) (59 : Int32) (59 : Int32) r_16 hc_17) (cwV 3 hts gX4_reads_X4_isByte rfl rfl rfl eX4_isByte ⟨Nat.le_of_ble_eq_true rfl, Nat.le_of_ble_eq_true rfl⟩) ⟨q_blind, (va_recv hK hP (ci := 4) (q0 := 0) rfl rfl), (q_pre hP hK hZ hD hA hS [0, 1, 2, 3, 4, 5, 6, 7, 8] rfl (by decide))⟩ rfl rfl hl.1 rfl (lv_room (Nat.le_of_ble_eq_true rfl)) dX4_reads_218 ⟨Nat.zero_le _, Nat.zero_le _⟩) hP hD hA hS [0, 1, 2, 3, 4, 5, 6, 7, 8] rfl (by decide) rfl (fun H locs hP hD hS => ?_)
          have hP : va_P D vwCl (wM y q F_8 G) H := hP
          have hD : va_D A (wM y q F_8 G) := hD
          refine lv_if_eq (tgt := 229) hx hb dX4_reads_221 (by decide) (fun c_18 => ?_) (fun c_18 => ?_)
          · have h := q_t c_18 h
            refine lv_bipush (v := 23) hx hb dX4_reads_229 (by decide) ?_
            exact B231 F_8 G (23 : Int32) _ _ _ hP hD hS (lv_sub hl [0] rfl) h
          · have h := q_f c_18 h
            refine lv_bipush (v := 21) hx hb dX4_reads_224 (by decide) ?_
            refine lv_goto (tgt := 231) hx hb dX4_reads_226 (by decide) ?_
            exact B231 F_8 G (21 : Int32) _ _ _ hP hD hS (lv_sub hl [0] rfl) h
        · have h := q_f c_15 h
          obtain ⟨F_22, hL21, h⟩ := q_bd_ok h
          have K130_21 : ∀ (H : Heap) (locs : List Loc) (ls : Array Slot), va_P D vwCl (wM y q F_22 G) H → va_D A (wM y q F_22 G) → va_S A s.heap H locs → lv_has ls 1 [(0, .ref (q 0))] → W p l e ({ frames := 2, cells := 0, slots := 0, locals := 46 } : Room) s m ([.ref (q 0)] : List Value).toArray below meth c H locs 0 0 (MQ below (pQv D y (wM y q res G) A) ([.ref (q 0)] : List Value).toArray s 0 0 A) (F0 m 199 ls []) := by
            intro H locs ls hP hD hS hl
            refine lv_aload_n hx hb dX4_reads_199 rfl (lv_at hl 0 rfl) ?_
            refine lv_bipush (v := 20) hx hb dX4_reads_200 (by decide) ?_
            obtain ⟨F_32, eF_32, h⟩ := q_let_ok h
            refine va_put (D := D) (ci := 4) (v := .int (20 : Int32)) (ty := .int) (C := RX4) (T := TX4) (N := 15) hx hb hts uX4_reads_X4 tyX4 tyX4_ok nmX4 hown hK hP hD hS 0 rfl rfl 7 (by decide) (hts _ kX4_reads_2) (fun _ h9 => h9) rfl (by decide +kernel) rfl rfl (Nat.le_of_ble_eq_true rfl) dX4_reads_202 (fun H locs hP hD hS => ?_)
            have hP : va_P D vwCl (wM y q F_32 G) H := by rw [eF_32]; exact hP
            have hD : va_D A (wM y q F_32 G) := by rw [eF_32]; exact hD
            refine lv_goto (tgt := 244) hx hb dX4_reads_205 (by decide) ?_
            have e9 := Option.some.inj h
            exact q_vret hx hb hr hlocks hK hP hD hS dX4_reads_244 (by first | rw [← e9] | rfl)
          have L130_21 : ∀ (G : Nat → Int64) (k : Nat) (F : Nat → Nat → Int32), (∀ (H : Heap) (locs : List Loc) (ls : Array Slot), va_P D vwCl (wM y q F_22 G) H → va_D A (wM y q F_22 G) → va_S A s.heap H locs → lv_has ls 1 [(0, .ref (q 0))] → W p l e ({ frames := 2, cells := 0, slots := 0, locals := 46 } : Room) s m ([.ref (q 0)] : List Value).toArray below meth c H locs 0 0 (MQ below (pQv D y (wM y q res G) A) ([.ref (q 0)] : List Value).toArray s 0 0 A) (F0 m 199 ls [])) → ∀ (H : Heap) (locs : List Loc) (ls : Array Slot), va_P D vwCl (wM y q F G) H → va_D A (wM y q F G) → va_S A s.heap H locs → lv_has ls 1 [(0, .ref (q 0))] → f_X4_reads_L130 N G k F = some F_22 → W p l e ({ frames := 2, cells := 0, slots := 0, locals := 46 } : Room) s m ([.ref (q 0)] : List Value).toArray below meth c H locs 0 0 (MQ below (pQv D y (wM y q res G) A) ([.ref (q 0)] : List Value).toArray s 0 0 A) (F0 m 130 ls []) := by
            intro G k
            induction k with
            | zero =>
              intro F K130_21 H locs ls hP hD hS hl h
              have h : (none : Option ((Nat → Nat → Int32))) = some _ := h
              cases h
            | succ k ih130_21 =>
              intro F K130_21 H locs ls hP hD hS hl h
              rw [f_X4_reads_L130] at h
              refine lv_aload_n hx hb dX4_reads_130 rfl (lv_at hl 0 rfl) ?_
              refine lv_aload_n hx hb dX4_reads_131 rfl (lv_at hl 0 rfl) ?_
              refine va_get (D := D) (ci := 4) (v := .int (F 0 4)) (C := RX4) (T := TX4) (N := 15) hx hb hts uX4_reads_X4 hown hK hP 0 rfl rfl 9 (by decide) (hts _ kX4_reads_1) (fun _ h9 => h9) rfl dX4_reads_132 ?_
              refine lv_bipush (v := 48) hx hb dX4_reads_135 (by decide) ?_
              refine lv_bipush (v := 57) hx hb dX4_reads_137 (by decide) ?_
              obtain ⟨r_23, hc_24, h⟩ := q_bd_ok h
              refine q_ci (r := r_23) (va_runV (As := [.int (F 0 4), .int (48 : Int32), .int (57 : Int32)]) (rest := []) ⟨hx, hb, hml, hown, hts⟩ (c_X4_isByte l D y t q _ N F G (F 0 4) (48 : Int32) (57 : Int32) r_23 hc_24) (cwV 3 hts gX4_reads_X4_isByte rfl rfl rfl eX4_isByte ⟨Nat.le_of_ble_eq_true rfl, Nat.le_of_ble_eq_true rfl⟩) ⟨q_blind, (va_recv hK hP (ci := 4) (q0 := 0) rfl rfl), (q_pre hP hK hZ hD hA hS [0, 1, 2, 3, 4, 5, 6, 7, 8] rfl (by decide))⟩ rfl rfl hl.1 rfl (lv_room (Nat.le_of_ble_eq_true rfl)) dX4_reads_139 ⟨Nat.zero_le _, Nat.zero_le _⟩) hP hD hA hS [0, 1, 2, 3, 4, 5, 6, 7, 8] rfl (by decide) rfl (fun H locs hP hD hS => ?_)
              have hP : va_P D vwCl (wM y q F G) H := hP
              have hD : va_D A (wM y q F G) := hD
              refine lv_if_eq (tgt := 199) hx hb dX4_reads_142 (by decide) (fun c_25 => ?_) (fun c_25 => ?_)
              · have h := q_t c_25 h
                cases h
                exact K130_21 _ _ _ hP hD hS (lv_sub hl [0] rfl)
              · have h := q_f c_25 h
                refine lv_aload_n hx hb dX4_reads_145 rfl (lv_at hl 0 rfl) ?_
                refine lv_aload_n hx hb dX4_reads_146 rfl (lv_at hl 0 rfl) ?_
                refine va_get (D := D) (ci := 4) (v := .int (F 0 5)) (C := RX4) (T := TX4) (N := 15) hx hb hts uX4_reads_X4 hown hK hP 0 rfl rfl 10 (by decide) (hts _ kX4_reads_3) (fun _ h9 => h9) rfl dX4_reads_147 ?_
                refine lv_sipush (v := 999) hx hb dX4_reads_150 (by decide) ?_
                refine lv_icmp_le (tgt := 163) hx hb dX4_reads_153 (by decide) (fun c_26 => ?_) (fun c_26 => ?_)
                · have h := q_t c_26 h
                  refine lv_bipush (v := 10) hx hb dX4_reads_163 (by decide) ?_
                  refine lv_aload_n hx hb dX4_reads_165 rfl (lv_at hl 0 rfl) ?_
                  refine va_get (D := D) (ci := 4) (v := .int (F 0 5)) (C := RX4) (T := TX4) (N := 15) hx hb hts uX4_reads_X4 hown hK hP 0 rfl rfl 10 (by decide) (hts _ kX4_reads_3) (fun _ h9 => h9) rfl dX4_reads_166 ?_
                  refine lv_imul hx hb dX4_reads_169 ?_
                  refine lv_aload_n hx hb dX4_reads_170 rfl (lv_at hl 0 rfl) ?_
                  refine va_get (D := D) (ci := 4) (v := .ref (q 5)) (C := RX4) (T := TX4) (N := 15) hx hb hts uX4_reads_X4 hown hK hP 0 rfl rfl 5 (by decide) (hts _ kX4_reads_4) (fun _ h9 => h9) rfl dX4_reads_171 ?_
                  refine lv_aload_n hx hb dX4_reads_174 rfl (lv_at hl 0 rfl) ?_
                  refine va_get (D := D) (ci := 4) (v := .int (F 0 4)) (C := RX4) (T := TX4) (N := 15) hx hb hts uX4_reads_X4 hown hK hP 0 rfl rfl 9 (by decide) (hts _ kX4_reads_1) (fun _ h9 => h9) rfl dX4_reads_175 ?_
                  obtain ⟨z_27, h⟩ := q_grd_ok h
                  refine va_iald hx hb hK hP 5 0 rfl rfl z_27 dX4_reads_178 ?_
                  refine lv_iadd hx hb dX4_reads_179 ?_
                  refine lv_bipush (v := 48) hx hb dX4_reads_180 (by decide) ?_
                  refine lv_isub hx hb dX4_reads_182 ?_
                  obtain ⟨F_28, eF_28, h⟩ := q_let_ok h
                  refine va_put (D := D) (ci := 4) (v := .int ((((10 : Int32) * (F 0 5)) + (F 5 (F 0 4).toNatClampNeg)) - (48 : Int32))) (ty := .int) (C := RX4) (T := TX4) (N := 15) hx hb hts uX4_reads_X4 tyX4 tyX4_ok nmX4 hown hK hP hD hS 0 rfl rfl 10 (by decide) (hts _ kX4_reads_3) (fun _ h9 => h9) rfl (by decide +kernel) rfl rfl (Nat.le_of_ble_eq_true rfl) dX4_reads_183 (fun H locs hP hD hS => ?_)
                  have hP : va_P D vwCl (wM y q F_28 G) H := by rw [eF_28]; exact hP
                  have hD : va_D A (wM y q F_28 G) := by rw [eF_28]; exact hD
                  refine lv_aload_n hx hb dX4_reads_186 rfl (lv_at hl 0 rfl) ?_
                  refine lv_dup hx hb dX4_reads_187 rfl ?_
                  refine va_get (D := D) (ci := 4) (v := .int (F_28 0 4)) (C := RX4) (T := TX4) (N := 15) hx hb hts uX4_reads_X4 hown hK hP 0 rfl rfl 9 (by decide) (hts _ kX4_reads_1) (fun _ h9 => h9) rfl dX4_reads_188 ?_
                  refine lv_iconst (v := 1) hx hb dX4_reads_191 (by decide) ?_
                  refine lv_iadd hx hb dX4_reads_192 ?_
                  obtain ⟨F_29, eF_29, h⟩ := q_let_ok h
                  refine va_put (D := D) (ci := 4) (v := .int ((F_28 0 4) + (1 : Int32))) (ty := .int) (C := RX4) (T := TX4) (N := 15) hx hb hts uX4_reads_X4 tyX4 tyX4_ok nmX4 hown hK hP hD hS 0 rfl rfl 9 (by decide) (hts _ kX4_reads_1) (fun _ h9 => h9) rfl (by decide +kernel) rfl rfl (Nat.le_of_ble_eq_true rfl) dX4_reads_193 (fun H locs hP hD hS => ?_)
                  have hP : va_P D vwCl (wM y q F_29 G) H := by rw [eF_29]; exact hP
                  have hD : va_D A (wM y q F_29 G) := by rw [eF_29]; exact hD
                  refine lv_goto (tgt := 130) hx hb dX4_reads_196 (by decide) ?_
                  exact ih130_21 F_29 K130_21 _ _ _ hP hD hS (lv_sub hl [0] rfl) h
                · have h := q_f c_26 h
                  refine lv_aload_n hx hb dX4_reads_156 rfl (lv_at hl 0 rfl) ?_
                  refine va_get (D := D) (ci := 4) (v := .int (F 0 5)) (C := RX4) (T := TX4) (N := 15) hx hb hts uX4_reads_X4 hown hK hP 0 rfl rfl 10 (by decide) (hts _ kX4_reads_3) (fun _ h9 => h9) rfl dX4_reads_157 ?_
                  refine lv_goto (tgt := 183) hx hb dX4_reads_160 (by decide) ?_
                  obtain ⟨F_30, eF_30, h⟩ := q_let_ok h
                  refine va_put (D := D) (ci := 4) (v := .int (F 0 5)) (ty := .int) (C := RX4) (T := TX4) (N := 15) hx hb hts uX4_reads_X4 tyX4 tyX4_ok nmX4 hown hK hP hD hS 0 rfl rfl 10 (by decide) (hts _ kX4_reads_3) (fun _ h9 => h9) rfl (by decide +kernel) rfl rfl (Nat.le_of_ble_eq_true rfl) dX4_reads_183 (fun H locs hP hD hS => ?_)
                  have hP : va_P D vwCl (wM y q F_30 G) H := by rw [eF_30]; exact hP
                  have hD : va_D A (wM y q F_30 G) := by rw [eF_30]; exact hD
                  refine lv_aload_n hx hb dX4_reads_186 rfl (lv_at hl 0 rfl) ?_
                  refine lv_dup hx hb dX4_reads_187 rfl ?_
                  refine va_get (D := D) (ci := 4) (v := .int (F_30 0 4)) (C := RX4) (T := TX4) (N := 15) hx hb hts uX4_reads_X4 hown hK hP 0 rfl rfl 9 (by decide) (hts _ kX4_reads_1) (fun _ h9 => h9) rfl dX4_reads_188 ?_
                  refine lv_iconst (v := 1) hx hb dX4_reads_191 (by decide) ?_
                  refine lv_iadd hx hb dX4_reads_192 ?_
                  obtain ⟨F_31, eF_31, h⟩ := q_let_ok h
                  refine va_put (D := D) (ci := 4) (v := .int ((F_30 0 4) + (1 : Int32))) (ty := .int) (C := RX4) (T := TX4) (N := 15) hx hb hts uX4_reads_X4 tyX4 tyX4_ok nmX4 hown hK hP hD hS 0 rfl rfl 9 (by decide) (hts _ kX4_reads_1) (fun _ h9 => h9) rfl (by decide +kernel) rfl rfl (Nat.le_of_ble_eq_true rfl) dX4_reads_193 (fun H locs hP hD hS => ?_)
                  have hP : va_P D vwCl (wM y q F_31 G) H := by rw [eF_31]; exact hP
                  have hD : va_D A (wM y q F_31 G) := by rw [eF_31]; exact hD
                  refine lv_goto (tgt := 130) hx hb dX4_reads_196 (by decide) ?_
                  exact ih130_21 F_31 K130_21 _ _ _ hP hD hS (lv_sub hl [0] rfl) h
          exact L130_21 G N F_8 K130_21 _ _ _ hP hD hS (lv_sub hl [0] rfl) hL21
      · have h := q_f c_12 h
        obtain ⟨F_34, hL33, h⟩ := q_bd_ok h
        have K76_33 : ∀ (H : Heap) (locs : List Loc) (ls : Array Slot), va_P D vwCl (wM y q F_34 G) H → va_D A (wM y q F_34 G) → va_S A s.heap H locs → lv_has ls 1 [(0, .ref (q 0))] → W p l e ({ frames := 2, cells := 0, slots := 0, locals := 46 } : Room) s m ([.ref (q 0)] : List Value).toArray below meth c H locs 0 0 (MQ below (pQv D y (wM y q res G) A) ([.ref (q 0)] : List Value).toArray s 0 0 A) (F0 m 104 ls []) := by
          intro H locs ls hP hD hS hl
          refine lv_aload_n hx hb dX4_reads_104 rfl (lv_at hl 0 rfl) ?_
          refine lv_aload_n hx hb dX4_reads_105 rfl (lv_at hl 0 rfl) ?_
          obtain ⟨r_39, hc_40, h⟩ := q_bd_ok h
          refine q_ci (r := r_39) (va_runV (As := []) (rest := [.ref (q 0)]) ⟨hx, hb, hml, hown, hts⟩ (c_X4_wordHere l D y t q _ N F_34 G r_39 hc_40) (cwV 0 hts gX4_reads_X4_wordHere rfl rfl rfl eX4_wordHere ⟨Nat.le_of_ble_eq_true rfl, Nat.le_of_ble_eq_true rfl⟩) ⟨q_blind, (va_recv hK hP (ci := 4) (q0 := 0) rfl rfl), (q_pre hP hK hZ hD hA hS [0, 1, 2, 3, 4, 5, 6, 7, 8] rfl (by decide))⟩ rfl rfl hl.1 rfl (lv_room (Nat.le_of_ble_eq_true rfl)) dX4_reads_106 ⟨Nat.zero_le _, Nat.zero_le _⟩) hP hD hA hS [0, 1, 2, 3, 4, 5, 6, 7, 8] rfl (by decide) rfl (fun H locs hP hD hS => ?_)
          have hP : va_P D vwCl (wM y q F_34 G) H := hP
          have hD : va_D A (wM y q F_34 G) := hD
          obtain ⟨F_41, eF_41, h⟩ := q_let_ok h
          refine va_put (D := D) (ci := 4) (v := .int r_39) (ty := .int) (C := RX4) (T := TX4) (N := 15) hx hb hts uX4_reads_X4 tyX4 tyX4_ok nmX4 hown hK hP hD hS 0 rfl rfl 7 (by decide) (hts _ kX4_reads_2) (fun _ h9 => h9) rfl (by decide +kernel) rfl rfl (Nat.le_of_ble_eq_true rfl) dX4_reads_109 (fun H locs hP hD hS => ?_)
          have hP : va_P D vwCl (wM y q F_41 G) H := by rw [eF_41]; exact hP
          have hD : va_D A (wM y q F_41 G) := by rw [eF_41]; exact hD
          refine lv_goto (tgt := 244) hx hb dX4_reads_112 (by decide) ?_
          have e9 := Option.some.inj h
          exact q_vret hx hb hr hlocks hK hP hD hS dX4_reads_244 (by first | rw [← e9] | rfl)
        have L76_33 : ∀ (G : Nat → Int64) (k : Nat) (F : Nat → Nat → Int32), (∀ (H : Heap) (locs : List Loc) (ls : Array Slot), va_P D vwCl (wM y q F_34 G) H → va_D A (wM y q F_34 G) → va_S A s.heap H locs → lv_has ls 1 [(0, .ref (q 0))] → W p l e ({ frames := 2, cells := 0, slots := 0, locals := 46 } : Room) s m ([.ref (q 0)] : List Value).toArray below meth c H locs 0 0 (MQ below (pQv D y (wM y q res G) A) ([.ref (q 0)] : List Value).toArray s 0 0 A) (F0 m 104 ls [])) → ∀ (H : Heap) (locs : List Loc) (ls : Array Slot), va_P D vwCl (wM y q F G) H → va_D A (wM y q F G) → va_S A s.heap H locs → lv_has ls 1 [(0, .ref (q 0))] → f_X4_reads_L76 N G k F = some F_34 → W p l e ({ frames := 2, cells := 0, slots := 0, locals := 46 } : Room) s m ([.ref (q 0)] : List Value).toArray below meth c H locs 0 0 (MQ below (pQv D y (wM y q res G) A) ([.ref (q 0)] : List Value).toArray s 0 0 A) (F0 m 76 ls []) := by
          intro G k
          induction k with
          | zero =>
            intro F K76_33 H locs ls hP hD hS hl h
            have h : (none : Option ((Nat → Nat → Int32))) = some _ := h
            cases h
          | succ k ih76_33 =>
            intro F K76_33 H locs ls hP hD hS hl h
            rw [f_X4_reads_L76] at h
            refine lv_aload_n hx hb dX4_reads_76 rfl (lv_at hl 0 rfl) ?_
            refine lv_aload_n hx hb dX4_reads_77 rfl (lv_at hl 0 rfl) ?_
            refine va_get (D := D) (ci := 4) (v := .int (F 0 4)) (C := RX4) (T := TX4) (N := 15) hx hb hts uX4_reads_X4 hown hK hP 0 rfl rfl 9 (by decide) (hts _ kX4_reads_1) (fun _ h9 => h9) rfl dX4_reads_78 ?_
            refine lv_bipush (v := 97) hx hb dX4_reads_81 (by decide) ?_
            refine lv_bipush (v := 122) hx hb dX4_reads_83 (by decide) ?_
            obtain ⟨r_35, hc_36, h⟩ := q_bd_ok h
            refine q_ci (r := r_35) (va_runV (As := [.int (F 0 4), .int (97 : Int32), .int (122 : Int32)]) (rest := []) ⟨hx, hb, hml, hown, hts⟩ (c_X4_isByte l D y t q _ N F G (F 0 4) (97 : Int32) (122 : Int32) r_35 hc_36) (cwV 3 hts gX4_reads_X4_isByte rfl rfl rfl eX4_isByte ⟨Nat.le_of_ble_eq_true rfl, Nat.le_of_ble_eq_true rfl⟩) ⟨q_blind, (va_recv hK hP (ci := 4) (q0 := 0) rfl rfl), (q_pre hP hK hZ hD hA hS [0, 1, 2, 3, 4, 5, 6, 7, 8] rfl (by decide))⟩ rfl rfl hl.1 rfl (lv_room (Nat.le_of_ble_eq_true rfl)) dX4_reads_85 ⟨Nat.zero_le _, Nat.zero_le _⟩) hP hD hA hS [0, 1, 2, 3, 4, 5, 6, 7, 8] rfl (by decide) rfl (fun H locs hP hD hS => ?_)
            have hP : va_P D vwCl (wM y q F G) H := hP
            have hD : va_D A (wM y q F G) := hD
            refine lv_if_eq (tgt := 104) hx hb dX4_reads_88 (by decide) (fun c_37 => ?_) (fun c_37 => ?_)
            · have h := q_t c_37 h
              cases h
              exact K76_33 _ _ _ hP hD hS (lv_sub hl [0] rfl)
            · have h := q_f c_37 h
              refine lv_aload_n hx hb dX4_reads_91 rfl (lv_at hl 0 rfl) ?_
              refine lv_dup hx hb dX4_reads_92 rfl ?_
              refine va_get (D := D) (ci := 4) (v := .int (F 0 4)) (C := RX4) (T := TX4) (N := 15) hx hb hts uX4_reads_X4 hown hK hP 0 rfl rfl 9 (by decide) (hts _ kX4_reads_1) (fun _ h9 => h9) rfl dX4_reads_93 ?_
              refine lv_iconst (v := 1) hx hb dX4_reads_96 (by decide) ?_
              refine lv_iadd hx hb dX4_reads_97 ?_
              obtain ⟨F_38, eF_38, h⟩ := q_let_ok h
              refine va_put (D := D) (ci := 4) (v := .int ((F 0 4) + (1 : Int32))) (ty := .int) (C := RX4) (T := TX4) (N := 15) hx hb hts uX4_reads_X4 tyX4 tyX4_ok nmX4 hown hK hP hD hS 0 rfl rfl 9 (by decide) (hts _ kX4_reads_1) (fun _ h9 => h9) rfl (by decide +kernel) rfl rfl (Nat.le_of_ble_eq_true rfl) dX4_reads_98 (fun H locs hP hD hS => ?_)
              have hP : va_P D vwCl (wM y q F_38 G) H := by rw [eF_38]; exact hP
              have hD : va_D A (wM y q F_38 G) := by rw [eF_38]; exact hD
              refine lv_goto (tgt := 76) hx hb dX4_reads_101 (by decide) ?_
              exact ih76_33 F_38 K76_33 _ _ _ hP hD hS (lv_sub hl [0] rfl) h
        exact L76_33 G N F_8 K76_33 _ _ _ hP hD hS (lv_sub hl [0] rfl) hL33
    · have h := q_t c_9 h
      refine lv_aload_n hx hb dX4_reads_52 rfl (lv_at hl 0 rfl) ?_
      refine lv_bipush (v := 22) hx hb dX4_reads_53 (by decide) ?_
      obtain ⟨F_42, eF_42, h⟩ := q_let_ok h
      refine va_put (D := D) (ci := 4) (v := .int (22 : Int32)) (ty := .int) (C := RX4) (T := TX4) (N := 15) hx hb hts uX4_reads_X4 tyX4 tyX4_ok nmX4 hown hK hP hD hS 0 rfl rfl 7 (by decide) (hts _ kX4_reads_2) (fun _ h9 => h9) rfl (by decide +kernel) rfl rfl (Nat.le_of_ble_eq_true rfl) dX4_reads_55 (fun H locs hP hD hS => ?_)
      have hP : va_P D vwCl (wM y q F_42 G) H := by rw [eF_42]; exact hP
      have hD : va_D A (wM y q F_42 G) := by rw [eF_42]; exact hD
      refine lv_goto (tgt := 244) hx hb dX4_reads_58 (by decide) ?_
      have e9 := Option.some.inj h
      exact q_vret hx hb hr hlocks hK hP hD hS dX4_reads_244 (by first | rw [← e9] | rfl)
  have L0_1 : ∀ (G : Nat → Int64) (k : Nat) (F : Nat → Nat → Int32), (∀ (H : Heap) (locs : List Loc) (ls : Array Slot), va_P D vwCl (wM y q F_2 G) H → va_D A (wM y q F_2 G) → va_S A s.heap H locs → lv_has ls 1 [(0, .ref (q 0))] → W p l e ({ frames := 2, cells := 0, slots := 0, locals := 46 } : Room) s m ([.ref (q 0)] : List Value).toArray below meth c H locs 0 0 (MQ below (pQv D y (wM y q res G) A) ([.ref (q 0)] : List Value).toArray s 0 0 A) (F0 m 28 ls [])) → ∀ (H : Heap) (locs : List Loc) (ls : Array Slot), va_P D vwCl (wM y q F G) H → va_D A (wM y q F G) → va_S A s.heap H locs → lv_has ls 1 [(0, .ref (q 0))] → f_X4_reads_L0 N G k F = some F_2 → W p l e ({ frames := 2, cells := 0, slots := 0, locals := 46 } : Room) s m ([.ref (q 0)] : List Value).toArray below meth c H locs 0 0 (MQ below (pQv D y (wM y q res G) A) ([.ref (q 0)] : List Value).toArray s 0 0 A) (F0 m 0 ls []) := by
    intro G k
    induction k with
    | zero =>
      intro F K0_1 H locs ls hP hD hS hl h
      have h : (none : Option ((Nat → Nat → Int32))) = some _ := h
      cases h
    | succ k ih0_1 =>
      intro F K0_1 H locs ls hP hD hS hl h
      rw [f_X4_reads_L0] at h
      refine lv_aload_n hx hb dX4_reads_0 rfl (lv_at hl 0 rfl) ?_
      refine lv_aload_n hx hb dX4_reads_1 rfl (lv_at hl 0 rfl) ?_
      refine va_get (D := D) (ci := 4) (v := .int (F 0 4)) (C := RX4) (T := TX4) (N := 15) hx hb hts uX4_reads_X4 hown hK hP 0 rfl rfl 9 (by decide) (hts _ kX4_reads_1) (fun _ h9 => h9) rfl dX4_reads_2 ?_
      refine lv_bipush (v := 32) hx hb dX4_reads_5 (by decide) ?_
      refine lv_bipush (v := 32) hx hb dX4_reads_7 (by decide) ?_
      obtain ⟨r_3, hc_4, h⟩ := q_bd_ok h
      refine q_ci (r := r_3) (va_runV (As := [.int (F 0 4), .int (32 : Int32), .int (32 : Int32)]) (rest := []) ⟨hx, hb, hml, hown, hts⟩ (c_X4_isByte l D y t q _ N F G (F 0 4) (32 : Int32) (32 : Int32) r_3 hc_4) (cwV 3 hts gX4_reads_X4_isByte rfl rfl rfl eX4_isByte ⟨Nat.le_of_ble_eq_true rfl, Nat.le_of_ble_eq_true rfl⟩) ⟨q_blind, (va_recv hK hP (ci := 4) (q0 := 0) rfl rfl), (q_pre hP hK hZ hD hA hS [0, 1, 2, 3, 4, 5, 6, 7, 8] rfl (by decide))⟩ rfl rfl hl.1 rfl (lv_room (Nat.le_of_ble_eq_true rfl)) dX4_reads_9 ⟨Nat.zero_le _, Nat.zero_le _⟩) hP hD hA hS [0, 1, 2, 3, 4, 5, 6, 7, 8] rfl (by decide) rfl (fun H locs hP hD hS => ?_)
      have hP : va_P D vwCl (wM y q F G) H := hP
      have hD : va_D A (wM y q F G) := hD
      refine lv_if_eq (tgt := 28) hx hb dX4_reads_12 (by decide) (fun c_5 => ?_) (fun c_5 => ?_)
      · have h := q_t c_5 h
        cases h
        exact K0_1 _ _ _ hP hD hS (lv_sub hl [0] rfl)
      · have h := q_f c_5 h
        refine lv_aload_n hx hb dX4_reads_15 rfl (lv_at hl 0 rfl) ?_
        refine lv_dup hx hb dX4_reads_16 rfl ?_
        refine va_get (D := D) (ci := 4) (v := .int (F 0 4)) (C := RX4) (T := TX4) (N := 15) hx hb hts uX4_reads_X4 hown hK hP 0 rfl rfl 9 (by decide) (hts _ kX4_reads_1) (fun _ h9 => h9) rfl dX4_reads_17 ?_
        refine lv_iconst (v := 1) hx hb dX4_reads_20 (by decide) ?_
        refine lv_iadd hx hb dX4_reads_21 ?_
        obtain ⟨F_6, eF_6, h⟩ := q_let_ok h
        refine va_put (D := D) (ci := 4) (v := .int ((F 0 4) + (1 : Int32))) (ty := .int) (C := RX4) (T := TX4) (N := 15) hx hb hts uX4_reads_X4 tyX4 tyX4_ok nmX4 hown hK hP hD hS 0 rfl rfl 9 (by decide) (hts _ kX4_reads_1) (fun _ h9 => h9) rfl (by decide +kernel) rfl rfl (Nat.le_of_ble_eq_true rfl) dX4_reads_22 (fun H locs hP hD hS => ?_)
        have hP : va_P D vwCl (wM y q F_6 G) H := by rw [eF_6]; exact hP
        have hD : va_D A (wM y q F_6 G) := by rw [eF_6]; exact hD
        refine lv_goto (tgt := 0) hx hb dX4_reads_25 (by decide) ?_
        exact ih0_1 F_6 K0_1 _ _ _ hP hD hS (lv_sub hl [0] rfl) h
  exact L0_1 G N F K0_1 _ _ _ hP hD hS (lv_sub hl [0] rfl) hL1
theorem eX4_reads : yX4_reads.cls = RX4 ∧ yX4_reads.cls ≠ "java/lang/invoke/MethodHandle" ∧ yX4_reads.cls ≠ "java/lang/invoke/VarHandle" ∧ (parseMethodDescriptor yX4_reads.desc).map (fun d => d.parameters.length) = some 0 := by decide +kernel
theorem uX4_passesBy_X4 : ∀ w ∈ u_ws RX4 TX4 15, w ∈ wsX4_passesBy := by decide +kernel
theorem kX4_passesBy_1 : Cond.fieldLink RX4 182 "BeamSeatsModel" "token" "I" ∈ wsX4_passesBy := List.mem_of_getElem? (i := 2) (by decide +kernel)
theorem kX4_passesBy_2 : Cond.fieldLink RX4 188 "BeamSeatsModel" "bad" "Z" ∈ wsX4_passesBy := List.mem_of_getElem? (i := 1) (by decide +kernel)
def f_X4_passesBy (N : Nat) (F : Nat → Nat → Int32) (G : Nat → Int64) (p1 : Int32) : Option (Int32 × (Nat → Nat → Int32)) :=
  if (F 0 6) = 0 then
    if (F 0 2) = p1 then
      q_bd (f_X4_reads N F G) (fun F_3 =>
      some ((1 : Int32), F_3))
    else
      some ((0 : Int32), F)
  else
    some ((0 : Int32), F)
set_option maxHeartbeats 4000000 in
set_option maxRecDepth 100000 in
theorem c_X4_passesBy (l : Launch) (D : va_G) (y : Nat → ClassId) (t : Nat → Nat) (q : Nat → Nat) (sz N : Nat) (F : Nat → Nat → Int32) (G : Nat → Int64) (p1 : Int32) (res : Int32 × (Nat → Nat → Int32)) (h : f_X4_passesBy N F G p1 = some res) : Met l yX4_passesBy wsX4_passesBy ({ frames := 3, cells := 0, slots := 0, locals := 66 } : Room) (pPre D y t [.ref (q 0), .int p1] (wM y q F G) sz) (pQi D y (res.1) (wM y q (res.2) G) (va_A (wM y q F G) sz)) 0 0 (va_A (wM y q F G) sz) := by
  refine q_start (Qc := (fun A => pQi D y (res.1) (wM y q (res.2) G) A)) (cc := cX4_passesBy) (maxL := 2) (ret := (some .boolean)) (by decide) rfl (Nat.le_of_ble_eq_true rfl) ?_
  intro p e s m below meth c A ls hx hb hr hts hown hlocks hmn hml hP hK hZ hD hA hS hl
  have hl : lv_has ls 2 [(0, .ref (q 0)), (1, .int p1)] := hl
  have hown : s.vm.findClass RX4 = some m.cls := hown
  unfold f_X4_passesBy at h
  refine lv_aload_n hx hb dX4_passesBy_0 rfl (lv_at hl 0 rfl) ?_
  refine va_get (D := D) (ci := 4) (v := .int (F 0 6)) (C := RX4) (T := TX4) (N := 15) hx hb hts uX4_passesBy_X4 hown hK hP 0 rfl rfl 11 (by decide) (hts _ kX4_passesBy_2) (fun _ h9 => h9) rfl dX4_passesBy_1 ?_
  refine lv_if_ne (tgt := 15) hx hb dX4_passesBy_4 (by decide) (fun c_1 => ?_) (fun c_1 => ?_)
  · have h := q_f c_1 h
    refine lv_iconst (v := 0) hx hb dX4_passesBy_15 (by decide) ?_
    have e9 := Option.some.inj h
    exact q_zret hx hb hr hlocks hK hP hD hS dX4_passesBy_16 rfl (by first | rw [← e9] | rfl) (by first | rw [← e9] | rfl)
  · have h := q_t c_1 h
    refine lv_aload_n hx hb dX4_passesBy_7 rfl (lv_at hl 0 rfl) ?_
    refine va_get (D := D) (ci := 4) (v := .int (F 0 2)) (C := RX4) (T := TX4) (N := 15) hx hb hts uX4_passesBy_X4 hown hK hP 0 rfl rfl 7 (by decide) (hts _ kX4_passesBy_1) (fun _ h9 => h9) rfl dX4_passesBy_8 ?_
    refine lv_iload_n hx hb dX4_passesBy_11 rfl (lv_at hl 1 rfl) ?_
    refine lv_icmp_eq (tgt := 17) hx hb dX4_passesBy_12 (by decide) (fun c_2 => ?_) (fun c_2 => ?_)
    · have h := q_t c_2 h
      refine lv_aload_n hx hb dX4_passesBy_17 rfl (lv_at hl 0 rfl) ?_
      obtain ⟨F_3, hc_4, h⟩ := q_bd_ok h
      refine q_cv (va_runV (As := []) (rest := []) ⟨hx, hb, hml, hown, hts⟩ (c_X4_reads l D y t q _ N F G F_3 hc_4) (cwV 0 hts gX4_passesBy_X4_reads rfl rfl rfl eX4_reads ⟨Nat.le_of_ble_eq_true rfl, Nat.le_of_ble_eq_true rfl⟩) ⟨q_blind, (va_recv hK hP (ci := 4) (q0 := 0) rfl rfl), (q_pre hP hK hZ hD hA hS [0, 1, 2, 3, 4, 5, 6, 7, 8] rfl (by decide))⟩ rfl rfl hl.1 rfl (lv_room (Nat.le_of_ble_eq_true rfl)) dX4_passesBy_18 ⟨Nat.zero_le _, Nat.zero_le _⟩) hP hD hA hS [0, 1, 2, 3, 4, 5, 6, 7, 8] rfl (by decide) rfl (fun H locs hP hD hS => ?_)
      have hP : va_P D vwCl (wM y q F_3 G) H := hP
      have hD : va_D A (wM y q F_3 G) := hD
      refine lv_iconst (v := 1) hx hb dX4_passesBy_21 (by decide) ?_
      have e9 := Option.some.inj h
      exact q_zret hx hb hr hlocks hK hP hD hS dX4_passesBy_22 rfl (by first | rw [← e9] | rfl) (by first | rw [← e9] | rfl)
    · have h := q_f c_2 h
      refine lv_iconst (v := 0) hx hb dX4_passesBy_15 (by decide) ?_
      have e9 := Option.some.inj h
      exact q_zret hx hb hr hlocks hK hP hD hS dX4_passesBy_16 rfl (by first | rw [← e9] | rfl) (by first | rw [← e9] | rfl)
theorem eX4_passesBy : yX4_passesBy.cls = RX4 ∧ yX4_passesBy.cls ≠ "java/lang/invoke/MethodHandle" ∧ yX4_passesBy.cls ≠ "java/lang/invoke/VarHandle" ∧ (parseMethodDescriptor yX4_passesBy.desc).map (fun d => d.parameters.length) = some 1 := by decide +kernel
theorem uX4_number_X4 : ∀ w ∈ u_ws RX4 TX4 15, w ∈ wsX4_number := by decide +kernel
theorem kX4_number_1 : Cond.fieldLink RX4 188 "BeamSeatsModel" "bad" "Z" ∈ wsX4_number := List.mem_of_getElem? (i := 2) (by decide +kernel)
theorem kX4_number_2 : Cond.fieldLink RX4 182 "BeamSeatsModel" "token" "I" ∈ wsX4_number := List.mem_of_getElem? (i := 3) (by decide +kernel)
theorem kX4_number_3 : Cond.fieldLink RX4 179 "BeamSeatsModel" "value" "I" ∈ wsX4_number := List.mem_of_getElem? (i := 1) (by decide +kernel)
def f_X4_number_B37 (N : Nat) (F : Nat → Nat → Int32) (G : Nat → Int64) (v3 : Int32) (s1 : Int32) : Option (Int32 × (Nat → Nat → Int32)) :=
  q_gb s1 (
  q_let (q_up F 0 6 s1) (fun F_3 =>
  if (F_3 0 6) = 0 then
    q_bd (f_X4_reads N F_3 G) (fun F_5 =>
    some (v3, F_5))
  else
    some (v3, F_3)))
def f_X4_number_B32 (N : Nat) (F : Nat → Nat → Int32) (G : Nat → Int64) (v3 : Int32) : Option (Int32 × (Nat → Nat → Int32)) :=
  f_X4_number_B37 N F G v3 (1 : Int32)
def f_X4_number (N : Nat) (F : Nat → Nat → Int32) (G : Nat → Int64) (p1 : Int32) (p2 : Int32) : Option (Int32 × (Nat → Nat → Int32)) :=
  q_let (F 0 5) (fun x_1 =>
  if (F 0 6) = 0 then
    if (F 0 2) = (20 : Int32) then
      q_bd (f_X4_in N (x_1.toInt64) p1 p2) (fun r_8 =>
      if r_8 = 0 then
        f_X4_number_B32 N F G x_1
      else
        f_X4_number_B37 N F G x_1 (0 : Int32))
    else
      f_X4_number_B32 N F G x_1
  else
    f_X4_number_B32 N F G x_1)
set_option maxHeartbeats 4000000 in
set_option maxRecDepth 100000 in
theorem c_X4_number (l : Launch) (D : va_G) (y : Nat → ClassId) (t : Nat → Nat) (q : Nat → Nat) (sz N : Nat) (F : Nat → Nat → Int32) (G : Nat → Int64) (p1 : Int32) (p2 : Int32) (res : Int32 × (Nat → Nat → Int32)) (h : f_X4_number N F G p1 p2 = some res) : Met l yX4_number wsX4_number ({ frames := 3, cells := 0, slots := 0, locals := 66 } : Room) (pPre D y t [.ref (q 0), .int p1, .int p2] (wM y q F G) sz) (pQi D y (res.1) (wM y q (res.2) G) (va_A (wM y q F G) sz)) 0 0 (va_A (wM y q F G) sz) := by
  refine q_start (Qc := (fun A => pQi D y (res.1) (wM y q (res.2) G) A)) (cc := cX4_number) (maxL := 4) (ret := (some .int)) (by decide) rfl (Nat.le_of_ble_eq_true rfl) ?_
  intro p e s m below meth c A ls hx hb hr hts hown hlocks hmn hml hP hK hZ hD hA hS hl
  have hl : lv_has ls 4 [(0, .ref (q 0)), (1, .int p1), (2, .int p2)] := hl
  have hown : s.vm.findClass RX4 = some m.cls := hown
  have B37 : ∀ (F : Nat → Nat → Int32) (G : Nat → Int64) (v3 : Int32) (s1 : Int32) (H : Heap) (locs : List Loc) (ls : Array Slot), va_P D vwCl (wM y q F G) H → va_D A (wM y q F G) → va_S A s.heap H locs → lv_has ls 4 [(0, .ref (q 0)), (3, .int v3)] → f_X4_number_B37 N F G v3 s1 = some res → W p l e ({ frames := 3, cells := 0, slots := 0, locals := 66 } : Room) s m ([.ref (q 0), .int p1, .int p2] : List Value).toArray below meth c H locs 0 0 (MQ below (pQi D y (res.1) (wM y q (res.2) G) A) ([.ref (q 0), .int p1, .int p2] : List Value).toArray s 0 0 A) (F0 m 37 ls [.int s1, .ref (q 0)]) := by
    intro F G v3 s1 H locs ls hP hD hS hl h
    unfold f_X4_number_B37 at h
    obtain ⟨hg9, h⟩ := q_gb_ok h
    obtain ⟨F_3, eF_3, h⟩ := q_let_ok h
    refine va_put (D := D) (ci := 4) (v := .int s1) (ty := .boolean) (C := RX4) (T := TX4) (N := 15) hx hb hts uX4_number_X4 tyX4 tyX4_ok nmX4 hown hK hP hD hS 0 rfl rfl 11 (by decide) (hts _ kX4_number_1) (fun _ h9 => h9) rfl (by decide +kernel) (q_gb_nar hg9) (q_gb_fit hg9) (Nat.le_of_ble_eq_true rfl) dX4_number_37 (fun H locs hP hD hS => ?_)
    have hP : va_P D vwCl (wM y q F_3 G) H := by rw [eF_3]; exact hP
    have hD : va_D A (wM y q F_3 G) := by rw [eF_3]; exact hD
    refine lv_aload_n hx hb dX4_number_40 rfl (lv_at hl 0 rfl) ?_
    refine va_get (D := D) (ci := 4) (v := .int (F_3 0 6)) (C := RX4) (T := TX4) (N := 15) hx hb hts uX4_number_X4 hown hK hP 0 rfl rfl 11 (by decide) (hts _ kX4_number_1) (fun _ h9 => h9) rfl dX4_number_41 ?_
    refine lv_if_ne (tgt := 51) hx hb dX4_number_44 (by decide) (fun c_4 => ?_) (fun c_4 => ?_)
    · have h := q_f c_4 h
      refine lv_iload_n hx hb dX4_number_51 rfl (lv_at hl 1 rfl) ?_
      have e9 := Option.some.inj h
      exact q_iret hx hb hr hlocks hK hP hD hS dX4_number_52 (by first | rw [← e9] | rfl) (by first | rw [← e9] | rfl)
    · have h := q_t c_4 h
      refine lv_aload_n hx hb dX4_number_47 rfl (lv_at hl 0 rfl) ?_
      obtain ⟨F_5, hc_6, h⟩ := q_bd_ok h
      refine q_cv (va_runV (As := []) (rest := []) ⟨hx, hb, hml, hown, hts⟩ (c_X4_reads l D y t q _ N F_3 G F_5 hc_6) (cwV 0 hts gX4_number_X4_reads rfl rfl rfl eX4_reads ⟨Nat.le_of_ble_eq_true rfl, Nat.le_of_ble_eq_true rfl⟩) ⟨q_blind, (va_recv hK hP (ci := 4) (q0 := 0) rfl rfl), (q_pre hP hK hZ hD hA hS [0, 1, 2, 3, 4, 5, 6, 7, 8] rfl (by decide))⟩ rfl rfl hl.1 rfl (lv_room (Nat.le_of_ble_eq_true rfl)) dX4_number_48 ⟨Nat.zero_le _, Nat.zero_le _⟩) hP hD hA hS [0, 1, 2, 3, 4, 5, 6, 7, 8] rfl (by decide) rfl (fun H locs hP hD hS => ?_)
      have hP : va_P D vwCl (wM y q F_5 G) H := hP
      have hD : va_D A (wM y q F_5 G) := hD
      refine lv_iload_n hx hb dX4_number_51 rfl (lv_at hl 1 rfl) ?_
      have e9 := Option.some.inj h
      exact q_iret hx hb hr hlocks hK hP hD hS dX4_number_52 (by first | rw [← e9] | rfl) (by first | rw [← e9] | rfl)
  have B32 : ∀ (F : Nat → Nat → Int32) (G : Nat → Int64) (v3 : Int32) (H : Heap) (locs : List Loc) (ls : Array Slot), va_P D vwCl (wM y q F G) H → va_D A (wM y q F G) → va_S A s.heap H locs → lv_has ls 4 [(0, .ref (q 0)), (3, .int v3)] → f_X4_number_B32 N F G v3 = some res → W p l e ({ frames := 3, cells := 0, slots := 0, locals := 66 } : Room) s m ([.ref (q 0), .int p1, .int p2] : List Value).toArray below meth c H locs 0 0 (MQ below (pQi D y (res.1) (wM y q (res.2) G) A) ([.ref (q 0), .int p1, .int p2] : List Value).toArray s 0 0 A) (F0 m 32 ls [.ref (q 0)]) := by
    intro F G v3 H locs ls hP hD hS hl h
    unfold f_X4_number_B32 at h
    refine lv_iconst (v := 1) hx hb dX4_number_32 (by decide) ?_
    refine lv_goto (tgt := 37) hx hb dX4_number_33 (by decide) ?_
    exact B37 F G v3 (1 : Int32) _ _ _ hP hD hS (lv_sub hl [0, 1] rfl) h
  unfold f_X4_number at h
  refine lv_aload_n hx hb dX4_number_0 rfl (lv_at hl 0 rfl) ?_
  refine va_get (D := D) (ci := 4) (v := .int (F 0 5)) (C := RX4) (T := TX4) (N := 15) hx hb hts uX4_number_X4 hown hK hP 0 rfl rfl 10 (by decide) (hts _ kX4_number_3) (fun _ h9 => h9) rfl dX4_number_1 ?_
  refine lv_topi (fun x_1 ex_1 => ?_)
  have h := q_let_at ex_1 h
  refine lv_istore_n (lv' := [(3, .int x_1), (0, .ref (q 0)), (1, .int p1), (2, .int p2)]) hx hb dX4_number_4 rfl hl (by decide) rfl (fun ls hl => ?_)
  refine lv_aload_n hx hb dX4_number_5 rfl (lv_at hl 1 rfl) ?_
  refine lv_aload_n hx hb dX4_number_6 rfl (lv_at hl 1 rfl) ?_
  refine va_get (D := D) (ci := 4) (v := .int (F 0 6)) (C := RX4) (T := TX4) (N := 15) hx hb hts uX4_number_X4 hown hK hP 0 rfl rfl 11 (by decide) (hts _ kX4_number_1) (fun _ h9 => h9) rfl dX4_number_7 ?_
  refine lv_if_ne (tgt := 32) hx hb dX4_number_10 (by decide) (fun c_2 => ?_) (fun c_2 => ?_)
  · have h := q_f c_2 h
    exact B32 F G x_1 _ _ _ hP hD hS (lv_sub hl [1, 0] rfl) h
  · have h := q_t c_2 h
    refine lv_aload_n hx hb dX4_number_13 rfl (lv_at hl 1 rfl) ?_
    refine va_get (D := D) (ci := 4) (v := .int (F 0 2)) (C := RX4) (T := TX4) (N := 15) hx hb hts uX4_number_X4 hown hK hP 0 rfl rfl 7 (by decide) (hts _ kX4_number_2) (fun _ h9 => h9) rfl dX4_number_14 ?_
    refine lv_bipush (v := 20) hx hb dX4_number_17 (by decide) ?_
    refine lv_icmp_ne (tgt := 32) hx hb dX4_number_19 (by decide) (fun c_7 => ?_) (fun c_7 => ?_)
    · have h := q_f c_7 h
      exact B32 F G x_1 _ _ _ hP hD hS (lv_sub hl [1, 0] rfl) h
    · have h := q_t c_7 h
      refine lv_iload_n hx hb dX4_number_22 rfl (lv_at hl 0 rfl) ?_
      refine lv_i2l hx hb dX4_number_23 rfl ?_
      refine lv_iload_n hx hb dX4_number_24 rfl (lv_at hl 2 rfl) ?_
      refine lv_iload_n hx hb dX4_number_25 rfl (lv_at hl 3 rfl) ?_
      obtain ⟨r_8, hc_9, h⟩ := q_bd_ok h
      refine q_ci (r := r_8) (va_runS (As := [.long (x_1.toInt64), .int p1, .int p2]) (rest := [.ref (q 0)]) ⟨hx, hb, hml, hown, hts⟩ (c_X4_in l D y t q _ N (x_1.toInt64) p1 p2 r_8 hc_9) (va_cwS 3 hts gX4_number_X4_in rfl rfl rfl eX4_in ⟨Nat.le_of_ble_eq_true rfl, Nat.le_of_ble_eq_true rfl⟩) ⟨q_blind, (q_pre hP hK hZ hD hA hS [] rfl (by decide))⟩ rfl rfl hl.1 rfl (lv_room (Nat.le_of_ble_eq_true rfl)) dX4_number_26 ⟨Nat.zero_le _, Nat.zero_le _⟩) hP hD hA hS [] rfl (by decide) rfl (fun H locs hP hD hS => ?_)
      have hP : va_P D vwCl (wM y q F G) H := hP
      have hD : va_D A (wM y q F G) := hD
      refine lv_if_ne (tgt := 36) hx hb dX4_number_29 (by decide) (fun c_10 => ?_) (fun c_10 => ?_)
      · have h := q_f c_10 h
        refine lv_iconst (v := 0) hx hb dX4_number_36 (by decide) ?_
        exact B37 F G x_1 (0 : Int32) _ _ _ hP hD hS (lv_sub hl [1, 0] rfl) h
      · have h := q_t c_10 h
        exact B32 F G x_1 _ _ _ hP hD hS (lv_sub hl [1, 0] rfl) h
theorem eX4_number : yX4_number.cls = RX4 ∧ yX4_number.cls ≠ "java/lang/invoke/MethodHandle" ∧ yX4_number.cls ≠ "java/lang/invoke/VarHandle" ∧ (parseMethodDescriptor yX4_number.desc).map (fun d => d.parameters.length) = some 2 := by decide +kernel
def f_X4_perhaps (N : Nat) (F : Nat → Nat → Int32) (G : Nat → Int64) (p1 : Int32) (p2 : Int32) (p3 : Int32) (p4 : Int32) : Option (Int32 × (Nat → Nat → Int32)) :=
  q_bd2 (f_X4_passesBy N F G p1) (fun r_1 F_2 =>
  if r_1 = 0 then
    some (p4, F_2)
  else
    q_bd2 (f_X4_number N F_2 G p2 p3) (fun r_5 F_6 =>
    some (r_5, F_6)))
set_option maxHeartbeats 4000000 in
set_option maxRecDepth 100000 in
theorem c_X4_perhaps (l : Launch) (D : va_G) (y : Nat → ClassId) (t : Nat → Nat) (q : Nat → Nat) (sz N : Nat) (F : Nat → Nat → Int32) (G : Nat → Int64) (p1 : Int32) (p2 : Int32) (p3 : Int32) (p4 : Int32) (res : Int32 × (Nat → Nat → Int32)) (h : f_X4_perhaps N F G p1 p2 p3 p4 = some res) : Met l yX4_perhaps wsX4_perhaps ({ frames := 4, cells := 0, slots := 0, locals := 89 } : Room) (pPre D y t [.ref (q 0), .int p1, .int p2, .int p3, .int p4] (wM y q F G) sz) (pQi D y (res.1) (wM y q (res.2) G) (va_A (wM y q F G) sz)) 0 0 (va_A (wM y q F G) sz) := by
  refine q_start (Qc := (fun A => pQi D y (res.1) (wM y q (res.2) G) A)) (cc := cX4_perhaps) (maxL := 5) (ret := (some .int)) (by decide) rfl (Nat.le_of_ble_eq_true rfl) ?_
  intro p e s m below meth c A ls hx hb hr hts hown hlocks hmn hml hP hK hZ hD hA hS hl
  have hl : lv_has ls 5 [(0, .ref (q 0)), (1, .int p1), (2, .int p2), (3, .int p3), (4, .int p4)] := hl
  have hown : s.vm.findClass RX4 = some m.cls := hown
  unfold f_X4_perhaps at h
  refine lv_aload_n hx hb dX4_perhaps_0 rfl (lv_at hl 0 rfl) ?_
  refine lv_iload_n hx hb dX4_perhaps_1 rfl (lv_at hl 1 rfl) ?_
  obtain ⟨r_1, F_2, hc_3, h⟩ := q_bd2_ok h
  refine q_ci (r := r_1) (va_runV (As := [.int p1]) (rest := []) ⟨hx, hb, hml, hown, hts⟩ (c_X4_passesBy l D y t q _ N F G p1 (r_1, F_2) hc_3) (cwV 1 hts gX4_perhaps_X4_passesBy rfl rfl rfl eX4_passesBy ⟨Nat.le_of_ble_eq_true rfl, Nat.le_of_ble_eq_true rfl⟩) ⟨q_blind, (va_recv hK hP (ci := 4) (q0 := 0) rfl rfl), (q_pre hP hK hZ hD hA hS [0, 1, 2, 3, 4, 5, 6, 7, 8] rfl (by decide))⟩ rfl rfl hl.1 rfl (lv_room (Nat.le_of_ble_eq_true rfl)) dX4_perhaps_2 ⟨Nat.zero_le _, Nat.zero_le _⟩) hP hD hA hS [0, 1, 2, 3, 4, 5, 6, 7, 8] rfl (by decide) rfl (fun H locs hP hD hS => ?_)
  have hP : va_P D vwCl (wM y q F_2 G) H := hP
  have hD : va_D A (wM y q F_2 G) := hD
  refine lv_if_eq (tgt := 17) hx hb dX4_perhaps_5 (by decide) (fun c_4 => ?_) (fun c_4 => ?_)
  · have h := q_t c_4 h
    refine lv_iload hx hb dX4_perhaps_17 (lv_at hl 4 rfl) ?_
    have e9 := Option.some.inj h
    exact q_iret hx hb hr hlocks hK hP hD hS dX4_perhaps_19 (by first | rw [← e9] | rfl) (by first | rw [← e9] | rfl)
  · have h := q_f c_4 h
    refine lv_aload_n hx hb dX4_perhaps_8 rfl (lv_at hl 0 rfl) ?_
    refine lv_iload_n hx hb dX4_perhaps_9 rfl (lv_at hl 2 rfl) ?_
    refine lv_iload_n hx hb dX4_perhaps_10 rfl (lv_at hl 3 rfl) ?_
    obtain ⟨r_5, F_6, hc_7, h⟩ := q_bd2_ok h
    refine q_ci (r := r_5) (va_runV (As := [.int p2, .int p3]) (rest := []) ⟨hx, hb, hml, hown, hts⟩ (c_X4_number l D y t q _ N F_2 G p2 p3 (r_5, F_6) hc_7) (cwV 2 hts gX4_perhaps_X4_number rfl rfl rfl eX4_number ⟨Nat.le_of_ble_eq_true rfl, Nat.le_of_ble_eq_true rfl⟩) ⟨q_blind, (va_recv hK hP (ci := 4) (q0 := 0) rfl rfl), (q_pre hP hK hZ hD hA hS [0, 1, 2, 3, 4, 5, 6, 7, 8] rfl (by decide))⟩ rfl rfl hl.1 rfl (lv_room (Nat.le_of_ble_eq_true rfl)) dX4_perhaps_11 ⟨Nat.zero_le _, Nat.zero_le _⟩) hP hD hA hS [0, 1, 2, 3, 4, 5, 6, 7, 8] rfl (by decide) rfl (fun H locs hP hD hS => ?_)
    have hP : va_P D vwCl (wM y q F_6 G) H := hP
    have hD : va_D A (wM y q F_6 G) := hD
    refine lv_goto (tgt := 19) hx hb dX4_perhaps_14 (by decide) ?_
    have e9 := Option.some.inj h
    exact q_iret hx hb hr hlocks hK hP hD hS dX4_perhaps_19 (by first | rw [← e9] | rfl) (by first | rw [← e9] | rfl)
theorem eX4_perhaps : yX4_perhaps.cls = RX4 ∧ yX4_perhaps.cls ≠ "java/lang/invoke/MethodHandle" ∧ yX4_perhaps.cls ≠ "java/lang/invoke/VarHandle" ∧ (parseMethodDescriptor yX4_perhaps.desc).map (fun d => d.parameters.length) = some 4 := by decide +kernel
theorem uX4_thingItem_X4 : ∀ w ∈ u_ws RX4 TX4 15, w ∈ wsX4_thingItem := by decide +kernel
theorem kX4_thingItem_1 : Cond.fieldLink RX4 188 "BeamSeatsModel" "bad" "Z" ∈ wsX4_thingItem := List.mem_of_getElem? (i := 3) (by decide +kernel)
theorem kX4_thingItem_2 : Cond.fieldLink RX4 9 "BeamSeatsModel" "m" "[I" ∈ wsX4_thingItem := List.mem_of_getElem? (i := 2) (by decide +kernel)
theorem kX4_thingItem_3 : Cond.fieldLink RX4 182 "BeamSeatsModel" "token" "I" ∈ wsX4_thingItem := List.mem_of_getElem? (i := 1) (by decide +kernel)
def f_X4_thingItem_B22 (N : Nat) (F : Nat → Nat → Int32) (G : Nat → Int64) (v1 : Int32) (s1 : Int32) : Option ((Nat → Nat → Int32)) :=
  q_gb s1 (
  q_let (q_up F 0 6 s1) (fun F_4 =>
  if (F_4 0 6) = 0 then
    q_bd (f_X4_reads N F_4 G) (fun F_6 =>
    q_bd2 (f_X4_number N F_6 G (0 : Int32) (59 : Int32)) (fun r_8 F_9 =>
    q_bd2 (f_X4_perhaps N F_9 G (6 : Int32) (0 : Int32) (9 : Int32) (3 : Int32)) (fun r_11 F_12 =>
    q_bd2 (f_X4_perhaps N F_12 G (7 : Int32) (0 : Int32) (99 : Int32) (50 : Int32)) (fun r_14 F_15 =>
    q_bd2 (f_X4_perhaps N F_15 G (8 : Int32) (0 : Int32) (59 : Int32) (30 : Int32)) (fun r_17 F_18 =>
    if (F_18 0 6) = 0 then
      q_bd2 (f_X4_comesAs N F_18 G v1 r_8 r_11 r_14 r_17) (fun r_21 F_22 =>
      some F_22)
    else
      some F_18)))))
  else
    some F_4))
def f_X4_thingItem (N : Nat) (F : Nat → Nat → Int32) (G : Nat → Int64) : Option ((Nat → Nat → Int32)) :=
  q_let (F 0 2) (fun x_1 =>
  q_grd (4 : Int32) 69 (
  if (F 1 (4 : Int32).toNatClampNeg) = (8 : Int32) then
    f_X4_thingItem_B22 N F G x_1 (1 : Int32)
  else
    f_X4_thingItem_B22 N F G x_1 (0 : Int32)))
set_option maxHeartbeats 4000000 in
set_option maxRecDepth 100000 in
theorem c_X4_thingItem (l : Launch) (D : va_G) (y : Nat → ClassId) (t : Nat → Nat) (q : Nat → Nat) (sz N : Nat) (F : Nat → Nat → Int32) (G : Nat → Int64) (res : (Nat → Nat → Int32)) (h : f_X4_thingItem N F G = some res) : Met l yX4_thingItem wsX4_thingItem ({ frames := 5, cells := 0, slots := 0, locals := 113 } : Room) (pPre D y t [.ref (q 0)] (wM y q F G) sz) (pQv D y (wM y q res G) (va_A (wM y q F G) sz)) 0 0 (va_A (wM y q F G) sz) := by
  refine q_start (Qc := (fun A => pQv D y (wM y q res G) A)) (cc := cX4_thingItem) (maxL := 7) (ret := none) (by decide) rfl (Nat.le_of_ble_eq_true rfl) ?_
  intro p e s m below meth c A ls hx hb hr hts hown hlocks hmn hml hP hK hZ hD hA hS hl
  have hl : lv_has ls 7 [(0, .ref (q 0))] := hl
  have hown : s.vm.findClass RX4 = some m.cls := hown
  have B22 : ∀ (F : Nat → Nat → Int32) (G : Nat → Int64) (v1 : Int32) (s1 : Int32) (H : Heap) (locs : List Loc) (ls : Array Slot), va_P D vwCl (wM y q F G) H → va_D A (wM y q F G) → va_S A s.heap H locs → lv_has ls 7 [(0, .ref (q 0)), (1, .int v1)] → f_X4_thingItem_B22 N F G v1 s1 = some res → W p l e ({ frames := 5, cells := 0, slots := 0, locals := 113 } : Room) s m ([.ref (q 0)] : List Value).toArray below meth c H locs 0 0 (MQ below (pQv D y (wM y q res G) A) ([.ref (q 0)] : List Value).toArray s 0 0 A) (F0 m 22 ls [.int s1, .ref (q 0)]) := by
    intro F G v1 s1 H locs ls hP hD hS hl h
    unfold f_X4_thingItem_B22 at h
    obtain ⟨hg9, h⟩ := q_gb_ok h
    obtain ⟨F_4, eF_4, h⟩ := q_let_ok h
    refine va_put (D := D) (ci := 4) (v := .int s1) (ty := .boolean) (C := RX4) (T := TX4) (N := 15) hx hb hts uX4_thingItem_X4 tyX4 tyX4_ok nmX4 hown hK hP hD hS 0 rfl rfl 11 (by decide) (hts _ kX4_thingItem_1) (fun _ h9 => h9) rfl (by decide +kernel) (q_gb_nar hg9) (q_gb_fit hg9) (Nat.le_of_ble_eq_true rfl) dX4_thingItem_22 (fun H locs hP hD hS => ?_)
    have hP : va_P D vwCl (wM y q F_4 G) H := by rw [eF_4]; exact hP
    have hD : va_D A (wM y q F_4 G) := by rw [eF_4]; exact hD
    refine lv_aload_n hx hb dX4_thingItem_25 rfl (lv_at hl 0 rfl) ?_
    refine va_get (D := D) (ci := 4) (v := .int (F_4 0 6)) (C := RX4) (T := TX4) (N := 15) hx hb hts uX4_thingItem_X4 hown hK hP 0 rfl rfl 11 (by decide) (hts _ kX4_thingItem_1) (fun _ h9 => h9) rfl dX4_thingItem_26 ?_
    refine lv_if_eq (tgt := 33) hx hb dX4_thingItem_29 (by decide) (fun c_5 => ?_) (fun c_5 => ?_)
    · have h := q_t c_5 h
      refine lv_aload_n hx hb dX4_thingItem_33 rfl (lv_at hl 0 rfl) ?_
      obtain ⟨F_6, hc_7, h⟩ := q_bd_ok h
      refine q_cv (va_runV (As := []) (rest := []) ⟨hx, hb, hml, hown, hts⟩ (c_X4_reads l D y t q _ N F_4 G F_6 hc_7) (cwV 0 hts gX4_thingItem_X4_reads rfl rfl rfl eX4_reads ⟨Nat.le_of_ble_eq_true rfl, Nat.le_of_ble_eq_true rfl⟩) ⟨q_blind, (va_recv hK hP (ci := 4) (q0 := 0) rfl rfl), (q_pre hP hK hZ hD hA hS [0, 1, 2, 3, 4, 5, 6, 7, 8] rfl (by decide))⟩ rfl rfl hl.1 rfl (lv_room (Nat.le_of_ble_eq_true rfl)) dX4_thingItem_34 ⟨Nat.zero_le _, Nat.zero_le _⟩) hP hD hA hS [0, 1, 2, 3, 4, 5, 6, 7, 8] rfl (by decide) rfl (fun H locs hP hD hS => ?_)
      have hP : va_P D vwCl (wM y q F_6 G) H := hP
      have hD : va_D A (wM y q F_6 G) := hD
      refine lv_aload_n hx hb dX4_thingItem_37 rfl (lv_at hl 0 rfl) ?_
      refine lv_iconst (v := 0) hx hb dX4_thingItem_38 (by decide) ?_
      refine lv_bipush (v := 59) hx hb dX4_thingItem_39 (by decide) ?_
      obtain ⟨r_8, F_9, hc_10, h⟩ := q_bd2_ok h
      refine q_ci (r := r_8) (va_runV (As := [.int (0 : Int32), .int (59 : Int32)]) (rest := []) ⟨hx, hb, hml, hown, hts⟩ (c_X4_number l D y t q _ N F_6 G (0 : Int32) (59 : Int32) (r_8, F_9) hc_10) (cwV 2 hts gX4_thingItem_X4_number rfl rfl rfl eX4_number ⟨Nat.le_of_ble_eq_true rfl, Nat.le_of_ble_eq_true rfl⟩) ⟨q_blind, (va_recv hK hP (ci := 4) (q0 := 0) rfl rfl), (q_pre hP hK hZ hD hA hS [0, 1, 2, 3, 4, 5, 6, 7, 8] rfl (by decide))⟩ rfl rfl hl.1 rfl (lv_room (Nat.le_of_ble_eq_true rfl)) dX4_thingItem_41 ⟨Nat.zero_le _, Nat.zero_le _⟩) hP hD hA hS [0, 1, 2, 3, 4, 5, 6, 7, 8] rfl (by decide) rfl (fun H locs hP hD hS => ?_)
      have hP : va_P D vwCl (wM y q F_9 G) H := hP
      have hD : va_D A (wM y q F_9 G) := hD
      refine lv_istore_n (lv' := [(2, .int r_8), (0, .ref (q 0)), (1, .int v1)]) hx hb dX4_thingItem_44 rfl hl (by decide) rfl (fun ls hl => ?_)
      refine lv_aload_n hx hb dX4_thingItem_45 rfl (lv_at hl 1 rfl) ?_
      refine lv_bipush (v := 6) hx hb dX4_thingItem_46 (by decide) ?_
      refine lv_iconst (v := 0) hx hb dX4_thingItem_48 (by decide) ?_
      refine lv_bipush (v := 9) hx hb dX4_thingItem_49 (by decide) ?_
      refine lv_iconst (v := 3) hx hb dX4_thingItem_51 (by decide) ?_
      obtain ⟨r_11, F_12, hc_13, h⟩ := q_bd2_ok h
      refine q_ci (r := r_11) (va_runV (As := [.int (6 : Int32), .int (0 : Int32), .int (9 : Int32), .int (3 : Int32)]) (rest := []) ⟨hx, hb, hml, hown, hts⟩ (c_X4_perhaps l D y t q _ N F_9 G (6 : Int32) (0 : Int32) (9 : Int32) (3 : Int32) (r_11, F_12) hc_13) (cwV 4 hts gX4_thingItem_X4_perhaps rfl rfl rfl eX4_perhaps ⟨Nat.le_of_ble_eq_true rfl, Nat.le_of_ble_eq_true rfl⟩) ⟨q_blind, (va_recv hK hP (ci := 4) (q0 := 0) rfl rfl), (q_pre hP hK hZ hD hA hS [0, 1, 2, 3, 4, 5, 6, 7, 8] rfl (by decide))⟩ rfl rfl hl.1 rfl (lv_room (Nat.le_of_ble_eq_true rfl)) dX4_thingItem_52 ⟨Nat.zero_le _, Nat.zero_le _⟩) hP hD hA hS [0, 1, 2, 3, 4, 5, 6, 7, 8] rfl (by decide) rfl (fun H locs hP hD hS => ?_)
      have hP : va_P D vwCl (wM y q F_12 G) H := hP
      have hD : va_D A (wM y q F_12 G) := hD
      refine lv_istore_n (lv' := [(3, .int r_11), (2, .int r_8), (0, .ref (q 0)), (1, .int v1)]) hx hb dX4_thingItem_55 rfl hl (by decide) rfl (fun ls hl => ?_)
      refine lv_aload_n hx hb dX4_thingItem_56 rfl (lv_at hl 2 rfl) ?_
      refine lv_bipush (v := 7) hx hb dX4_thingItem_57 (by decide) ?_
      refine lv_iconst (v := 0) hx hb dX4_thingItem_59 (by decide) ?_
      refine lv_bipush (v := 99) hx hb dX4_thingItem_60 (by decide) ?_
      refine lv_bipush (v := 50) hx hb dX4_thingItem_62 (by decide) ?_
      obtain ⟨r_14, F_15, hc_16, h⟩ := q_bd2_ok h
      refine q_ci (r := r_14) (va_runV (As := [.int (7 : Int32), .int (0 : Int32), .int (99 : Int32), .int (50 : Int32)]) (rest := []) ⟨hx, hb, hml, hown, hts⟩ (c_X4_perhaps l D y t q _ N F_12 G (7 : Int32) (0 : Int32) (99 : Int32) (50 : Int32) (r_14, F_15) hc_16) (cwV 4 hts gX4_thingItem_X4_perhaps rfl rfl rfl eX4_perhaps ⟨Nat.le_of_ble_eq_true rfl, Nat.le_of_ble_eq_true rfl⟩) ⟨q_blind, (va_recv hK hP (ci := 4) (q0 := 0) rfl rfl), (q_pre hP hK hZ hD hA hS [0, 1, 2, 3, 4, 5, 6, 7, 8] rfl (by decide))⟩ rfl rfl hl.1 rfl (lv_room (Nat.le_of_ble_eq_true rfl)) dX4_thingItem_64 ⟨Nat.zero_le _, Nat.zero_le _⟩) hP hD hA hS [0, 1, 2, 3, 4, 5, 6, 7, 8] rfl (by decide) rfl (fun H locs hP hD hS => ?_)
      have hP : va_P D vwCl (wM y q F_15 G) H := hP
      have hD : va_D A (wM y q F_15 G) := hD
      refine lv_istore (lv' := [(4, .int r_14), (3, .int r_11), (2, .int r_8), (0, .ref (q 0)), (1, .int v1)]) hx hb dX4_thingItem_67 hl (by decide) rfl (fun ls hl => ?_)
      refine lv_aload_n hx hb dX4_thingItem_69 rfl (lv_at hl 3 rfl) ?_
      refine lv_bipush (v := 8) hx hb dX4_thingItem_70 (by decide) ?_
      refine lv_iconst (v := 0) hx hb dX4_thingItem_72 (by decide) ?_
      refine lv_bipush (v := 59) hx hb dX4_thingItem_73 (by decide) ?_
      refine lv_bipush (v := 30) hx hb dX4_thingItem_75 (by decide) ?_
      obtain ⟨r_17, F_18, hc_19, h⟩ := q_bd2_ok h
      refine q_ci (r := r_17) (va_runV (As := [.int (8 : Int32), .int (0 : Int32), .int (59 : Int32), .int (30 : Int32)]) (rest := []) ⟨hx, hb, hml, hown, hts⟩ (c_X4_perhaps l D y t q _ N F_15 G (8 : Int32) (0 : Int32) (59 : Int32) (30 : Int32) (r_17, F_18) hc_19) (cwV 4 hts gX4_thingItem_X4_perhaps rfl rfl rfl eX4_perhaps ⟨Nat.le_of_ble_eq_true rfl, Nat.le_of_ble_eq_true rfl⟩) ⟨q_blind, (va_recv hK hP (ci := 4) (q0 := 0) rfl rfl), (q_pre hP hK hZ hD hA hS [0, 1, 2, 3, 4, 5, 6, 7, 8] rfl (by decide))⟩ rfl rfl hl.1 rfl (lv_room (Nat.le_of_ble_eq_true rfl)) dX4_thingItem_77 ⟨Nat.zero_le _, Nat.zero_le _⟩) hP hD hA hS [0, 1, 2, 3, 4, 5, 6, 7, 8] rfl (by decide) rfl (fun H locs hP hD hS => ?_)
      have hP : va_P D vwCl (wM y q F_18 G) H := hP
      have hD : va_D A (wM y q F_18 G) := hD
      refine lv_istore (lv' := [(5, .int r_17), (4, .int r_14), (3, .int r_11), (2, .int r_8), (0, .ref (q 0)), (1, .int v1)]) hx hb dX4_thingItem_80 hl (by decide) rfl (fun ls hl => ?_)
      refine lv_aload_n hx hb dX4_thingItem_82 rfl (lv_at hl 4 rfl) ?_
      refine va_get (D := D) (ci := 4) (v := .int (F_18 0 6)) (C := RX4) (T := TX4) (N := 15) hx hb hts uX4_thingItem_X4 hown hK hP 0 rfl rfl 11 (by decide) (hts _ kX4_thingItem_1) (fun _ h9 => h9) rfl dX4_thingItem_83 ?_
      refine lv_if_ne (tgt := 102) hx hb dX4_thingItem_86 (by decide) (fun c_20 => ?_) (fun c_20 => ?_)
      · have h := q_f c_20 h
        have e9 := Option.some.inj h
        exact q_vret hx hb hr hlocks hK hP hD hS dX4_thingItem_102 (by first | rw [← e9] | rfl)
      · have h := q_t c_20 h
        refine lv_aload_n hx hb dX4_thingItem_89 rfl (lv_at hl 4 rfl) ?_
        refine lv_iload_n hx hb dX4_thingItem_90 rfl (lv_at hl 5 rfl) ?_
        refine lv_iload_n hx hb dX4_thingItem_91 rfl (lv_at hl 3 rfl) ?_
        refine lv_iload_n hx hb dX4_thingItem_92 rfl (lv_at hl 2 rfl) ?_
        refine lv_iload hx hb dX4_thingItem_93 (lv_at hl 1 rfl) ?_
        refine lv_iload hx hb dX4_thingItem_95 (lv_at hl 0 rfl) ?_
        obtain ⟨r_21, F_22, hc_23, h⟩ := q_bd2_ok h
        refine q_ci (r := r_21) (va_runV (As := [.int v1, .int r_8, .int r_11, .int r_14, .int r_17]) (rest := []) ⟨hx, hb, hml, hown, hts⟩ (c_X4_comesAs l D y t q _ N F_18 G v1 r_8 r_11 r_14 r_17 (r_21, F_22) hc_23) (cwV 5 hts gX4_thingItem_X4_comesAs rfl rfl rfl eX4_comesAs ⟨Nat.le_of_ble_eq_true rfl, Nat.le_of_ble_eq_true rfl⟩) ⟨q_blind, (va_recv hK hP (ci := 4) (q0 := 0) rfl rfl), (q_pre hP hK hZ hD hA hS [0, 1, 2, 3, 4, 5, 6, 7, 8] rfl (by decide))⟩ rfl rfl hl.1 rfl (lv_room (Nat.le_of_ble_eq_true rfl)) dX4_thingItem_97 ⟨Nat.zero_le _, Nat.zero_le _⟩) hP hD hA hS [0, 1, 2, 3, 4, 5, 6, 7, 8] rfl (by decide) rfl (fun H locs hP hD hS => ?_)
        have hP : va_P D vwCl (wM y q F_22 G) H := hP
        have hD : va_D A (wM y q F_22 G) := hD
        refine lv_istore (lv' := [(6, .int r_21), (5, .int r_17), (4, .int r_14), (3, .int r_11), (2, .int r_8), (0, .ref (q 0)), (1, .int v1)]) hx hb dX4_thingItem_100 hl (by decide) rfl (fun ls hl => ?_)
        have e9 := Option.some.inj h
        exact q_vret hx hb hr hlocks hK hP hD hS dX4_thingItem_102 (by first | rw [← e9] | rfl)
    · have h := q_f c_5 h
      have e9 := Option.some.inj h
      exact q_vret hx hb hr hlocks hK hP hD hS dX4_thingItem_32 (by first | rw [← e9] | rfl)
  unfold f_X4_thingItem at h
  refine lv_aload_n hx hb dX4_thingItem_0 rfl (lv_at hl 0 rfl) ?_
  refine va_get (D := D) (ci := 4) (v := .int (F 0 2)) (C := RX4) (T := TX4) (N := 15) hx hb hts uX4_thingItem_X4 hown hK hP 0 rfl rfl 7 (by decide) (hts _ kX4_thingItem_3) (fun _ h9 => h9) rfl dX4_thingItem_1 ?_
  refine lv_topi (fun x_1 ex_1 => ?_)
  have h := q_let_at ex_1 h
  refine lv_istore_n (lv' := [(1, .int x_1), (0, .ref (q 0))]) hx hb dX4_thingItem_4 rfl hl (by decide) rfl (fun ls hl => ?_)
  refine lv_aload_n hx hb dX4_thingItem_5 rfl (lv_at hl 1 rfl) ?_
  refine lv_aload_n hx hb dX4_thingItem_6 rfl (lv_at hl 1 rfl) ?_
  refine va_get (D := D) (ci := 4) (v := .ref (q 1)) (C := RX4) (T := TX4) (N := 15) hx hb hts uX4_thingItem_X4 hown hK hP 0 rfl rfl 0 (by decide) (hts _ kX4_thingItem_2) (fun _ h9 => h9) rfl dX4_thingItem_7 ?_
  refine lv_iconst (v := 4) hx hb dX4_thingItem_10 (by decide) ?_
  obtain ⟨z_2, h⟩ := q_grd_ok h
  refine va_iald hx hb hK hP 1 0 rfl rfl z_2 dX4_thingItem_11 ?_
  refine lv_bipush (v := 8) hx hb dX4_thingItem_12 (by decide) ?_
  refine lv_icmp_ne (tgt := 21) hx hb dX4_thingItem_14 (by decide) (fun c_3 => ?_) (fun c_3 => ?_)
  · have h := q_f c_3 h
    refine lv_iconst (v := 0) hx hb dX4_thingItem_21 (by decide) ?_
    exact B22 F G x_1 (0 : Int32) _ _ _ hP hD hS (lv_sub hl [1, 0] rfl) h
  · have h := q_t c_3 h
    refine lv_iconst (v := 1) hx hb dX4_thingItem_17 (by decide) ?_
    refine lv_goto (tgt := 22) hx hb dX4_thingItem_18 (by decide) ?_
    exact B22 F G x_1 (1 : Int32) _ _ _ hP hD hS (lv_sub hl [1, 0] rfl) h
theorem eX4_thingItem : yX4_thingItem.cls = RX4 ∧ yX4_thingItem.cls ≠ "java/lang/invoke/MethodHandle" ∧ yX4_thingItem.cls ≠ "java/lang/invoke/VarHandle" ∧ (parseMethodDescriptor yX4_thingItem.desc).map (fun d => d.parameters.length) = some 0 := by decide +kernel
theorem uX4_item_X4 : ∀ w ∈ u_ws RX4 TX4 15, w ∈ wsX4_item := by decide +kernel
theorem kX4_item_1 : Cond.fieldLink RX4 188 "BeamSeatsModel" "bad" "Z" ∈ wsX4_item := List.mem_of_getElem? (i := 3) (by decide +kernel)
theorem kX4_item_2 : Cond.fieldLink RX4 9 "BeamSeatsModel" "m" "[I" ∈ wsX4_item := List.mem_of_getElem? (i := 2) (by decide +kernel)
theorem kX4_item_3 : Cond.fieldLink RX4 182 "BeamSeatsModel" "token" "I" ∈ wsX4_item := List.mem_of_getElem? (i := 1) (by decide +kernel)
def f_X4_item (N : Nat) (F : Nat → Nat → Int32) (G : Nat → Int64) : Option ((Nat → Nat → Int32)) :=
  if (5 : Int32) < (F 0 2) then
    q_bd2 (f_X4_passesBy N F G (9 : Int32)) (fun r_2 F_3 =>
    if r_2 = 0 then
      q_bd2 (f_X4_passesBy N F_3 G (10 : Int32)) (fun r_6 F_7 =>
      if r_6 = 0 then
        q_bd2 (f_X4_passesBy N F_7 G (11 : Int32)) (fun r_10 F_11 =>
        if r_10 = 0 then
          q_let (q_up F_11 0 6 (1 : Int32)) (fun F_14 =>
          some F_14)
        else
          q_bd2 (f_X4_number N F_11 G (1 : Int32) (40 : Int32)) (fun r_15 F_16 =>
          q_grd (3 : Int32) 69 (
          q_let (q_up F_16 1 (3 : Int32).toNatClampNeg r_15) (fun F_19 =>
          some F_19))))
      else
        q_bd2 (f_X4_number N F_7 G (1 : Int32) (10 : Int32)) (fun r_20 F_21 =>
        q_grd (2 : Int32) 69 (
        q_let (q_up F_21 1 (2 : Int32).toNatClampNeg r_20) (fun F_24 =>
        some F_24))))
    else
      q_bd2 (f_X4_number N F_3 G (0 : Int32) (59 : Int32)) (fun r_25 F_26 =>
      q_grd (1 : Int32) 69 (
      q_let (q_up F_26 1 (1 : Int32).toNatClampNeg r_25) (fun F_29 =>
      some F_29))))
  else
    q_bd (f_X4_thingItem N F G) (fun F_30 =>
    some F_30)
set_option maxHeartbeats 4000000 in
set_option maxRecDepth 100000 in
theorem c_X4_item (l : Launch) (D : va_G) (y : Nat → ClassId) (t : Nat → Nat) (q : Nat → Nat) (sz N : Nat) (F : Nat → Nat → Int32) (G : Nat → Int64) (res : (Nat → Nat → Int32)) (h : f_X4_item N F G = some res) : Met l yX4_item wsX4_item ({ frames := 6, cells := 0, slots := 0, locals := 139 } : Room) (pPre D y t [.ref (q 0)] (wM y q F G) sz) (pQv D y (wM y q res G) (va_A (wM y q F G) sz)) 0 0 (va_A (wM y q F G) sz) := by
  refine q_start (Qc := (fun A => pQv D y (wM y q res G) A)) (cc := cX4_item) (maxL := 1) (ret := none) (by decide) rfl (Nat.le_of_ble_eq_true rfl) ?_
  intro p e s m below meth c A ls hx hb hr hts hown hlocks hmn hml hP hK hZ hD hA hS hl
  have hl : lv_has ls 1 [(0, .ref (q 0))] := hl
  have hown : s.vm.findClass RX4 = some m.cls := hown
  unfold f_X4_item at h
  refine lv_aload_n hx hb dX4_item_0 rfl (lv_at hl 0 rfl) ?_
  refine va_get (D := D) (ci := 4) (v := .int (F 0 2)) (C := RX4) (T := TX4) (N := 15) hx hb hts uX4_item_X4 hown hK hP 0 rfl rfl 7 (by decide) (hts _ kX4_item_3) (fun _ h9 => h9) rfl dX4_item_1 ?_
  refine lv_iconst (v := 5) hx hb dX4_item_4 (by decide) ?_
  refine lv_icmp_gt (tgt := 15) hx hb dX4_item_5 (by decide) (fun c_1 => ?_) (fun c_1 => ?_)
  · have h := q_t c_1 h
    refine lv_aload_n hx hb dX4_item_15 rfl (lv_at hl 0 rfl) ?_
    refine lv_bipush (v := 9) hx hb dX4_item_16 (by decide) ?_
    obtain ⟨r_2, F_3, hc_4, h⟩ := q_bd2_ok h
    refine q_ci (r := r_2) (va_runV (As := [.int (9 : Int32)]) (rest := []) ⟨hx, hb, hml, hown, hts⟩ (c_X4_passesBy l D y t q _ N F G (9 : Int32) (r_2, F_3) hc_4) (cwV 1 hts gX4_item_X4_passesBy rfl rfl rfl eX4_passesBy ⟨Nat.le_of_ble_eq_true rfl, Nat.le_of_ble_eq_true rfl⟩) ⟨q_blind, (va_recv hK hP (ci := 4) (q0 := 0) rfl rfl), (q_pre hP hK hZ hD hA hS [0, 1, 2, 3, 4, 5, 6, 7, 8] rfl (by decide))⟩ rfl rfl hl.1 rfl (lv_room (Nat.le_of_ble_eq_true rfl)) dX4_item_18 ⟨Nat.zero_le _, Nat.zero_le _⟩) hP hD hA hS [0, 1, 2, 3, 4, 5, 6, 7, 8] rfl (by decide) rfl (fun H locs hP hD hS => ?_)
    have hP : va_P D vwCl (wM y q F_3 G) H := hP
    have hD : va_D A (wM y q F_3 G) := hD
    refine lv_if_eq (tgt := 40) hx hb dX4_item_21 (by decide) (fun c_5 => ?_) (fun c_5 => ?_)
    · have h := q_t c_5 h
      refine lv_aload_n hx hb dX4_item_40 rfl (lv_at hl 0 rfl) ?_
      refine lv_bipush (v := 10) hx hb dX4_item_41 (by decide) ?_
      obtain ⟨r_6, F_7, hc_8, h⟩ := q_bd2_ok h
      refine q_ci (r := r_6) (va_runV (As := [.int (10 : Int32)]) (rest := []) ⟨hx, hb, hml, hown, hts⟩ (c_X4_passesBy l D y t q _ N F_3 G (10 : Int32) (r_6, F_7) hc_8) (cwV 1 hts gX4_item_X4_passesBy rfl rfl rfl eX4_passesBy ⟨Nat.le_of_ble_eq_true rfl, Nat.le_of_ble_eq_true rfl⟩) ⟨q_blind, (va_recv hK hP (ci := 4) (q0 := 0) rfl rfl), (q_pre hP hK hZ hD hA hS [0, 1, 2, 3, 4, 5, 6, 7, 8] rfl (by decide))⟩ rfl rfl hl.1 rfl (lv_room (Nat.le_of_ble_eq_true rfl)) dX4_item_43 ⟨Nat.zero_le _, Nat.zero_le _⟩) hP hD hA hS [0, 1, 2, 3, 4, 5, 6, 7, 8] rfl (by decide) rfl (fun H locs hP hD hS => ?_)
      have hP : va_P D vwCl (wM y q F_7 G) H := hP
      have hD : va_D A (wM y q F_7 G) := hD
      refine lv_if_eq (tgt := 65) hx hb dX4_item_46 (by decide) (fun c_9 => ?_) (fun c_9 => ?_)
      · have h := q_t c_9 h
        refine lv_aload_n hx hb dX4_item_65 rfl (lv_at hl 0 rfl) ?_
        refine lv_bipush (v := 11) hx hb dX4_item_66 (by decide) ?_
        obtain ⟨r_10, F_11, hc_12, h⟩ := q_bd2_ok h
        refine q_ci (r := r_10) (va_runV (As := [.int (11 : Int32)]) (rest := []) ⟨hx, hb, hml, hown, hts⟩ (c_X4_passesBy l D y t q _ N F_7 G (11 : Int32) (r_10, F_11) hc_12) (cwV 1 hts gX4_item_X4_passesBy rfl rfl rfl eX4_passesBy ⟨Nat.le_of_ble_eq_true rfl, Nat.le_of_ble_eq_true rfl⟩) ⟨q_blind, (va_recv hK hP (ci := 4) (q0 := 0) rfl rfl), (q_pre hP hK hZ hD hA hS [0, 1, 2, 3, 4, 5, 6, 7, 8] rfl (by decide))⟩ rfl rfl hl.1 rfl (lv_room (Nat.le_of_ble_eq_true rfl)) dX4_item_68 ⟨Nat.zero_le _, Nat.zero_le _⟩) hP hD hA hS [0, 1, 2, 3, 4, 5, 6, 7, 8] rfl (by decide) rfl (fun H locs hP hD hS => ?_)
        have hP : va_P D vwCl (wM y q F_11 G) H := hP
        have hD : va_D A (wM y q F_11 G) := hD
        refine lv_if_eq (tgt := 90) hx hb dX4_item_71 (by decide) (fun c_13 => ?_) (fun c_13 => ?_)
        · have h := q_t c_13 h
          refine lv_aload_n hx hb dX4_item_90 rfl (lv_at hl 0 rfl) ?_
          refine lv_iconst (v := 1) hx hb dX4_item_91 (by decide) ?_
          obtain ⟨F_14, eF_14, h⟩ := q_let_ok h
          refine va_put (D := D) (ci := 4) (v := .int (1 : Int32)) (ty := .boolean) (C := RX4) (T := TX4) (N := 15) hx hb hts uX4_item_X4 tyX4 tyX4_ok nmX4 hown hK hP hD hS 0 rfl rfl 11 (by decide) (hts _ kX4_item_1) (fun _ h9 => h9) rfl (by decide +kernel) rfl rfl (Nat.le_of_ble_eq_true rfl) dX4_item_92 (fun H locs hP hD hS => ?_)
          have hP : va_P D vwCl (wM y q F_14 G) H := by rw [eF_14]; exact hP
          have hD : va_D A (wM y q F_14 G) := by rw [eF_14]; exact hD
          have e9 := Option.some.inj h
          exact q_vret hx hb hr hlocks hK hP hD hS dX4_item_95 (by first | rw [← e9] | rfl)
        · have h := q_f c_13 h
          refine lv_aload_n hx hb dX4_item_74 rfl (lv_at hl 0 rfl) ?_
          refine va_get (D := D) (ci := 4) (v := .ref (q 1)) (C := RX4) (T := TX4) (N := 15) hx hb hts uX4_item_X4 hown hK hP 0 rfl rfl 0 (by decide) (hts _ kX4_item_2) (fun _ h9 => h9) rfl dX4_item_75 ?_
          refine lv_iconst (v := 3) hx hb dX4_item_78 (by decide) ?_
          refine lv_aload_n hx hb dX4_item_79 rfl (lv_at hl 0 rfl) ?_
          refine lv_iconst (v := 1) hx hb dX4_item_80 (by decide) ?_
          refine lv_bipush (v := 40) hx hb dX4_item_81 (by decide) ?_
          obtain ⟨r_15, F_16, hc_17, h⟩ := q_bd2_ok h
          refine q_ci (r := r_15) (va_runV (As := [.int (1 : Int32), .int (40 : Int32)]) (rest := [.int (3 : Int32), .ref (q 1)]) ⟨hx, hb, hml, hown, hts⟩ (c_X4_number l D y t q _ N F_11 G (1 : Int32) (40 : Int32) (r_15, F_16) hc_17) (cwV 2 hts gX4_item_X4_number rfl rfl rfl eX4_number ⟨Nat.le_of_ble_eq_true rfl, Nat.le_of_ble_eq_true rfl⟩) ⟨q_blind, (va_recv hK hP (ci := 4) (q0 := 0) rfl rfl), (q_pre hP hK hZ hD hA hS [0, 1, 2, 3, 4, 5, 6, 7, 8] rfl (by decide))⟩ rfl rfl hl.1 rfl (lv_room (Nat.le_of_ble_eq_true rfl)) dX4_item_83 ⟨Nat.zero_le _, Nat.zero_le _⟩) hP hD hA hS [0, 1, 2, 3, 4, 5, 6, 7, 8] rfl (by decide) rfl (fun H locs hP hD hS => ?_)
          have hP : va_P D vwCl (wM y q F_16 G) H := hP
          have hD : va_D A (wM y q F_16 G) := hD
          obtain ⟨z_18, h⟩ := q_grd_ok h
          obtain ⟨F_19, eF_19, h⟩ := q_let_ok h
          refine va_iast hx hb hK hP hD hS 1 0 rfl rfl z_18 dX4_item_86 (fun H locs hP hD hS => ?_)
          have hP : va_P D vwCl (wM y q F_19 G) H := by rw [eF_19]; exact hP
          have hD : va_D A (wM y q F_19 G) := by rw [eF_19]; exact hD
          refine lv_goto (tgt := 95) hx hb dX4_item_87 (by decide) ?_
          have e9 := Option.some.inj h
          exact q_vret hx hb hr hlocks hK hP hD hS dX4_item_95 (by first | rw [← e9] | rfl)
      · have h := q_f c_9 h
        refine lv_aload_n hx hb dX4_item_49 rfl (lv_at hl 0 rfl) ?_
        refine va_get (D := D) (ci := 4) (v := .ref (q 1)) (C := RX4) (T := TX4) (N := 15) hx hb hts uX4_item_X4 hown hK hP 0 rfl rfl 0 (by decide) (hts _ kX4_item_2) (fun _ h9 => h9) rfl dX4_item_50 ?_
        refine lv_iconst (v := 2) hx hb dX4_item_53 (by decide) ?_
        refine lv_aload_n hx hb dX4_item_54 rfl (lv_at hl 0 rfl) ?_
        refine lv_iconst (v := 1) hx hb dX4_item_55 (by decide) ?_
        refine lv_bipush (v := 10) hx hb dX4_item_56 (by decide) ?_
        obtain ⟨r_20, F_21, hc_22, h⟩ := q_bd2_ok h
        refine q_ci (r := r_20) (va_runV (As := [.int (1 : Int32), .int (10 : Int32)]) (rest := [.int (2 : Int32), .ref (q 1)]) ⟨hx, hb, hml, hown, hts⟩ (c_X4_number l D y t q _ N F_7 G (1 : Int32) (10 : Int32) (r_20, F_21) hc_22) (cwV 2 hts gX4_item_X4_number rfl rfl rfl eX4_number ⟨Nat.le_of_ble_eq_true rfl, Nat.le_of_ble_eq_true rfl⟩) ⟨q_blind, (va_recv hK hP (ci := 4) (q0 := 0) rfl rfl), (q_pre hP hK hZ hD hA hS [0, 1, 2, 3, 4, 5, 6, 7, 8] rfl (by decide))⟩ rfl rfl hl.1 rfl (lv_room (Nat.le_of_ble_eq_true rfl)) dX4_item_58 ⟨Nat.zero_le _, Nat.zero_le _⟩) hP hD hA hS [0, 1, 2, 3, 4, 5, 6, 7, 8] rfl (by decide) rfl (fun H locs hP hD hS => ?_)
        have hP : va_P D vwCl (wM y q F_21 G) H := hP
        have hD : va_D A (wM y q F_21 G) := hD
        obtain ⟨z_23, h⟩ := q_grd_ok h
        obtain ⟨F_24, eF_24, h⟩ := q_let_ok h
        refine va_iast hx hb hK hP hD hS 1 0 rfl rfl z_23 dX4_item_61 (fun H locs hP hD hS => ?_)
        have hP : va_P D vwCl (wM y q F_24 G) H := by rw [eF_24]; exact hP
        have hD : va_D A (wM y q F_24 G) := by rw [eF_24]; exact hD
        refine lv_goto (tgt := 95) hx hb dX4_item_62 (by decide) ?_
        have e9 := Option.some.inj h
        exact q_vret hx hb hr hlocks hK hP hD hS dX4_item_95 (by first | rw [← e9] | rfl)
    · have h := q_f c_5 h
      refine lv_aload_n hx hb dX4_item_24 rfl (lv_at hl 0 rfl) ?_
      refine va_get (D := D) (ci := 4) (v := .ref (q 1)) (C := RX4) (T := TX4) (N := 15) hx hb hts uX4_item_X4 hown hK hP 0 rfl rfl 0 (by decide) (hts _ kX4_item_2) (fun _ h9 => h9) rfl dX4_item_25 ?_
      refine lv_iconst (v := 1) hx hb dX4_item_28 (by decide) ?_
      refine lv_aload_n hx hb dX4_item_29 rfl (lv_at hl 0 rfl) ?_
      refine lv_iconst (v := 0) hx hb dX4_item_30 (by decide) ?_
      refine lv_bipush (v := 59) hx hb dX4_item_31 (by decide) ?_
      obtain ⟨r_25, F_26, hc_27, h⟩ := q_bd2_ok h
      refine q_ci (r := r_25) (va_runV (As := [.int (0 : Int32), .int (59 : Int32)]) (rest := [.int (1 : Int32), .ref (q 1)]) ⟨hx, hb, hml, hown, hts⟩ (c_X4_number l D y t q _ N F_3 G (0 : Int32) (59 : Int32) (r_25, F_26) hc_27) (cwV 2 hts gX4_item_X4_number rfl rfl rfl eX4_number ⟨Nat.le_of_ble_eq_true rfl, Nat.le_of_ble_eq_true rfl⟩) ⟨q_blind, (va_recv hK hP (ci := 4) (q0 := 0) rfl rfl), (q_pre hP hK hZ hD hA hS [0, 1, 2, 3, 4, 5, 6, 7, 8] rfl (by decide))⟩ rfl rfl hl.1 rfl (lv_room (Nat.le_of_ble_eq_true rfl)) dX4_item_33 ⟨Nat.zero_le _, Nat.zero_le _⟩) hP hD hA hS [0, 1, 2, 3, 4, 5, 6, 7, 8] rfl (by decide) rfl (fun H locs hP hD hS => ?_)
      have hP : va_P D vwCl (wM y q F_26 G) H := hP
      have hD : va_D A (wM y q F_26 G) := hD
      obtain ⟨z_28, h⟩ := q_grd_ok h
      obtain ⟨F_29, eF_29, h⟩ := q_let_ok h
      refine va_iast hx hb hK hP hD hS 1 0 rfl rfl z_28 dX4_item_36 (fun H locs hP hD hS => ?_)
      have hP : va_P D vwCl (wM y q F_29 G) H := by rw [eF_29]; exact hP
      have hD : va_D A (wM y q F_29 G) := by rw [eF_29]; exact hD
      refine lv_goto (tgt := 95) hx hb dX4_item_37 (by decide) ?_
      have e9 := Option.some.inj h
      exact q_vret hx hb hr hlocks hK hP hD hS dX4_item_95 (by first | rw [← e9] | rfl)
  · have h := q_f c_1 h
    refine lv_aload_n hx hb dX4_item_8 rfl (lv_at hl 0 rfl) ?_
    obtain ⟨F_30, hc_31, h⟩ := q_bd_ok h
    refine q_cv (va_runV (As := []) (rest := []) ⟨hx, hb, hml, hown, hts⟩ (c_X4_thingItem l D y t q _ N F G F_30 hc_31) (cwV 0 hts gX4_item_X4_thingItem rfl rfl rfl eX4_thingItem ⟨Nat.le_of_ble_eq_true rfl, Nat.le_of_ble_eq_true rfl⟩) ⟨q_blind, (va_recv hK hP (ci := 4) (q0 := 0) rfl rfl), (q_pre hP hK hZ hD hA hS [0, 1, 2, 3, 4, 5, 6, 7, 8] rfl (by decide))⟩ rfl rfl hl.1 rfl (lv_room (Nat.le_of_ble_eq_true rfl)) dX4_item_9 ⟨Nat.zero_le _, Nat.zero_le _⟩) hP hD hA hS [0, 1, 2, 3, 4, 5, 6, 7, 8] rfl (by decide) rfl (fun H locs hP hD hS => ?_)
    have hP : va_P D vwCl (wM y q F_30 G) H := hP
    have hD : va_D A (wM y q F_30 G) := hD
    refine lv_goto (tgt := 95) hx hb dX4_item_12 (by decide) ?_
    have e9 := Option.some.inj h
    exact q_vret hx hb hr hlocks hK hP hD hS dX4_item_95 (by first | rw [← e9] | rfl)
theorem eX4_item : yX4_item.cls = RX4 ∧ yX4_item.cls ≠ "java/lang/invoke/MethodHandle" ∧ yX4_item.cls ≠ "java/lang/invoke/VarHandle" ∧ (parseMethodDescriptor yX4_item.desc).map (fun d => d.parameters.length) = some 0 := by decide +kernel
theorem uX4_island_X4 : ∀ w ∈ u_ws RX4 TX4 15, w ∈ wsX4_island := by decide +kernel
theorem kX4_island_1 : Cond.fieldLink RX4 166 "BeamSeatsModel" "begin" "I" ∈ wsX4_island := List.mem_of_getElem? (i := 5) (by decide +kernel)
theorem kX4_island_2 : Cond.fieldLink RX4 188 "BeamSeatsModel" "bad" "Z" ∈ wsX4_island := List.mem_of_getElem? (i := 2) (by decide +kernel)
theorem kX4_island_3 : Cond.fieldLink RX4 159 "BeamSeatsModel" "taped" "I" ∈ wsX4_island := List.mem_of_getElem? (i := 4) (by decide +kernel)
theorem kX4_island_4 : Cond.fieldLink RX4 182 "BeamSeatsModel" "token" "I" ∈ wsX4_island := List.mem_of_getElem? (i := 3) (by decide +kernel)
theorem kX4_island_5 : Cond.fieldLink RX4 169 "BeamSeatsModel" "at" "I" ∈ wsX4_island := List.mem_of_getElem? (i := 1) (by decide +kernel)
def f_X4_island_L24 (N : Nat) (G : Nat → Int64) : Nat → Int32 → (Nat → Nat → Int32) → Option (Int32 × (Nat → Nat → Int32))
  | 0, _, _ => none
  | k + 1, v1, F =>
    q_bd2 (f_X4_passesBy N F G (21 : Int32)) (fun r_12 F_13 =>
    if r_12 = 0 then
      some (v1, F_13)
    else
      q_bd (f_X4_item N F_13 G) (fun F_16 =>
      q_let (v1 + 1) (fun x_18 =>
      f_X4_island_L24 N G k x_18 F_16)))
def f_X4_island_B65 (N : Nat) (F : Nat → Nat → Int32) (G : Nat → Int64) (v1 : Int32) (s1 : Int32) : Option (Int32 × (Nat → Nat → Int32)) :=
  q_gb s1 (
  q_let (q_up F 0 6 s1) (fun F_20 =>
  q_let (q_up F_20 0 1 (0 : Int32)) (fun F_21 =>
  if (F_21 0 6) = 0 then
    some (v1, F_21)
  else
    q_bd (f_X4_putsBack N F_21 G) (fun F_23 =>
    some (((-1 : Int32) - (F_23 0 3)), F_23)))))
def f_X4_island_B60 (N : Nat) (F : Nat → Nat → Int32) (G : Nat → Int64) (v1 : Int32) : Option (Int32 × (Nat → Nat → Int32)) :=
  f_X4_island_B65 N F G v1 (1 : Int32)
def f_X4_island (N : Nat) (F : Nat → Nat → Int32) (G : Nat → Int64) : Option (Int32 × (Nat → Nat → Int32)) :=
  q_bd (f_X4_thinks N F G) (fun F_1 =>
  q_let (q_up F_1 0 4 (0 : Int32)) (fun F_3 =>
  q_let (q_up F_3 0 6 (0 : Int32)) (fun F_4 =>
  q_bd (f_X4_reads N F_4 G) (fun F_5 =>
  q_bd (f_X4_item N F_5 G) (fun F_7 =>
  q_bd2 (f_X4_island_L24 N G N (1 : Int32) F_7) (fun x_10 F_11 =>
  if (F_11 0 6) = 0 then
    if (F_11 0 2) = (22 : Int32) then
      f_X4_island_B65 N F_11 G x_10 (0 : Int32)
    else
      f_X4_island_B60 N F_11 G x_10
  else
    f_X4_island_B60 N F_11 G x_10))))))
set_option maxHeartbeats 4000000 in
set_option maxRecDepth 100000 in
theorem c_X4_island (l : Launch) (D : va_G) (y : Nat → ClassId) (t : Nat → Nat) (q : Nat → Nat) (sz N : Nat) (F : Nat → Nat → Int32) (G : Nat → Int64) (res : Int32 × (Nat → Nat → Int32)) (h : f_X4_island N F G = some res) : Met l yX4_island wsX4_island ({ frames := 7, cells := 0, slots := 0, locals := 159 } : Room) (pPre D y t [.ref (q 0)] (wM y q F G) sz) (pQi D y (res.1) (wM y q (res.2) G) (va_A (wM y q F G) sz)) 0 0 (va_A (wM y q F G) sz) := by
  refine q_start (Qc := (fun A => pQi D y (res.1) (wM y q (res.2) G) A)) (cc := cX4_island) (maxL := 2) (ret := (some .int)) (by decide) rfl (Nat.le_of_ble_eq_true rfl) ?_
  intro p e s m below meth c A ls hx hb hr hts hown hlocks hmn hml hP hK hZ hD hA hS hl
  have hl : lv_has ls 2 [(0, .ref (q 0))] := hl
  have hown : s.vm.findClass RX4 = some m.cls := hown
  have B65 : ∀ (F : Nat → Nat → Int32) (G : Nat → Int64) (v1 : Int32) (s1 : Int32) (H : Heap) (locs : List Loc) (ls : Array Slot), va_P D vwCl (wM y q F G) H → va_D A (wM y q F G) → va_S A s.heap H locs → lv_has ls 2 [(0, .ref (q 0)), (1, .int v1)] → f_X4_island_B65 N F G v1 s1 = some res → W p l e ({ frames := 7, cells := 0, slots := 0, locals := 159 } : Room) s m ([.ref (q 0)] : List Value).toArray below meth c H locs 0 0 (MQ below (pQi D y (res.1) (wM y q (res.2) G) A) ([.ref (q 0)] : List Value).toArray s 0 0 A) (F0 m 65 ls [.int s1, .ref (q 0)]) := by
    intro F G v1 s1 H locs ls hP hD hS hl h
    unfold f_X4_island_B65 at h
    obtain ⟨hg9, h⟩ := q_gb_ok h
    obtain ⟨F_20, eF_20, h⟩ := q_let_ok h
    refine va_put (D := D) (ci := 4) (v := .int s1) (ty := .boolean) (C := RX4) (T := TX4) (N := 15) hx hb hts uX4_island_X4 tyX4 tyX4_ok nmX4 hown hK hP hD hS 0 rfl rfl 11 (by decide) (hts _ kX4_island_2) (fun _ h9 => h9) rfl (by decide +kernel) (q_gb_nar hg9) (q_gb_fit hg9) (Nat.le_of_ble_eq_true rfl) dX4_island_65 (fun H locs hP hD hS => ?_)
    have hP : va_P D vwCl (wM y q F_20 G) H := by rw [eF_20]; exact hP
    have hD : va_D A (wM y q F_20 G) := by rw [eF_20]; exact hD
    refine lv_aload_n hx hb dX4_island_68 rfl (lv_at hl 0 rfl) ?_
    refine lv_iconst (v := 0) hx hb dX4_island_69 (by decide) ?_
    obtain ⟨F_21, eF_21, h⟩ := q_let_ok h
    refine va_put (D := D) (ci := 4) (v := .int (0 : Int32)) (ty := .int) (C := RX4) (T := TX4) (N := 15) hx hb hts uX4_island_X4 tyX4 tyX4_ok nmX4 hown hK hP hD hS 0 rfl rfl 6 (by decide) (hts _ kX4_island_3) (fun _ h9 => h9) rfl (by decide +kernel) rfl rfl (Nat.le_of_ble_eq_true rfl) dX4_island_70 (fun H locs hP hD hS => ?_)
    have hP : va_P D vwCl (wM y q F_21 G) H := by rw [eF_21]; exact hP
    have hD : va_D A (wM y q F_21 G) := by rw [eF_21]; exact hD
    refine lv_aload_n hx hb dX4_island_73 rfl (lv_at hl 0 rfl) ?_
    refine va_get (D := D) (ci := 4) (v := .int (F_21 0 6)) (C := RX4) (T := TX4) (N := 15) hx hb hts uX4_island_X4 hown hK hP 0 rfl rfl 11 (by decide) (hts _ kX4_island_2) (fun _ h9 => h9) rfl dX4_island_74 ?_
    refine lv_if_ne (tgt := 82) hx hb dX4_island_77 (by decide) (fun c_22 => ?_) (fun c_22 => ?_)
    · have h := q_f c_22 h
      refine lv_aload_n hx hb dX4_island_82 rfl (lv_at hl 0 rfl) ?_
      obtain ⟨F_23, hc_24, h⟩ := q_bd_ok h
      refine q_cv (va_runV (As := []) (rest := []) ⟨hx, hb, hml, hown, hts⟩ (c_X4_putsBack l D y t q _ N F_21 G F_23 hc_24) (cwV 0 hts gX4_island_X4_putsBack rfl rfl rfl eX4_putsBack ⟨Nat.le_of_ble_eq_true rfl, Nat.le_of_ble_eq_true rfl⟩) ⟨q_blind, (va_recv hK hP (ci := 4) (q0 := 0) rfl rfl), (q_pre hP hK hZ hD hA hS [0, 1, 2, 3, 4, 5, 6, 7, 8] rfl (by decide))⟩ rfl rfl hl.1 rfl (lv_room (Nat.le_of_ble_eq_true rfl)) dX4_island_83 ⟨Nat.zero_le _, Nat.zero_le _⟩) hP hD hA hS [0, 1, 2, 3, 4, 5, 6, 7, 8] rfl (by decide) rfl (fun H locs hP hD hS => ?_)
      have hP : va_P D vwCl (wM y q F_23 G) H := hP
      have hD : va_D A (wM y q F_23 G) := hD
      refine lv_iconst (v := -1) hx hb dX4_island_86 (by decide) ?_
      refine lv_aload_n hx hb dX4_island_87 rfl (lv_at hl 0 rfl) ?_
      refine va_get (D := D) (ci := 4) (v := .int (F_23 0 3)) (C := RX4) (T := TX4) (N := 15) hx hb hts uX4_island_X4 hown hK hP 0 rfl rfl 8 (by decide) (hts _ kX4_island_1) (fun _ h9 => h9) rfl dX4_island_88 ?_
      refine lv_isub hx hb dX4_island_91 ?_
      have e9 := Option.some.inj h
      exact q_iret hx hb hr hlocks hK hP hD hS dX4_island_92 (by first | rw [← e9] | rfl) (by first | rw [← e9] | rfl)
    · have h := q_t c_22 h
      refine lv_iload_n hx hb dX4_island_80 rfl (lv_at hl 1 rfl) ?_
      have e9 := Option.some.inj h
      exact q_iret hx hb hr hlocks hK hP hD hS dX4_island_81 (by first | rw [← e9] | rfl) (by first | rw [← e9] | rfl)
  have B60 : ∀ (F : Nat → Nat → Int32) (G : Nat → Int64) (v1 : Int32) (H : Heap) (locs : List Loc) (ls : Array Slot), va_P D vwCl (wM y q F G) H → va_D A (wM y q F G) → va_S A s.heap H locs → lv_has ls 2 [(0, .ref (q 0)), (1, .int v1)] → f_X4_island_B60 N F G v1 = some res → W p l e ({ frames := 7, cells := 0, slots := 0, locals := 159 } : Room) s m ([.ref (q 0)] : List Value).toArray below meth c H locs 0 0 (MQ below (pQi D y (res.1) (wM y q (res.2) G) A) ([.ref (q 0)] : List Value).toArray s 0 0 A) (F0 m 60 ls [.ref (q 0)]) := by
    intro F G v1 H locs ls hP hD hS hl h
    unfold f_X4_island_B60 at h
    refine lv_iconst (v := 1) hx hb dX4_island_60 (by decide) ?_
    refine lv_goto (tgt := 65) hx hb dX4_island_61 (by decide) ?_
    exact B65 F G v1 (1 : Int32) _ _ _ hP hD hS (lv_sub hl [0, 1] rfl) h
  unfold f_X4_island at h
  refine lv_aload_n hx hb dX4_island_0 rfl (lv_at hl 0 rfl) ?_
  obtain ⟨F_1, hc_2, h⟩ := q_bd_ok h
  refine q_cv (va_runV (As := []) (rest := []) ⟨hx, hb, hml, hown, hts⟩ (c_X4_thinks l D y t q _ N F G F_1 hc_2) (cwV 0 hts gX4_island_X4_thinks rfl rfl rfl eX4_thinks ⟨Nat.le_of_ble_eq_true rfl, Nat.le_of_ble_eq_true rfl⟩) ⟨q_blind, (va_recv hK hP (ci := 4) (q0 := 0) rfl rfl), (q_pre hP hK hZ hD hA hS [0, 1, 2, 3, 4, 5, 6, 7, 8] rfl (by decide))⟩ rfl rfl hl.1 rfl (lv_room (Nat.le_of_ble_eq_true rfl)) dX4_island_1 ⟨Nat.zero_le _, Nat.zero_le _⟩) hP hD hA hS [0, 1, 2, 3, 4, 5, 6, 7, 8] rfl (by decide) rfl (fun H locs hP hD hS => ?_)
  have hP : va_P D vwCl (wM y q F_1 G) H := hP
  have hD : va_D A (wM y q F_1 G) := hD
  refine lv_aload_n hx hb dX4_island_4 rfl (lv_at hl 0 rfl) ?_
  refine lv_iconst (v := 0) hx hb dX4_island_5 (by decide) ?_
  obtain ⟨F_3, eF_3, h⟩ := q_let_ok h
  refine va_put (D := D) (ci := 4) (v := .int (0 : Int32)) (ty := .int) (C := RX4) (T := TX4) (N := 15) hx hb hts uX4_island_X4 tyX4 tyX4_ok nmX4 hown hK hP hD hS 0 rfl rfl 9 (by decide) (hts _ kX4_island_5) (fun _ h9 => h9) rfl (by decide +kernel) rfl rfl (Nat.le_of_ble_eq_true rfl) dX4_island_6 (fun H locs hP hD hS => ?_)
  have hP : va_P D vwCl (wM y q F_3 G) H := by rw [eF_3]; exact hP
  have hD : va_D A (wM y q F_3 G) := by rw [eF_3]; exact hD
  refine lv_aload_n hx hb dX4_island_9 rfl (lv_at hl 0 rfl) ?_
  refine lv_iconst (v := 0) hx hb dX4_island_10 (by decide) ?_
  obtain ⟨F_4, eF_4, h⟩ := q_let_ok h
  refine va_put (D := D) (ci := 4) (v := .int (0 : Int32)) (ty := .boolean) (C := RX4) (T := TX4) (N := 15) hx hb hts uX4_island_X4 tyX4 tyX4_ok nmX4 hown hK hP hD hS 0 rfl rfl 11 (by decide) (hts _ kX4_island_2) (fun _ h9 => h9) rfl (by decide +kernel) rfl rfl (Nat.le_of_ble_eq_true rfl) dX4_island_11 (fun H locs hP hD hS => ?_)
  have hP : va_P D vwCl (wM y q F_4 G) H := by rw [eF_4]; exact hP
  have hD : va_D A (wM y q F_4 G) := by rw [eF_4]; exact hD
  refine lv_aload_n hx hb dX4_island_14 rfl (lv_at hl 0 rfl) ?_
  obtain ⟨F_5, hc_6, h⟩ := q_bd_ok h
  refine q_cv (va_runV (As := []) (rest := []) ⟨hx, hb, hml, hown, hts⟩ (c_X4_reads l D y t q _ N F_4 G F_5 hc_6) (cwV 0 hts gX4_island_X4_reads rfl rfl rfl eX4_reads ⟨Nat.le_of_ble_eq_true rfl, Nat.le_of_ble_eq_true rfl⟩) ⟨q_blind, (va_recv hK hP (ci := 4) (q0 := 0) rfl rfl), (q_pre hP hK hZ hD hA hS [0, 1, 2, 3, 4, 5, 6, 7, 8] rfl (by decide))⟩ rfl rfl hl.1 rfl (lv_room (Nat.le_of_ble_eq_true rfl)) dX4_island_15 ⟨Nat.zero_le _, Nat.zero_le _⟩) hP hD hA hS [0, 1, 2, 3, 4, 5, 6, 7, 8] rfl (by decide) rfl (fun H locs hP hD hS => ?_)
  have hP : va_P D vwCl (wM y q F_5 G) H := hP
  have hD : va_D A (wM y q F_5 G) := hD
  refine lv_aload_n hx hb dX4_island_18 rfl (lv_at hl 0 rfl) ?_
  obtain ⟨F_7, hc_8, h⟩ := q_bd_ok h
  refine q_cv (va_runV (As := []) (rest := []) ⟨hx, hb, hml, hown, hts⟩ (c_X4_item l D y t q _ N F_5 G F_7 hc_8) (cwV 0 hts gX4_island_X4_item rfl rfl rfl eX4_item ⟨Nat.le_of_ble_eq_true rfl, Nat.le_of_ble_eq_true rfl⟩) ⟨q_blind, (va_recv hK hP (ci := 4) (q0 := 0) rfl rfl), (q_pre hP hK hZ hD hA hS [0, 1, 2, 3, 4, 5, 6, 7, 8] rfl (by decide))⟩ rfl rfl hl.1 rfl (lv_room (Nat.le_of_ble_eq_true rfl)) dX4_island_19 ⟨Nat.zero_le _, Nat.zero_le _⟩) hP hD hA hS [0, 1, 2, 3, 4, 5, 6, 7, 8] rfl (by decide) rfl (fun H locs hP hD hS => ?_)
  have hP : va_P D vwCl (wM y q F_7 G) H := hP
  have hD : va_D A (wM y q F_7 G) := hD
  refine lv_iconst (v := 1) hx hb dX4_island_22 (by decide) ?_
  refine lv_istore_n (lv' := [(1, .int (1 : Int32)), (0, .ref (q 0))]) hx hb dX4_island_23 rfl hl (by decide) rfl (fun ls hl => ?_)
  obtain ⟨x_10, F_11, hL9, h⟩ := q_bd2_ok h
  have K24_9 : ∀ (H : Heap) (locs : List Loc) (ls : Array Slot), va_P D vwCl (wM y q F_11 G) H → va_D A (wM y q F_11 G) → va_S A s.heap H locs → lv_has ls 2 [(0, .ref (q 0)), (1, .int x_10)] → W p l e ({ frames := 7, cells := 0, slots := 0, locals := 159 } : Room) s m ([.ref (q 0)] : List Value).toArray below meth c H locs 0 0 (MQ below (pQi D y (res.1) (wM y q (res.2) G) A) ([.ref (q 0)] : List Value).toArray s 0 0 A) (F0 m 43 ls []) := by
    intro H locs ls hP hD hS hl
    refine lv_aload_n hx hb dX4_island_43 rfl (lv_at hl 0 rfl) ?_
    refine lv_aload_n hx hb dX4_island_44 rfl (lv_at hl 0 rfl) ?_
    refine va_get (D := D) (ci := 4) (v := .int (F_11 0 6)) (C := RX4) (T := TX4) (N := 15) hx hb hts uX4_island_X4 hown hK hP 0 rfl rfl 11 (by decide) (hts _ kX4_island_2) (fun _ h9 => h9) rfl dX4_island_45 ?_
    refine lv_if_ne (tgt := 60) hx hb dX4_island_48 (by decide) (fun c_19 => ?_) (fun c_19 => ?_)
    · have h := q_f c_19 h
      exact B60 F_11 G x_10 _ _ _ hP hD hS (lv_sub hl [0, 1] rfl) h
    · have h := q_t c_19 h
      refine lv_aload_n hx hb dX4_island_51 rfl (lv_at hl 0 rfl) ?_
      refine va_get (D := D) (ci := 4) (v := .int (F_11 0 2)) (C := RX4) (T := TX4) (N := 15) hx hb hts uX4_island_X4 hown hK hP 0 rfl rfl 7 (by decide) (hts _ kX4_island_4) (fun _ h9 => h9) rfl dX4_island_52 ?_
      refine lv_bipush (v := 22) hx hb dX4_island_55 (by decide) ?_
      refine lv_icmp_eq (tgt := 64) hx hb dX4_island_57 (by decide) (fun c_25 => ?_) (fun c_25 => ?_)
      · have h := q_t c_25 h
        refine lv_iconst (v := 0) hx hb dX4_island_64 (by decide) ?_
        exact B65 F_11 G x_10 (0 : Int32) _ _ _ hP hD hS (lv_sub hl [0, 1] rfl) h
      · have h := q_f c_25 h
        exact B60 F_11 G x_10 _ _ _ hP hD hS (lv_sub hl [0, 1] rfl) h
  have L24_9 : ∀ (G : Nat → Int64) (k : Nat) (v1 : Int32) (F : Nat → Nat → Int32), (∀ (H : Heap) (locs : List Loc) (ls : Array Slot), va_P D vwCl (wM y q F_11 G) H → va_D A (wM y q F_11 G) → va_S A s.heap H locs → lv_has ls 2 [(0, .ref (q 0)), (1, .int x_10)] → W p l e ({ frames := 7, cells := 0, slots := 0, locals := 159 } : Room) s m ([.ref (q 0)] : List Value).toArray below meth c H locs 0 0 (MQ below (pQi D y (res.1) (wM y q (res.2) G) A) ([.ref (q 0)] : List Value).toArray s 0 0 A) (F0 m 43 ls [])) → ∀ (H : Heap) (locs : List Loc) (ls : Array Slot), va_P D vwCl (wM y q F G) H → va_D A (wM y q F G) → va_S A s.heap H locs → lv_has ls 2 [(0, .ref (q 0)), (1, .int v1)] → f_X4_island_L24 N G k v1 F = some (x_10, F_11) → W p l e ({ frames := 7, cells := 0, slots := 0, locals := 159 } : Room) s m ([.ref (q 0)] : List Value).toArray below meth c H locs 0 0 (MQ below (pQi D y (res.1) (wM y q (res.2) G) A) ([.ref (q 0)] : List Value).toArray s 0 0 A) (F0 m 24 ls []) := by
    intro G k
    induction k with
    | zero =>
      intro v1 F K24_9 H locs ls hP hD hS hl h
      have h : (none : Option (Int32 × (Nat → Nat → Int32))) = some _ := h
      cases h
    | succ k ih24_9 =>
      intro v1 F K24_9 H locs ls hP hD hS hl h
      rw [f_X4_island_L24] at h
      refine lv_aload_n hx hb dX4_island_24 rfl (lv_at hl 0 rfl) ?_
      refine lv_bipush (v := 21) hx hb dX4_island_25 (by decide) ?_
      obtain ⟨r_12, F_13, hc_14, h⟩ := q_bd2_ok h
      refine q_ci (r := r_12) (va_runV (As := [.int (21 : Int32)]) (rest := []) ⟨hx, hb, hml, hown, hts⟩ (c_X4_passesBy l D y t q _ N F G (21 : Int32) (r_12, F_13) hc_14) (cwV 1 hts gX4_island_X4_passesBy rfl rfl rfl eX4_passesBy ⟨Nat.le_of_ble_eq_true rfl, Nat.le_of_ble_eq_true rfl⟩) ⟨q_blind, (va_recv hK hP (ci := 4) (q0 := 0) rfl rfl), (q_pre hP hK hZ hD hA hS [0, 1, 2, 3, 4, 5, 6, 7, 8] rfl (by decide))⟩ rfl rfl hl.1 rfl (lv_room (Nat.le_of_ble_eq_true rfl)) dX4_island_27 ⟨Nat.zero_le _, Nat.zero_le _⟩) hP hD hA hS [0, 1, 2, 3, 4, 5, 6, 7, 8] rfl (by decide) rfl (fun H locs hP hD hS => ?_)
      have hP : va_P D vwCl (wM y q F_13 G) H := hP
      have hD : va_D A (wM y q F_13 G) := hD
      refine lv_if_eq (tgt := 43) hx hb dX4_island_30 (by decide) (fun c_15 => ?_) (fun c_15 => ?_)
      · have h := q_t c_15 h
        cases h
        exact K24_9 _ _ _ hP hD hS (lv_sub hl [0, 1] rfl)
      · have h := q_f c_15 h
        refine lv_aload_n hx hb dX4_island_33 rfl (lv_at hl 0 rfl) ?_
        obtain ⟨F_16, hc_17, h⟩ := q_bd_ok h
        refine q_cv (va_runV (As := []) (rest := []) ⟨hx, hb, hml, hown, hts⟩ (c_X4_item l D y t q _ N F_13 G F_16 hc_17) (cwV 0 hts gX4_island_X4_item rfl rfl rfl eX4_item ⟨Nat.le_of_ble_eq_true rfl, Nat.le_of_ble_eq_true rfl⟩) ⟨q_blind, (va_recv hK hP (ci := 4) (q0 := 0) rfl rfl), (q_pre hP hK hZ hD hA hS [0, 1, 2, 3, 4, 5, 6, 7, 8] rfl (by decide))⟩ rfl rfl hl.1 rfl (lv_room (Nat.le_of_ble_eq_true rfl)) dX4_island_34 ⟨Nat.zero_le _, Nat.zero_le _⟩) hP hD hA hS [0, 1, 2, 3, 4, 5, 6, 7, 8] rfl (by decide) rfl (fun H locs hP hD hS => ?_)
        have hP : va_P D vwCl (wM y q F_16 G) H := hP
        have hD : va_D A (wM y q F_16 G) := hD
        obtain ⟨x_18, ex_18, h⟩ := q_let_ok h
        refine lv_iinc (v := x_18) (lv' := [(1, .int x_18), (0, .ref (q 0))]) hx hb dX4_island_37 hl (k := 1) rfl (by rw [ex_18]; rfl) (by decide) rfl (fun ls hl => ?_)
        refine lv_goto (tgt := 24) hx hb dX4_island_40 (by decide) ?_
        exact ih24_9 x_18 F_16 K24_9 _ _ _ hP hD hS (lv_sub hl [1, 0] rfl) h
  exact L24_9 G N (1 : Int32) F_7 K24_9 _ _ _ hP hD hS (lv_sub hl [1, 0] rfl) hL9
theorem eX4_island : yX4_island.cls = RX4 ∧ yX4_island.cls ≠ "java/lang/invoke/MethodHandle" ∧ yX4_island.cls ≠ "java/lang/invoke/VarHandle" ∧ (parseMethodDescriptor yX4_island.desc).map (fun d => d.parameters.length) = some 0 := by decide +kernel
def f_X4_isSheet (N : Nat) (p1 : Int32) : Option (Int32) :=
  q_bd (f_X4_in N (p1.toInt64) (0 : Int32) (3 : Int32)) (fun r_1 =>
  q_gb r_1 (some r_1))
set_option maxHeartbeats 4000000 in
set_option maxRecDepth 100000 in
theorem c_X4_isSheet (l : Launch) (D : va_G) (y : Nat → ClassId) (t : Nat → Nat) (q : Nat → Nat) (sz N : Nat) (p1 : Int32) (res : Int32) (h : f_X4_isSheet N p1 = some res) : Met l yX4_isSheet wsX4_isSheet ({ frames := 1, cells := 0, slots := 0, locals := 23 } : Room) (pPre D y t [.int p1] (([] : va_W)) sz) (pQi D y res (([] : va_W)) (va_A (([] : va_W)) sz)) 0 0 (va_A (([] : va_W)) sz) := by
  refine q_start (Qc := (fun A => pQi D y res (([] : va_W)) A)) (cc := cX4_isSheet) (maxL := 1) (ret := (some .boolean)) (by decide) rfl (Nat.le_of_ble_eq_true rfl) ?_
  intro p e s m below meth c A ls hx hb hr hts hown hlocks hmn hml hP hK hZ hD hA hS hl
  have hl : lv_has ls 1 [(0, .int p1)] := hl
  have hown : s.vm.findClass RX4 = some m.cls := hown
  unfold f_X4_isSheet at h
  refine lv_iload_n hx hb dX4_isSheet_0 rfl (lv_at hl 0 rfl) ?_
  refine lv_i2l hx hb dX4_isSheet_1 rfl ?_
  refine lv_iconst (v := 0) hx hb dX4_isSheet_2 (by decide) ?_
  refine lv_iconst (v := 3) hx hb dX4_isSheet_3 (by decide) ?_
  obtain ⟨r_1, hc_2, h⟩ := q_bd_ok h
  refine q_ci (r := r_1) (va_runS (As := [.long (p1.toInt64), .int (0 : Int32), .int (3 : Int32)]) (rest := []) ⟨hx, hb, hml, hown, hts⟩ (c_X4_in l D y t q _ N (p1.toInt64) (0 : Int32) (3 : Int32) r_1 hc_2) (va_cwS 3 hts gX4_isSheet_X4_in rfl rfl rfl eX4_in ⟨Nat.le_of_ble_eq_true rfl, Nat.le_of_ble_eq_true rfl⟩) ⟨q_blind, (q_pre hP hK hZ hD hA hS [] rfl (by decide))⟩ rfl rfl hl.1 rfl (lv_room (Nat.le_of_ble_eq_true rfl)) dX4_isSheet_4 ⟨Nat.zero_le _, Nat.zero_le _⟩) hP hD hA hS [] rfl (by decide) rfl (fun H locs hP hD hS => ?_)
  have hP : va_P D vwCl (([] : va_W)) H := hP
  have hD : va_D A (([] : va_W)) := hD
  obtain ⟨hg9, h⟩ := q_gb_ok h
  have e9 := Option.some.inj h
  exact q_zret hx hb hr hlocks hK hP hD hS dX4_isSheet_7 (q_gb_nar hg9) (by first | rw [← e9] | rfl) (by first | rw [← e9] | rfl)
theorem eX4_isSheet : yX4_isSheet.cls ≠ "java/lang/invoke/MethodHandle" ∧ yX4_isSheet.cls ≠ "java/lang/invoke/VarHandle" ∧ (parseMethodDescriptor yX4_isSheet.desc).map (fun d => d.parameters.length) = some 1 := by decide +kernel
theorem kX4_sheet_0 : Cond.constant RX4 35 (-1000000001) ∈ wsX4_sheet := List.mem_of_getElem? (i := 1) (by decide +kernel)
theorem uX4_sheet_X4 : ∀ w ∈ u_ws RX4 TX4 15, w ∈ wsX4_sheet := by decide +kernel
theorem kX4_sheet_2 : Cond.fieldLink RX4 31 "BeamSeatsModel" "cells" "[J" ∈ wsX4_sheet := List.mem_of_getElem? (i := 5) (by decide +kernel)
theorem kX4_sheet_3 : Cond.fieldLink RX4 28 "BeamSeatsModel" "sizeOf" "[I" ∈ wsX4_sheet := List.mem_of_getElem? (i := 4) (by decide +kernel)
theorem kX4_sheet_4 : Cond.fieldLink RX4 25 "BeamSeatsModel" "bitsOf" "[I" ∈ wsX4_sheet := List.mem_of_getElem? (i := 3) (by decide +kernel)
theorem kX4_sheet_5 : Cond.constant RX4 213 (-1000000007) ∈ wsX4_sheet := List.mem_of_getElem? (i := 2) (by decide +kernel)
def f_X4_sheet_B29 (N : Nat) (F : Nat → Nat → Int32) (G : Nat → Int64) : Option (Int32 × (Nat → Nat → Int32) × (Nat → Int64)) :=
  q_bd2 (f_X4_finds N F G (-1000000001 : Int32)) (fun r_4 F_5 =>
  some (r_4, F_5, G))
def f_X4_sheet_L85 (N : Nat) (F : Nat → Nat → Int32) (v1 : Int32) : Nat → Int32 → (Nat → Int64) → Option (Int32 × (Nat → Int64))
  | 0, _, _ => none
  | k + 1, v4, G =>
    if (40 : Int32) ≤ v4 then
      some (v4, G)
    else
      q_grd (((40 : Int32) * v1) + v4) 160 (
      q_let (vp_updL G (((40 : Int32) * v1) + v4).toNatClampNeg (0 : Int64)) (fun G_20 =>
      q_let (v4 + 1) (fun x_21 =>
      f_X4_sheet_L85 N F v1 k x_21 G_20)))
def f_X4_sheet_B36 (N : Nat) (F : Nat → Nat → Int32) (G : Nat → Int64) (v1 : Int32) (v2 : Int32) (v3 : Int32) : Option (Int32 × (Nat → Nat → Int32) × (Nat → Int64)) :=
  if 0 ≤ v3 then
    if v3 ≤ (40 : Int32) then
      q_grd v1 4 (
      q_let (q_up F 6 v1.toNatClampNeg v2) (fun F_11 =>
      if v2 = 0 then
        q_grd v1 4 (
        q_let (q_up F_11 7 v1.toNatClampNeg (0 : Int32)) (fun F_24 =>
        q_bd2 (f_X4_sheet_L85 N F_24 v1 N (0 : Int32) G) (fun x_26 G_27 =>
        q_grd v1 4 (
        some ((F_24 7 v1.toNatClampNeg), F_24, G_27)))))
      else
        q_grd v1 4 (
        q_let (q_up F_11 7 v1.toNatClampNeg v3) (fun F_14 =>
        q_bd2 (f_X4_sheet_L85 N F_14 v1 N (0 : Int32) G) (fun x_16 G_17 =>
        q_grd v1 4 (
        some ((F_14 7 v1.toNatClampNeg), F_14, G_17)))))))
    else
      q_bd2 (f_X4_finds N F G (-1000000001 : Int32)) (fun r_33 F_34 =>
      some (r_33, F_34, G))
  else
    q_bd2 (f_X4_finds N F G (-1000000007 : Int32)) (fun r_36 F_37 =>
    some (r_36, F_37, G))
def f_X4_sheet (N : Nat) (F : Nat → Nat → Int32) (G : Nat → Int64) (p1 : Int32) (p2 : Int32) (p3 : Int32) : Option (Int32 × (Nat → Nat → Int32) × (Nat → Int64)) :=
  q_bd (f_X4_isSheet N p1) (fun r_1 =>
  if r_1 = 0 then
    f_X4_sheet_B29 N F G
  else
    if p2 = 0 then
      f_X4_sheet_B36 N F G p1 p2 p3
    else
      if p2 = (8 : Int32) then
        f_X4_sheet_B36 N F G p1 p2 p3
      else
        if p2 = (16 : Int32) then
          f_X4_sheet_B36 N F G p1 p2 p3
        else
          if p2 = (64 : Int32) then
            f_X4_sheet_B36 N F G p1 p2 p3
          else
            f_X4_sheet_B29 N F G)
set_option maxHeartbeats 4000000 in
set_option maxRecDepth 100000 in
theorem c_X4_sheet (l : Launch) (D : va_G) (y : Nat → ClassId) (t : Nat → Nat) (q : Nat → Nat) (sz N : Nat) (F : Nat → Nat → Int32) (G : Nat → Int64) (p1 : Int32) (p2 : Int32) (p3 : Int32) (res : Int32 × (Nat → Nat → Int32) × (Nat → Int64)) (h : f_X4_sheet N F G p1 p2 p3 = some res) : Met l yX4_sheet wsX4_sheet ({ frames := 2, cells := 0, slots := 0, locals := 43 } : Room) (pPre D y t [.ref (q 0), .int p1, .int p2, .int p3] (wM y q F G) sz) (pQi D y (res.1) (wM y q (res.2.1) (res.2.2)) (va_A (wM y q F G) sz)) 0 0 (va_A (wM y q F G) sz) := by
  refine q_start (Qc := (fun A => pQi D y (res.1) (wM y q (res.2.1) (res.2.2)) A)) (cc := cX4_sheet) (maxL := 5) (ret := (some .int)) (by decide) rfl (Nat.le_of_ble_eq_true rfl) ?_
  intro p e s m below meth c A ls hx hb hr hts hown hlocks hmn hml hP hK hZ hD hA hS hl
  have hl : lv_has ls 5 [(0, .ref (q 0)), (1, .int p1), (2, .int p2), (3, .int p3)] := hl
  have hown : s.vm.findClass RX4 = some m.cls := hown
  have B29 : ∀ (F : Nat → Nat → Int32) (G : Nat → Int64) (H : Heap) (locs : List Loc) (ls : Array Slot), va_P D vwCl (wM y q F G) H → va_D A (wM y q F G) → va_S A s.heap H locs → lv_has ls 5 [(0, .ref (q 0))] → f_X4_sheet_B29 N F G = some res → W p l e ({ frames := 2, cells := 0, slots := 0, locals := 43 } : Room) s m ([.ref (q 0), .int p1, .int p2, .int p3] : List Value).toArray below meth c H locs 0 0 (MQ below (pQi D y (res.1) (wM y q (res.2.1) (res.2.2)) A) ([.ref (q 0), .int p1, .int p2, .int p3] : List Value).toArray s 0 0 A) (F0 m 29 ls []) := by
    intro F G H locs ls hP hD hS hl h
    unfold f_X4_sheet_B29 at h
    refine lv_aload_n hx hb dX4_sheet_29 rfl (lv_at hl 0 rfl) ?_
    refine lv_ldc (v := -1000000001) hx hb hown (hts _ kX4_sheet_0) dX4_sheet_30 ?_
    obtain ⟨r_4, F_5, hc_6, h⟩ := q_bd2_ok h
    refine q_ci (r := r_4) (va_runV (As := [.int (-1000000001 : Int32)]) (rest := []) ⟨hx, hb, hml, hown, hts⟩ (c_X4_finds l D y t q _ N F G (-1000000001 : Int32) (r_4, F_5) hc_6) (cwV 1 hts gX4_sheet_X4_finds rfl rfl rfl eX4_finds ⟨Nat.le_of_ble_eq_true rfl, Nat.le_of_ble_eq_true rfl⟩) ⟨q_blind, (va_recv hK hP (ci := 4) (q0 := 0) rfl rfl), (q_pre hP hK hZ hD hA hS [0, 1, 2, 3, 4, 5, 6, 7, 8] rfl (by decide))⟩ rfl rfl hl.1 rfl (lv_room (Nat.le_of_ble_eq_true rfl)) dX4_sheet_32 ⟨Nat.zero_le _, Nat.zero_le _⟩) hP hD hA hS [0, 1, 2, 3, 4, 5, 6, 7, 8] rfl (by decide) rfl (fun H locs hP hD hS => ?_)
    have hP : va_P D vwCl (wM y q F_5 G) H := hP
    have hD : va_D A (wM y q F_5 G) := hD
    have e9 := Option.some.inj h
    exact q_iret hx hb hr hlocks hK hP hD hS dX4_sheet_35 (by first | rw [← e9] | rfl) (by first | rw [← e9] | rfl)
  have B36 : ∀ (F : Nat → Nat → Int32) (G : Nat → Int64) (v1 : Int32) (v2 : Int32) (v3 : Int32) (H : Heap) (locs : List Loc) (ls : Array Slot), va_P D vwCl (wM y q F G) H → va_D A (wM y q F G) → va_S A s.heap H locs → lv_has ls 5 [(0, .ref (q 0)), (1, .int v1), (2, .int v2), (3, .int v3)] → f_X4_sheet_B36 N F G v1 v2 v3 = some res → W p l e ({ frames := 2, cells := 0, slots := 0, locals := 43 } : Room) s m ([.ref (q 0), .int p1, .int p2, .int p3] : List Value).toArray below meth c H locs 0 0 (MQ below (pQi D y (res.1) (wM y q (res.2.1) (res.2.2)) A) ([.ref (q 0), .int p1, .int p2, .int p3] : List Value).toArray s 0 0 A) (F0 m 36 ls []) := by
    intro F G v1 v2 v3 H locs ls hP hD hS hl h
    unfold f_X4_sheet_B36 at h
    refine lv_iload_n hx hb dX4_sheet_36 rfl (lv_at hl 3 rfl) ?_
    refine lv_if_ge (tgt := 47) hx hb dX4_sheet_37 (by decide) (fun c_8 => ?_) (fun c_8 => ?_)
    · have h := q_t c_8 h
      refine lv_iload_n hx hb dX4_sheet_47 rfl (lv_at hl 3 rfl) ?_
      refine lv_bipush (v := 40) hx hb dX4_sheet_48 (by decide) ?_
      refine lv_icmp_le (tgt := 60) hx hb dX4_sheet_50 (by decide) (fun c_9 => ?_) (fun c_9 => ?_)
      · have h := q_t c_9 h
        refine lv_aload_n hx hb dX4_sheet_60 rfl (lv_at hl 0 rfl) ?_
        refine va_get (D := D) (ci := 4) (v := .ref (q 6)) (C := RX4) (T := TX4) (N := 15) hx hb hts uX4_sheet_X4 hown hK hP 0 rfl rfl 12 (by decide) (hts _ kX4_sheet_4) (fun _ h9 => h9) rfl dX4_sheet_61 ?_
        refine lv_iload_n hx hb dX4_sheet_64 rfl (lv_at hl 1 rfl) ?_
        refine lv_iload_n hx hb dX4_sheet_65 rfl (lv_at hl 2 rfl) ?_
        obtain ⟨z_10, h⟩ := q_grd_ok h
        obtain ⟨F_11, eF_11, h⟩ := q_let_ok h
        refine va_iast hx hb hK hP hD hS 6 0 rfl rfl z_10 dX4_sheet_66 (fun H locs hP hD hS => ?_)
        have hP : va_P D vwCl (wM y q F_11 G) H := by rw [eF_11]; exact hP
        have hD : va_D A (wM y q F_11 G) := by rw [eF_11]; exact hD
        refine lv_aload_n hx hb dX4_sheet_67 rfl (lv_at hl 0 rfl) ?_
        refine va_get (D := D) (ci := 4) (v := .ref (q 7)) (C := RX4) (T := TX4) (N := 15) hx hb hts uX4_sheet_X4 hown hK hP 0 rfl rfl 13 (by decide) (hts _ kX4_sheet_3) (fun _ h9 => h9) rfl dX4_sheet_68 ?_
        refine lv_iload_n hx hb dX4_sheet_71 rfl (lv_at hl 1 rfl) ?_
        refine lv_iload_n hx hb dX4_sheet_72 rfl (lv_at hl 2 rfl) ?_
        refine lv_if_ne (tgt := 80) hx hb dX4_sheet_73 (by decide) (fun c_12 => ?_) (fun c_12 => ?_)
        · have h := q_f c_12 h
          refine lv_iload_n hx hb dX4_sheet_80 rfl (lv_at hl 3 rfl) ?_
          obtain ⟨z_13, h⟩ := q_grd_ok h
          obtain ⟨F_14, eF_14, h⟩ := q_let_ok h
          refine va_iast hx hb hK hP hD hS 7 0 rfl rfl z_13 dX4_sheet_81 (fun H locs hP hD hS => ?_)
          have hP : va_P D vwCl (wM y q F_14 G) H := by rw [eF_14]; exact hP
          have hD : va_D A (wM y q F_14 G) := by rw [eF_14]; exact hD
          refine lv_iconst (v := 0) hx hb dX4_sheet_82 (by decide) ?_
          refine lv_istore (lv' := [(4, .int (0 : Int32)), (0, .ref (q 0)), (1, .int v1), (2, .int v2), (3, .int v3)]) hx hb dX4_sheet_83 hl (by decide) rfl (fun ls hl => ?_)
          obtain ⟨x_16, G_17, hL15, h⟩ := q_bd2_ok h
          have K85_15 : ∀ (H : Heap) (locs : List Loc) (ls : Array Slot), va_P D vwCl (wM y q F_14 G_17) H → va_D A (wM y q F_14 G_17) → va_S A s.heap H locs → lv_has ls 5 [(0, .ref (q 0)), (1, .int v1), (4, .int x_16)] → W p l e ({ frames := 2, cells := 0, slots := 0, locals := 43 } : Room) s m ([.ref (q 0), .int p1, .int p2, .int p3] : List Value).toArray below meth c H locs 0 0 (MQ below (pQi D y (res.1) (wM y q (res.2.1) (res.2.2)) A) ([.ref (q 0), .int p1, .int p2, .int p3] : List Value).toArray s 0 0 A) (F0 m 111 ls []) := by
            intro H locs ls hP hD hS hl
            refine lv_aload_n hx hb dX4_sheet_111 rfl (lv_at hl 0 rfl) ?_
            refine va_get (D := D) (ci := 4) (v := .ref (q 7)) (C := RX4) (T := TX4) (N := 15) hx hb hts uX4_sheet_X4 hown hK hP 0 rfl rfl 13 (by decide) (hts _ kX4_sheet_3) (fun _ h9 => h9) rfl dX4_sheet_112 ?_
            refine lv_iload_n hx hb dX4_sheet_115 rfl (lv_at hl 1 rfl) ?_
            obtain ⟨z_22, h⟩ := q_grd_ok h
            refine va_iald hx hb hK hP 7 0 rfl rfl z_22 dX4_sheet_116 ?_
            have e9 := Option.some.inj h
            exact q_iret hx hb hr hlocks hK hP hD hS dX4_sheet_117 (by first | rw [← e9] | rfl) (by first | rw [← e9] | rfl)
          have L85_15 : ∀ (F : Nat → Nat → Int32) (v1 : Int32) (k : Nat) (v4 : Int32) (G : Nat → Int64), (∀ (H : Heap) (locs : List Loc) (ls : Array Slot), va_P D vwCl (wM y q F G_17) H → va_D A (wM y q F G_17) → va_S A s.heap H locs → lv_has ls 5 [(0, .ref (q 0)), (1, .int v1), (4, .int x_16)] → W p l e ({ frames := 2, cells := 0, slots := 0, locals := 43 } : Room) s m ([.ref (q 0), .int p1, .int p2, .int p3] : List Value).toArray below meth c H locs 0 0 (MQ below (pQi D y (res.1) (wM y q (res.2.1) (res.2.2)) A) ([.ref (q 0), .int p1, .int p2, .int p3] : List Value).toArray s 0 0 A) (F0 m 111 ls [])) → ∀ (H : Heap) (locs : List Loc) (ls : Array Slot), va_P D vwCl (wM y q F G) H → va_D A (wM y q F G) → va_S A s.heap H locs → lv_has ls 5 [(0, .ref (q 0)), (1, .int v1), (4, .int v4)] → f_X4_sheet_L85 N F v1 k v4 G = some (x_16, G_17) → W p l e ({ frames := 2, cells := 0, slots := 0, locals := 43 } : Room) s m ([.ref (q 0), .int p1, .int p2, .int p3] : List Value).toArray below meth c H locs 0 0 (MQ below (pQi D y (res.1) (wM y q (res.2.1) (res.2.2)) A) ([.ref (q 0), .int p1, .int p2, .int p3] : List Value).toArray s 0 0 A) (F0 m 85 ls []) := by
            intro F v1 k
            induction k with
            | zero =>
              intro v4 G K85_15 H locs ls hP hD hS hl h
              have h : (none : Option (Int32 × (Nat → Int64))) = some _ := h
              cases h
            | succ k ih85_15 =>
              intro v4 G K85_15 H locs ls hP hD hS hl h
              rw [f_X4_sheet_L85] at h
              refine lv_iload hx hb dX4_sheet_85 (lv_at hl 2 rfl) ?_
              refine lv_bipush (v := 40) hx hb dX4_sheet_87 (by decide) ?_
              refine lv_icmp_ge (tgt := 111) hx hb dX4_sheet_89 (by decide) (fun c_18 => ?_) (fun c_18 => ?_)
              · have h := q_t c_18 h
                cases h
                exact K85_15 _ _ _ hP hD hS (lv_sub hl [0, 1, 2] rfl)
              · have h := q_f c_18 h
                refine lv_aload_n hx hb dX4_sheet_92 rfl (lv_at hl 0 rfl) ?_
                refine va_get (D := D) (ci := 4) (v := .ref (q 8)) (C := RX4) (T := TX4) (N := 15) hx hb hts uX4_sheet_X4 hown hK hP 0 rfl rfl 14 (by decide) (hts _ kX4_sheet_2) (fun _ h9 => h9) rfl dX4_sheet_93 ?_
                refine lv_bipush (v := 40) hx hb dX4_sheet_96 (by decide) ?_
                refine lv_iload_n hx hb dX4_sheet_98 rfl (lv_at hl 1 rfl) ?_
                refine lv_imul hx hb dX4_sheet_99 ?_
                refine lv_iload hx hb dX4_sheet_100 (lv_at hl 2 rfl) ?_
                refine lv_iadd hx hb dX4_sheet_102 ?_
                refine lv_lconst (v := 0) hx hb dX4_sheet_103 (by decide) ?_
                obtain ⟨z_19, h⟩ := q_grd_ok h
                obtain ⟨G_20, eG_20, h⟩ := q_let_ok h
                refine va_last hx hb hK hP hD hS 8 2 rfl rfl z_19 dX4_sheet_104 (fun H locs hP hD hS => ?_)
                have hP : va_P D vwCl (wM y q F G_20) H := by rw [eG_20]; exact hP
                have hD : va_D A (wM y q F G_20) := by rw [eG_20]; exact hD
                obtain ⟨x_21, ex_21, h⟩ := q_let_ok h
                refine lv_iinc (v := x_21) (lv' := [(4, .int x_21), (0, .ref (q 0)), (1, .int v1)]) hx hb dX4_sheet_105 hl (k := 2) rfl (by rw [ex_21]; rfl) (by decide) rfl (fun ls hl => ?_)
                refine lv_goto (tgt := 85) hx hb dX4_sheet_108 (by decide) ?_
                exact ih85_15 x_21 G_20 K85_15 _ _ _ hP hD hS (lv_sub hl [1, 2, 0] rfl) h
          exact L85_15 F_14 v1 N (0 : Int32) G K85_15 _ _ _ hP hD hS (lv_sub hl [1, 2, 0] rfl) hL15
        · have h := q_t c_12 h
          refine lv_iconst (v := 0) hx hb dX4_sheet_76 (by decide) ?_
          refine lv_goto (tgt := 81) hx hb dX4_sheet_77 (by decide) ?_
          obtain ⟨z_23, h⟩ := q_grd_ok h
          obtain ⟨F_24, eF_24, h⟩ := q_let_ok h
          refine va_iast hx hb hK hP hD hS 7 0 rfl rfl z_23 dX4_sheet_81 (fun H locs hP hD hS => ?_)
          have hP : va_P D vwCl (wM y q F_24 G) H := by rw [eF_24]; exact hP
          have hD : va_D A (wM y q F_24 G) := by rw [eF_24]; exact hD
          refine lv_iconst (v := 0) hx hb dX4_sheet_82 (by decide) ?_
          refine lv_istore (lv' := [(4, .int (0 : Int32)), (0, .ref (q 0)), (1, .int v1), (2, .int v2), (3, .int v3)]) hx hb dX4_sheet_83 hl (by decide) rfl (fun ls hl => ?_)
          obtain ⟨x_26, G_27, hL25, h⟩ := q_bd2_ok h
          have K85_25 : ∀ (H : Heap) (locs : List Loc) (ls : Array Slot), va_P D vwCl (wM y q F_24 G_27) H → va_D A (wM y q F_24 G_27) → va_S A s.heap H locs → lv_has ls 5 [(0, .ref (q 0)), (1, .int v1), (4, .int x_26)] → W p l e ({ frames := 2, cells := 0, slots := 0, locals := 43 } : Room) s m ([.ref (q 0), .int p1, .int p2, .int p3] : List Value).toArray below meth c H locs 0 0 (MQ below (pQi D y (res.1) (wM y q (res.2.1) (res.2.2)) A) ([.ref (q 0), .int p1, .int p2, .int p3] : List Value).toArray s 0 0 A) (F0 m 111 ls []) := by
            intro H locs ls hP hD hS hl
            refine lv_aload_n hx hb dX4_sheet_111 rfl (lv_at hl 0 rfl) ?_
            refine va_get (D := D) (ci := 4) (v := .ref (q 7)) (C := RX4) (T := TX4) (N := 15) hx hb hts uX4_sheet_X4 hown hK hP 0 rfl rfl 13 (by decide) (hts _ kX4_sheet_3) (fun _ h9 => h9) rfl dX4_sheet_112 ?_
            refine lv_iload_n hx hb dX4_sheet_115 rfl (lv_at hl 1 rfl) ?_
            obtain ⟨z_32, h⟩ := q_grd_ok h
            refine va_iald hx hb hK hP 7 0 rfl rfl z_32 dX4_sheet_116 ?_
            have e9 := Option.some.inj h
            exact q_iret hx hb hr hlocks hK hP hD hS dX4_sheet_117 (by first | rw [← e9] | rfl) (by first | rw [← e9] | rfl)
          have L85_25 : ∀ (F : Nat → Nat → Int32) (v1 : Int32) (k : Nat) (v4 : Int32) (G : Nat → Int64), (∀ (H : Heap) (locs : List Loc) (ls : Array Slot), va_P D vwCl (wM y q F G_27) H → va_D A (wM y q F G_27) → va_S A s.heap H locs → lv_has ls 5 [(0, .ref (q 0)), (1, .int v1), (4, .int x_26)] → W p l e ({ frames := 2, cells := 0, slots := 0, locals := 43 } : Room) s m ([.ref (q 0), .int p1, .int p2, .int p3] : List Value).toArray below meth c H locs 0 0 (MQ below (pQi D y (res.1) (wM y q (res.2.1) (res.2.2)) A) ([.ref (q 0), .int p1, .int p2, .int p3] : List Value).toArray s 0 0 A) (F0 m 111 ls [])) → ∀ (H : Heap) (locs : List Loc) (ls : Array Slot), va_P D vwCl (wM y q F G) H → va_D A (wM y q F G) → va_S A s.heap H locs → lv_has ls 5 [(0, .ref (q 0)), (1, .int v1), (4, .int v4)] → f_X4_sheet_L85 N F v1 k v4 G = some (x_26, G_27) → W p l e ({ frames := 2, cells := 0, slots := 0, locals := 43 } : Room) s m ([.ref (q 0), .int p1, .int p2, .int p3] : List Value).toArray below meth c H locs 0 0 (MQ below (pQi D y (res.1) (wM y q (res.2.1) (res.2.2)) A) ([.ref (q 0), .int p1, .int p2, .int p3] : List Value).toArray s 0 0 A) (F0 m 85 ls []) := by
            intro F v1 k
            induction k with
            | zero =>
              intro v4 G K85_25 H locs ls hP hD hS hl h
              have h : (none : Option (Int32 × (Nat → Int64))) = some _ := h
              cases h
            | succ k ih85_25 =>
              intro v4 G K85_25 H locs ls hP hD hS hl h
              rw [f_X4_sheet_L85] at h
              refine lv_iload hx hb dX4_sheet_85 (lv_at hl 2 rfl) ?_
              refine lv_bipush (v := 40) hx hb dX4_sheet_87 (by decide) ?_
              refine lv_icmp_ge (tgt := 111) hx hb dX4_sheet_89 (by decide) (fun c_28 => ?_) (fun c_28 => ?_)
              · have h := q_t c_28 h
                cases h
                exact K85_25 _ _ _ hP hD hS (lv_sub hl [0, 1, 2] rfl)
              · have h := q_f c_28 h
                refine lv_aload_n hx hb dX4_sheet_92 rfl (lv_at hl 0 rfl) ?_
                refine va_get (D := D) (ci := 4) (v := .ref (q 8)) (C := RX4) (T := TX4) (N := 15) hx hb hts uX4_sheet_X4 hown hK hP 0 rfl rfl 14 (by decide) (hts _ kX4_sheet_2) (fun _ h9 => h9) rfl dX4_sheet_93 ?_
                refine lv_bipush (v := 40) hx hb dX4_sheet_96 (by decide) ?_
                refine lv_iload_n hx hb dX4_sheet_98 rfl (lv_at hl 1 rfl) ?_
                refine lv_imul hx hb dX4_sheet_99 ?_
                refine lv_iload hx hb dX4_sheet_100 (lv_at hl 2 rfl) ?_
                refine lv_iadd hx hb dX4_sheet_102 ?_
                refine lv_lconst (v := 0) hx hb dX4_sheet_103 (by decide) ?_
                obtain ⟨z_29, h⟩ := q_grd_ok h
                obtain ⟨G_30, eG_30, h⟩ := q_let_ok h
                refine va_last hx hb hK hP hD hS 8 2 rfl rfl z_29 dX4_sheet_104 (fun H locs hP hD hS => ?_)
                have hP : va_P D vwCl (wM y q F G_30) H := by rw [eG_30]; exact hP
                have hD : va_D A (wM y q F G_30) := by rw [eG_30]; exact hD
                obtain ⟨x_31, ex_31, h⟩ := q_let_ok h
                refine lv_iinc (v := x_31) (lv' := [(4, .int x_31), (0, .ref (q 0)), (1, .int v1)]) hx hb dX4_sheet_105 hl (k := 2) rfl (by rw [ex_31]; rfl) (by decide) rfl (fun ls hl => ?_)
                refine lv_goto (tgt := 85) hx hb dX4_sheet_108 (by decide) ?_
                exact ih85_25 x_31 G_30 K85_25 _ _ _ hP hD hS (lv_sub hl [1, 2, 0] rfl) h
          exact L85_25 F_24 v1 N (0 : Int32) G K85_25 _ _ _ hP hD hS (lv_sub hl [1, 2, 0] rfl) hL25
      · have h := q_f c_9 h
        refine lv_aload_n hx hb dX4_sheet_53 rfl (lv_at hl 0 rfl) ?_
        refine lv_ldc (v := -1000000001) hx hb hown (hts _ kX4_sheet_0) dX4_sheet_54 ?_
        obtain ⟨r_33, F_34, hc_35, h⟩ := q_bd2_ok h
        refine q_ci (r := r_33) (va_runV (As := [.int (-1000000001 : Int32)]) (rest := []) ⟨hx, hb, hml, hown, hts⟩ (c_X4_finds l D y t q _ N F G (-1000000001 : Int32) (r_33, F_34) hc_35) (cwV 1 hts gX4_sheet_X4_finds rfl rfl rfl eX4_finds ⟨Nat.le_of_ble_eq_true rfl, Nat.le_of_ble_eq_true rfl⟩) ⟨q_blind, (va_recv hK hP (ci := 4) (q0 := 0) rfl rfl), (q_pre hP hK hZ hD hA hS [0, 1, 2, 3, 4, 5, 6, 7, 8] rfl (by decide))⟩ rfl rfl hl.1 rfl (lv_room (Nat.le_of_ble_eq_true rfl)) dX4_sheet_56 ⟨Nat.zero_le _, Nat.zero_le _⟩) hP hD hA hS [0, 1, 2, 3, 4, 5, 6, 7, 8] rfl (by decide) rfl (fun H locs hP hD hS => ?_)
        have hP : va_P D vwCl (wM y q F_34 G) H := hP
        have hD : va_D A (wM y q F_34 G) := hD
        have e9 := Option.some.inj h
        exact q_iret hx hb hr hlocks hK hP hD hS dX4_sheet_59 (by first | rw [← e9] | rfl) (by first | rw [← e9] | rfl)
    · have h := q_f c_8 h
      refine lv_aload_n hx hb dX4_sheet_40 rfl (lv_at hl 0 rfl) ?_
      refine lv_ldc (v := -1000000007) hx hb hown (hts _ kX4_sheet_5) dX4_sheet_41 ?_
      obtain ⟨r_36, F_37, hc_38, h⟩ := q_bd2_ok h
      refine q_ci (r := r_36) (va_runV (As := [.int (-1000000007 : Int32)]) (rest := []) ⟨hx, hb, hml, hown, hts⟩ (c_X4_finds l D y t q _ N F G (-1000000007 : Int32) (r_36, F_37) hc_38) (cwV 1 hts gX4_sheet_X4_finds rfl rfl rfl eX4_finds ⟨Nat.le_of_ble_eq_true rfl, Nat.le_of_ble_eq_true rfl⟩) ⟨q_blind, (va_recv hK hP (ci := 4) (q0 := 0) rfl rfl), (q_pre hP hK hZ hD hA hS [0, 1, 2, 3, 4, 5, 6, 7, 8] rfl (by decide))⟩ rfl rfl hl.1 rfl (lv_room (Nat.le_of_ble_eq_true rfl)) dX4_sheet_43 ⟨Nat.zero_le _, Nat.zero_le _⟩) hP hD hA hS [0, 1, 2, 3, 4, 5, 6, 7, 8] rfl (by decide) rfl (fun H locs hP hD hS => ?_)
      have hP : va_P D vwCl (wM y q F_37 G) H := hP
      have hD : va_D A (wM y q F_37 G) := hD
      have e9 := Option.some.inj h
      exact q_iret hx hb hr hlocks hK hP hD hS dX4_sheet_46 (by first | rw [← e9] | rfl) (by first | rw [← e9] | rfl)
  unfold f_X4_sheet at h
  refine lv_iload_n hx hb dX4_sheet_0 rfl (lv_at hl 1 rfl) ?_
  obtain ⟨r_1, hc_2, h⟩ := q_bd_ok h
  refine q_ci (r := r_1) (va_runS (As := [.int p1]) (rest := []) ⟨hx, hb, hml, hown, hts⟩ (c_X4_isSheet l D y t q _ N p1 r_1 hc_2) (va_cwS 1 hts gX4_sheet_X4_isSheet rfl rfl rfl eX4_isSheet ⟨Nat.le_of_ble_eq_true rfl, Nat.le_of_ble_eq_true rfl⟩) ⟨q_blind, (q_pre hP hK hZ hD hA hS [] rfl (by decide))⟩ rfl rfl hl.1 rfl (lv_room (Nat.le_of_ble_eq_true rfl)) dX4_sheet_1 ⟨Nat.zero_le _, Nat.zero_le _⟩) hP hD hA hS [] rfl (by decide) rfl (fun H locs hP hD hS => ?_)
  have hP : va_P D vwCl (wM y q F G) H := hP
  have hD : va_D A (wM y q F G) := hD
  refine lv_if_eq (tgt := 29) hx hb dX4_sheet_4 (by decide) (fun c_3 => ?_) (fun c_3 => ?_)
  · have h := q_t c_3 h
    exact B29 F G _ _ _ hP hD hS (lv_sub hl [0] rfl) h
  · have h := q_f c_3 h
    refine lv_iload_n hx hb dX4_sheet_7 rfl (lv_at hl 2 rfl) ?_
    refine lv_if_eq (tgt := 36) hx hb dX4_sheet_8 (by decide) (fun c_7 => ?_) (fun c_7 => ?_)
    · have h := q_t c_7 h
      exact B36 F G p1 p2 p3 _ _ _ hP hD hS (lv_sub hl [0, 1, 2, 3] rfl) h
    · have h := q_f c_7 h
      refine lv_iload_n hx hb dX4_sheet_11 rfl (lv_at hl 2 rfl) ?_
      refine lv_bipush (v := 8) hx hb dX4_sheet_12 (by decide) ?_
      refine lv_icmp_eq (tgt := 36) hx hb dX4_sheet_14 (by decide) (fun c_39 => ?_) (fun c_39 => ?_)
      · have h := q_t c_39 h
        exact B36 F G p1 p2 p3 _ _ _ hP hD hS (lv_sub hl [0, 1, 2, 3] rfl) h
      · have h := q_f c_39 h
        refine lv_iload_n hx hb dX4_sheet_17 rfl (lv_at hl 2 rfl) ?_
        refine lv_bipush (v := 16) hx hb dX4_sheet_18 (by decide) ?_
        refine lv_icmp_eq (tgt := 36) hx hb dX4_sheet_20 (by decide) (fun c_40 => ?_) (fun c_40 => ?_)
        · have h := q_t c_40 h
          exact B36 F G p1 p2 p3 _ _ _ hP hD hS (lv_sub hl [0, 1, 2, 3] rfl) h
        · have h := q_f c_40 h
          refine lv_iload_n hx hb dX4_sheet_23 rfl (lv_at hl 2 rfl) ?_
          refine lv_bipush (v := 64) hx hb dX4_sheet_24 (by decide) ?_
          refine lv_icmp_eq (tgt := 36) hx hb dX4_sheet_26 (by decide) (fun c_41 => ?_) (fun c_41 => ?_)
          · have h := q_t c_41 h
            exact B36 F G p1 p2 p3 _ _ _ hP hD hS (lv_sub hl [0, 1, 2, 3] rfl) h
          · have h := q_f c_41 h
            exact B29 F G _ _ _ hP hD hS (lv_sub hl [0] rfl) h
theorem eX4_sheet : yX4_sheet.cls = RX4 ∧ yX4_sheet.cls ≠ "java/lang/invoke/MethodHandle" ∧ yX4_sheet.cls ≠ "java/lang/invoke/VarHandle" ∧ (parseMethodDescriptor yX4_sheet.desc).map (fun d => d.parameters.length) = some 3 := by decide +kernel
theorem kX4_notThere_0 : Cond.constant RX4 214 (-1000000006) ∈ wsX4_notThere := List.mem_of_getElem? (i := 3) (by decide +kernel)
theorem uX4_notThere_X4 : ∀ w ∈ u_ws RX4 TX4 15, w ∈ wsX4_notThere := by decide +kernel
theorem kX4_notThere_2 : Cond.fieldLink RX4 25 "BeamSeatsModel" "bitsOf" "[I" ∈ wsX4_notThere := List.mem_of_getElem? (i := 2) (by decide +kernel)
theorem kX4_notThere_3 : Cond.constant RX4 35 (-1000000001) ∈ wsX4_notThere := List.mem_of_getElem? (i := 1) (by decide +kernel)
def f_X4_notThere (N : Nat) (F : Nat → Nat → Int32) (G : Nat → Int64) (p1 : Int32) : Option (Int32) :=
  q_bd (f_X4_isSheet N p1) (fun r_1 =>
  if r_1 = 0 then
    some (-1000000001 : Int32)
  else
    q_grd p1 4 (
    if (F 6 p1.toNatClampNeg) = 0 then
      some (-1000000006 : Int32)
    else
      some (0 : Int32)))
set_option maxHeartbeats 4000000 in
set_option maxRecDepth 100000 in
theorem c_X4_notThere (l : Launch) (D : va_G) (y : Nat → ClassId) (t : Nat → Nat) (q : Nat → Nat) (sz N : Nat) (F : Nat → Nat → Int32) (G : Nat → Int64) (p1 : Int32) (res : Int32) (h : f_X4_notThere N F G p1 = some res) : Met l yX4_notThere wsX4_notThere ({ frames := 2, cells := 0, slots := 0, locals := 43 } : Room) (pPre D y t [.ref (q 0), .int p1] (wM y q F G) sz) (pQi D y res (wM y q F G) (va_A (wM y q F G) sz)) 0 0 (va_A (wM y q F G) sz) := by
  refine q_start (Qc := (fun A => pQi D y res (wM y q F G) A)) (cc := cX4_notThere) (maxL := 2) (ret := (some .int)) (by decide) rfl (Nat.le_of_ble_eq_true rfl) ?_
  intro p e s m below meth c A ls hx hb hr hts hown hlocks hmn hml hP hK hZ hD hA hS hl
  have hl : lv_has ls 2 [(0, .ref (q 0)), (1, .int p1)] := hl
  have hown : s.vm.findClass RX4 = some m.cls := hown
  unfold f_X4_notThere at h
  refine lv_iload_n hx hb dX4_notThere_0 rfl (lv_at hl 1 rfl) ?_
  obtain ⟨r_1, hc_2, h⟩ := q_bd_ok h
  refine q_ci (r := r_1) (va_runS (As := [.int p1]) (rest := []) ⟨hx, hb, hml, hown, hts⟩ (c_X4_isSheet l D y t q _ N p1 r_1 hc_2) (va_cwS 1 hts gX4_notThere_X4_isSheet rfl rfl rfl eX4_isSheet ⟨Nat.le_of_ble_eq_true rfl, Nat.le_of_ble_eq_true rfl⟩) ⟨q_blind, (q_pre hP hK hZ hD hA hS [] rfl (by decide))⟩ rfl rfl hl.1 rfl (lv_room (Nat.le_of_ble_eq_true rfl)) dX4_notThere_1 ⟨Nat.zero_le _, Nat.zero_le _⟩) hP hD hA hS [] rfl (by decide) rfl (fun H locs hP hD hS => ?_)
  have hP : va_P D vwCl (wM y q F G) H := hP
  have hD : va_D A (wM y q F G) := hD
  refine lv_if_ne (tgt := 12) hx hb dX4_notThere_4 (by decide) (fun c_3 => ?_) (fun c_3 => ?_)
  · have h := q_f c_3 h
    refine lv_aload_n hx hb dX4_notThere_12 rfl (lv_at hl 0 rfl) ?_
    refine va_get (D := D) (ci := 4) (v := .ref (q 6)) (C := RX4) (T := TX4) (N := 15) hx hb hts uX4_notThere_X4 hown hK hP 0 rfl rfl 12 (by decide) (hts _ kX4_notThere_2) (fun _ h9 => h9) rfl dX4_notThere_13 ?_
    refine lv_iload_n hx hb dX4_notThere_16 rfl (lv_at hl 1 rfl) ?_
    obtain ⟨z_4, h⟩ := q_grd_ok h
    refine va_iald hx hb hK hP 6 0 rfl rfl z_4 dX4_notThere_17 ?_
    refine lv_if_ne (tgt := 26) hx hb dX4_notThere_18 (by decide) (fun c_5 => ?_) (fun c_5 => ?_)
    · have h := q_f c_5 h
      refine lv_iconst (v := 0) hx hb dX4_notThere_26 (by decide) ?_
      have e9 := Option.some.inj h
      exact q_iret hx hb hr hlocks hK hP hD hS dX4_notThere_27 (by first | rw [← e9] | rfl) (by first | rw [← e9] | rfl)
    · have h := q_t c_5 h
      refine lv_ldc (v := -1000000006) hx hb hown (hts _ kX4_notThere_0) dX4_notThere_21 ?_
      refine lv_goto (tgt := 27) hx hb dX4_notThere_23 (by decide) ?_
      have e9 := Option.some.inj h
      exact q_iret hx hb hr hlocks hK hP hD hS dX4_notThere_27 (by first | rw [← e9] | rfl) (by first | rw [← e9] | rfl)
  · have h := q_t c_3 h
    refine lv_ldc (v := -1000000001) hx hb hown (hts _ kX4_notThere_3) dX4_notThere_7 ?_
    refine lv_goto (tgt := 27) hx hb dX4_notThere_9 (by decide) ?_
    have e9 := Option.some.inj h
    exact q_iret hx hb hr hlocks hK hP hD hS dX4_notThere_27 (by first | rw [← e9] | rfl) (by first | rw [← e9] | rfl)
theorem eX4_notThere : yX4_notThere.cls = RX4 ∧ yX4_notThere.cls ≠ "java/lang/invoke/MethodHandle" ∧ yX4_notThere.cls ≠ "java/lang/invoke/VarHandle" ∧ (parseMethodDescriptor yX4_notThere.desc).map (fun d => d.parameters.length) = some 1 := by decide +kernel
def f_X4_cutTo (N : Nat) (p1 : Int32) (p2 : Int64) : Option (Int64) :=
  if p1 = (8 : Int32) then
    some (((p2.toInt32).toInt8.toInt32).toInt64)
  else
    if p1 = (16 : Int32) then
      some (((p2.toInt32).toInt16.toInt32).toInt64)
    else
      some p2
set_option maxHeartbeats 4000000 in
set_option maxRecDepth 100000 in
theorem c_X4_cutTo (l : Launch) (D : va_G) (y : Nat → ClassId) (t : Nat → Nat) (q : Nat → Nat) (sz N : Nat) (p1 : Int32) (p2 : Int64) (res : Int64) (h : f_X4_cutTo N p1 p2 = some res) : Met l yX4_cutTo wsX4_cutTo ({ frames := 0, cells := 0, slots := 0, locals := 0 } : Room) (pPre D y t [.int p1, .long p2] (([] : va_W)) sz) (pQl D y res (([] : va_W)) (va_A (([] : va_W)) sz)) 0 0 (va_A (([] : va_W)) sz) := by
  refine q_start (Qc := (fun A => pQl D y res (([] : va_W)) A)) (cc := cX4_cutTo) (maxL := 3) (ret := (some .long)) (by decide) rfl (Nat.le_of_ble_eq_true rfl) ?_
  intro p e s m below meth c A ls hx hb hr hts hown hlocks hmn hml hP hK hZ hD hA hS hl
  have hl : lv_has ls 3 [(0, .int p1), (1, .long p2)] := hl
  have hown : s.vm.findClass RX4 = some m.cls := hown
  unfold f_X4_cutTo at h
  refine lv_iload_n hx hb dX4_cutTo_0 rfl (lv_at hl 0 rfl) ?_
  refine lv_bipush (v := 8) hx hb dX4_cutTo_1 (by decide) ?_
  refine lv_icmp_ne (tgt := 13) hx hb dX4_cutTo_3 (by decide) (fun c_1 => ?_) (fun c_1 => ?_)
  · have h := q_f c_1 h
    refine lv_iload_n hx hb dX4_cutTo_13 rfl (lv_at hl 0 rfl) ?_
    refine lv_bipush (v := 16) hx hb dX4_cutTo_14 (by decide) ?_
    refine lv_icmp_ne (tgt := 26) hx hb dX4_cutTo_16 (by decide) (fun c_2 => ?_) (fun c_2 => ?_)
    · have h := q_f c_2 h
      refine lv_lload_n hx hb dX4_cutTo_26 rfl (lv_at hl 1 rfl) ?_
      have e9 := Option.some.inj h
      exact q_lret hx hb hr hlocks hK hP hD hS dX4_cutTo_27 (by first | rw [← e9] | rfl) (by first | rw [← e9] | rfl)
    · have h := q_t c_2 h
      refine lv_lload_n hx hb dX4_cutTo_19 rfl (lv_at hl 1 rfl) ?_
      refine lv_l2i hx hb dX4_cutTo_20 rfl ?_
      refine lv_i2s hx hb dX4_cutTo_21 rfl ?_
      refine lv_i2l hx hb dX4_cutTo_22 rfl ?_
      refine lv_goto (tgt := 27) hx hb dX4_cutTo_23 (by decide) ?_
      have e9 := Option.some.inj h
      exact q_lret hx hb hr hlocks hK hP hD hS dX4_cutTo_27 (by first | rw [← e9] | rfl) (by first | rw [← e9] | rfl)
  · have h := q_t c_1 h
    refine lv_lload_n hx hb dX4_cutTo_6 rfl (lv_at hl 1 rfl) ?_
    refine lv_l2i hx hb dX4_cutTo_7 rfl ?_
    refine lv_i2b hx hb dX4_cutTo_8 rfl ?_
    refine lv_i2l hx hb dX4_cutTo_9 rfl ?_
    refine lv_goto (tgt := 27) hx hb dX4_cutTo_10 (by decide) ?_
    have e9 := Option.some.inj h
    exact q_lret hx hb hr hlocks hK hP hD hS dX4_cutTo_27 (by first | rw [← e9] | rfl) (by first | rw [← e9] | rfl)
theorem eX4_cutTo : yX4_cutTo.cls ≠ "java/lang/invoke/MethodHandle" ∧ yX4_cutTo.cls ≠ "java/lang/invoke/VarHandle" ∧ (parseMethodDescriptor yX4_cutTo.desc).map (fun d => d.parameters.length) = some 2 := by decide +kernel
theorem uX4_write_X4 : ∀ w ∈ u_ws RX4 TX4 15, w ∈ wsX4_write := by decide +kernel
theorem kX4_write_1 : Cond.fieldLink RX4 25 "BeamSeatsModel" "bitsOf" "[I" ∈ wsX4_write := List.mem_of_getElem? (i := 4) (by decide +kernel)
theorem kX4_write_2 : Cond.fieldLink RX4 31 "BeamSeatsModel" "cells" "[J" ∈ wsX4_write := List.mem_of_getElem? (i := 3) (by decide +kernel)
theorem kX4_write_3 : Cond.constant RX4 35 (-1000000001) ∈ wsX4_write := List.mem_of_getElem? (i := 2) (by decide +kernel)
theorem kX4_write_4 : Cond.fieldLink RX4 28 "BeamSeatsModel" "sizeOf" "[I" ∈ wsX4_write := List.mem_of_getElem? (i := 1) (by decide +kernel)
def f_X4_write_B33 (N : Nat) (F : Nat → Nat → Int32) (G : Nat → Int64) (v1 : Int32) (v2 : Int32) (v3 : Int64) (v5 : Int32) : Option (Int64 × (Nat → Nat → Int32) × (Nat → Int64)) :=
  if v5 = 0 then
    q_grd (((40 : Int32) * v1) + v2) 160 (
    q_let (G (((40 : Int32) * v1) + v2).toNatClampNeg) (fun x_6 =>
    q_grd v1 4 (
    q_bd (f_X4_cutTo N (F 6 v1.toNatClampNeg) v3) (fun r_8 =>
    q_grd (((40 : Int32) * v1) + v2) 160 (
    q_let (vp_updL G (((40 : Int32) * v1) + v2).toNatClampNeg r_8) (fun G_11 =>
    some (x_6, F, G_11)))))))
  else
    q_bd2 (f_X4_finds N F G v5) (fun r_12 F_13 =>
    some ((r_12.toInt64), F_13, G))
def f_X4_write (N : Nat) (F : Nat → Nat → Int32) (G : Nat → Int64) (p1 : Int32) (p2 : Int32) (p3 : Int64) : Option (Int64 × (Nat → Nat → Int32) × (Nat → Int64)) :=
  q_bd (f_X4_notThere N F G p1) (fun r_1 =>
  if r_1 = 0 then
    q_grd p1 4 (
    q_bd (f_X4_in N (p2.toInt64) (0 : Int32) ((F 7 p1.toNatClampNeg) - (1 : Int32))) (fun r_16 =>
    if r_16 = 0 then
      f_X4_write_B33 N F G p1 p2 p3 (-1000000001 : Int32)
    else
      f_X4_write_B33 N F G p1 p2 p3 r_1))
  else
    f_X4_write_B33 N F G p1 p2 p3 r_1)
set_option maxHeartbeats 4000000 in
set_option maxRecDepth 100000 in
theorem c_X4_write (l : Launch) (D : va_G) (y : Nat → ClassId) (t : Nat → Nat) (q : Nat → Nat) (sz N : Nat) (F : Nat → Nat → Int32) (G : Nat → Int64) (p1 : Int32) (p2 : Int32) (p3 : Int64) (res : Int64 × (Nat → Nat → Int32) × (Nat → Int64)) (h : f_X4_write N F G p1 p2 p3 = some res) : Met l yX4_write wsX4_write ({ frames := 3, cells := 0, slots := 0, locals := 64 } : Room) (pPre D y t [.ref (q 0), .int p1, .int p2, .long p3] (wM y q F G) sz) (pQl D y (res.1) (wM y q (res.2.1) (res.2.2)) (va_A (wM y q F G) sz)) 0 0 (va_A (wM y q F G) sz) := by
  refine q_start (Qc := (fun A => pQl D y (res.1) (wM y q (res.2.1) (res.2.2)) A)) (cc := cX4_write) (maxL := 8) (ret := (some .long)) (by decide) rfl (Nat.le_of_ble_eq_true rfl) ?_
  intro p e s m below meth c A ls hx hb hr hts hown hlocks hmn hml hP hK hZ hD hA hS hl
  have hl : lv_has ls 8 [(0, .ref (q 0)), (1, .int p1), (2, .int p2), (3, .long p3)] := hl
  have hown : s.vm.findClass RX4 = some m.cls := hown
  have B33 : ∀ (F : Nat → Nat → Int32) (G : Nat → Int64) (v1 : Int32) (v2 : Int32) (v3 : Int64) (v5 : Int32) (H : Heap) (locs : List Loc) (ls : Array Slot), va_P D vwCl (wM y q F G) H → va_D A (wM y q F G) → va_S A s.heap H locs → lv_has ls 8 [(0, .ref (q 0)), (1, .int v1), (2, .int v2), (3, .long v3), (5, .int v5)] → f_X4_write_B33 N F G v1 v2 v3 v5 = some res → W p l e ({ frames := 3, cells := 0, slots := 0, locals := 64 } : Room) s m ([.ref (q 0), .int p1, .int p2, .long p3] : List Value).toArray below meth c H locs 0 0 (MQ below (pQl D y (res.1) (wM y q (res.2.1) (res.2.2)) A) ([.ref (q 0), .int p1, .int p2, .long p3] : List Value).toArray s 0 0 A) (F0 m 33 ls []) := by
    intro F G v1 v2 v3 v5 H locs ls hP hD hS hl h
    unfold f_X4_write_B33 at h
    refine lv_iload hx hb dX4_write_33 (lv_at hl 4 rfl) ?_
    refine lv_if_eq (tgt := 46) hx hb dX4_write_35 (by decide) (fun c_4 => ?_) (fun c_4 => ?_)
    · have h := q_t c_4 h
      refine lv_aload_n hx hb dX4_write_46 rfl (lv_at hl 0 rfl) ?_
      refine va_get (D := D) (ci := 4) (v := .ref (q 8)) (C := RX4) (T := TX4) (N := 15) hx hb hts uX4_write_X4 hown hK hP 0 rfl rfl 14 (by decide) (hts _ kX4_write_2) (fun _ h9 => h9) rfl dX4_write_47 ?_
      refine lv_bipush (v := 40) hx hb dX4_write_50 (by decide) ?_
      refine lv_iload_n hx hb dX4_write_52 rfl (lv_at hl 1 rfl) ?_
      refine lv_imul hx hb dX4_write_53 ?_
      refine lv_iload_n hx hb dX4_write_54 rfl (lv_at hl 2 rfl) ?_
      refine lv_iadd hx hb dX4_write_55 ?_
      obtain ⟨z_5, h⟩ := q_grd_ok h
      refine va_lald hx hb hK hP 8 2 rfl rfl z_5 dX4_write_56 ?_
      refine lv_topl (fun x_6 ex_6 => ?_)
      have h := q_let_at ex_6 h
      refine lv_lstore (lv' := [(6, .long x_6), (0, .ref (q 0)), (1, .int v1), (2, .int v2), (3, .long v3), (5, .int v5)]) hx hb dX4_write_57 hl (by decide) rfl (fun ls hl => ?_)
      refine lv_aload_n hx hb dX4_write_59 rfl (lv_at hl 1 rfl) ?_
      refine va_get (D := D) (ci := 4) (v := .ref (q 8)) (C := RX4) (T := TX4) (N := 15) hx hb hts uX4_write_X4 hown hK hP 0 rfl rfl 14 (by decide) (hts _ kX4_write_2) (fun _ h9 => h9) rfl dX4_write_60 ?_
      refine lv_bipush (v := 40) hx hb dX4_write_63 (by decide) ?_
      refine lv_iload_n hx hb dX4_write_65 rfl (lv_at hl 2 rfl) ?_
      refine lv_imul hx hb dX4_write_66 ?_
      refine lv_iload_n hx hb dX4_write_67 rfl (lv_at hl 3 rfl) ?_
      refine lv_iadd hx hb dX4_write_68 ?_
      refine lv_aload_n hx hb dX4_write_69 rfl (lv_at hl 1 rfl) ?_
      refine va_get (D := D) (ci := 4) (v := .ref (q 6)) (C := RX4) (T := TX4) (N := 15) hx hb hts uX4_write_X4 hown hK hP 0 rfl rfl 12 (by decide) (hts _ kX4_write_1) (fun _ h9 => h9) rfl dX4_write_70 ?_
      refine lv_iload_n hx hb dX4_write_73 rfl (lv_at hl 2 rfl) ?_
      obtain ⟨z_7, h⟩ := q_grd_ok h
      refine va_iald hx hb hK hP 6 0 rfl rfl z_7 dX4_write_74 ?_
      refine lv_lload_n hx hb dX4_write_75 rfl (lv_at hl 4 rfl) ?_
      obtain ⟨r_8, hc_9, h⟩ := q_bd_ok h
      refine q_cl (r := r_8) (va_runS (As := [.int (F 6 v1.toNatClampNeg), .long v3]) (rest := [.int (((40 : Int32) * v1) + v2), .ref (q 8)]) ⟨hx, hb, hml, hown, hts⟩ (c_X4_cutTo l D y t q _ N (F 6 v1.toNatClampNeg) v3 r_8 hc_9) (va_cwS 2 hts gX4_write_X4_cutTo rfl rfl rfl eX4_cutTo ⟨Nat.le_of_ble_eq_true rfl, Nat.le_of_ble_eq_true rfl⟩) ⟨q_blind, (q_pre hP hK hZ hD hA hS [] rfl (by decide))⟩ rfl rfl hl.1 rfl (lv_room (Nat.le_of_ble_eq_true rfl)) dX4_write_76 ⟨Nat.zero_le _, Nat.zero_le _⟩) hP hD hA hS [] rfl (by decide) rfl (fun H locs hP hD hS => ?_)
      have hP : va_P D vwCl (wM y q F G) H := hP
      have hD : va_D A (wM y q F G) := hD
      obtain ⟨z_10, h⟩ := q_grd_ok h
      obtain ⟨G_11, eG_11, h⟩ := q_let_ok h
      refine va_last hx hb hK hP hD hS 8 2 rfl rfl z_10 dX4_write_79 (fun H locs hP hD hS => ?_)
      have hP : va_P D vwCl (wM y q F G_11) H := by rw [eG_11]; exact hP
      have hD : va_D A (wM y q F G_11) := by rw [eG_11]; exact hD
      refine lv_lload hx hb dX4_write_80 (lv_at hl 0 rfl) ?_
      have e9 := Option.some.inj h
      exact q_lret hx hb hr hlocks hK hP hD hS dX4_write_82 (by first | rw [← e9] | rfl) (by first | rw [← e9] | rfl)
    · have h := q_f c_4 h
      refine lv_aload_n hx hb dX4_write_38 rfl (lv_at hl 0 rfl) ?_
      refine lv_iload hx hb dX4_write_39 (lv_at hl 4 rfl) ?_
      obtain ⟨r_12, F_13, hc_14, h⟩ := q_bd2_ok h
      refine q_ci (r := r_12) (va_runV (As := [.int v5]) (rest := []) ⟨hx, hb, hml, hown, hts⟩ (c_X4_finds l D y t q _ N F G v5 (r_12, F_13) hc_14) (cwV 1 hts gX4_write_X4_finds rfl rfl rfl eX4_finds ⟨Nat.le_of_ble_eq_true rfl, Nat.le_of_ble_eq_true rfl⟩) ⟨q_blind, (va_recv hK hP (ci := 4) (q0 := 0) rfl rfl), (q_pre hP hK hZ hD hA hS [0, 1, 2, 3, 4, 5, 6, 7, 8] rfl (by decide))⟩ rfl rfl hl.1 rfl (lv_room (Nat.le_of_ble_eq_true rfl)) dX4_write_41 ⟨Nat.zero_le _, Nat.zero_le _⟩) hP hD hA hS [0, 1, 2, 3, 4, 5, 6, 7, 8] rfl (by decide) rfl (fun H locs hP hD hS => ?_)
      have hP : va_P D vwCl (wM y q F_13 G) H := hP
      have hD : va_D A (wM y q F_13 G) := hD
      refine lv_i2l hx hb dX4_write_44 rfl ?_
      have e9 := Option.some.inj h
      exact q_lret hx hb hr hlocks hK hP hD hS dX4_write_45 (by first | rw [← e9] | rfl) (by first | rw [← e9] | rfl)
  unfold f_X4_write at h
  refine lv_aload_n hx hb dX4_write_0 rfl (lv_at hl 0 rfl) ?_
  refine lv_iload_n hx hb dX4_write_1 rfl (lv_at hl 1 rfl) ?_
  obtain ⟨r_1, hc_2, h⟩ := q_bd_ok h
  refine q_ci (r := r_1) (va_runV (As := [.int p1]) (rest := []) ⟨hx, hb, hml, hown, hts⟩ (c_X4_notThere l D y t q _ N F G p1 r_1 hc_2) (cwV 1 hts gX4_write_X4_notThere rfl rfl rfl eX4_notThere ⟨Nat.le_of_ble_eq_true rfl, Nat.le_of_ble_eq_true rfl⟩) ⟨q_blind, (va_recv hK hP (ci := 4) (q0 := 0) rfl rfl), (q_pre hP hK hZ hD hA hS [0, 1, 2, 3, 4, 5, 6, 7, 8] rfl (by decide))⟩ rfl rfl hl.1 rfl (lv_room (Nat.le_of_ble_eq_true rfl)) dX4_write_2 ⟨Nat.zero_le _, Nat.zero_le _⟩) hP hD hA hS [0, 1, 2, 3, 4, 5, 6, 7, 8] rfl (by decide) rfl (fun H locs hP hD hS => ?_)
  have hP : va_P D vwCl (wM y q F G) H := hP
  have hD : va_D A (wM y q F G) := hD
  refine lv_istore (lv' := [(5, .int r_1), (0, .ref (q 0)), (1, .int p1), (2, .int p2), (3, .long p3)]) hx hb dX4_write_5 hl (by decide) rfl (fun ls hl => ?_)
  refine lv_iload hx hb dX4_write_7 (lv_at hl 0 rfl) ?_
  refine lv_if_ne (tgt := 33) hx hb dX4_write_9 (by decide) (fun c_3 => ?_) (fun c_3 => ?_)
  · have h := q_f c_3 h
    exact B33 F G p1 p2 p3 r_1 _ _ _ hP hD hS (lv_sub hl [1, 2, 3, 4, 0] rfl) h
  · have h := q_t c_3 h
    refine lv_iload_n hx hb dX4_write_12 rfl (lv_at hl 3 rfl) ?_
    refine lv_i2l hx hb dX4_write_13 rfl ?_
    refine lv_iconst (v := 0) hx hb dX4_write_14 (by decide) ?_
    refine lv_aload_n hx hb dX4_write_15 rfl (lv_at hl 1 rfl) ?_
    refine va_get (D := D) (ci := 4) (v := .ref (q 7)) (C := RX4) (T := TX4) (N := 15) hx hb hts uX4_write_X4 hown hK hP 0 rfl rfl 13 (by decide) (hts _ kX4_write_4) (fun _ h9 => h9) rfl dX4_write_16 ?_
    refine lv_iload_n hx hb dX4_write_19 rfl (lv_at hl 2 rfl) ?_
    obtain ⟨z_15, h⟩ := q_grd_ok h
    refine va_iald hx hb hK hP 7 0 rfl rfl z_15 dX4_write_20 ?_
    refine lv_iconst (v := 1) hx hb dX4_write_21 (by decide) ?_
    refine lv_isub hx hb dX4_write_22 ?_
    obtain ⟨r_16, hc_17, h⟩ := q_bd_ok h
    refine q_ci (r := r_16) (va_runS (As := [.long (p2.toInt64), .int (0 : Int32), .int ((F 7 p1.toNatClampNeg) - (1 : Int32))]) (rest := []) ⟨hx, hb, hml, hown, hts⟩ (c_X4_in l D y t q _ N (p2.toInt64) (0 : Int32) ((F 7 p1.toNatClampNeg) - (1 : Int32)) r_16 hc_17) (va_cwS 3 hts gX4_write_X4_in rfl rfl rfl eX4_in ⟨Nat.le_of_ble_eq_true rfl, Nat.le_of_ble_eq_true rfl⟩) ⟨q_blind, (q_pre hP hK hZ hD hA hS [] rfl (by decide))⟩ rfl rfl hl.1 rfl (lv_room (Nat.le_of_ble_eq_true rfl)) dX4_write_23 ⟨Nat.zero_le _, Nat.zero_le _⟩) hP hD hA hS [] rfl (by decide) rfl (fun H locs hP hD hS => ?_)
    have hP : va_P D vwCl (wM y q F G) H := hP
    have hD : va_D A (wM y q F G) := hD
    refine lv_if_ne (tgt := 33) hx hb dX4_write_26 (by decide) (fun c_18 => ?_) (fun c_18 => ?_)
    · have h := q_f c_18 h
      exact B33 F G p1 p2 p3 r_1 _ _ _ hP hD hS (lv_sub hl [1, 2, 3, 4, 0] rfl) h
    · have h := q_t c_18 h
      refine lv_ldc (v := -1000000001) hx hb hown (hts _ kX4_write_3) dX4_write_29 ?_
      refine lv_istore (lv' := [(5, .int (-1000000001 : Int32)), (0, .ref (q 0)), (1, .int p1), (2, .int p2), (3, .long p3)]) hx hb dX4_write_31 hl (by decide) rfl (fun ls hl => ?_)
      exact B33 F G p1 p2 p3 (-1000000001 : Int32) _ _ _ hP hD hS (lv_sub hl [1, 2, 3, 4, 0] rfl) h
theorem eX4_write : yX4_write.cls = RX4 ∧ yX4_write.cls ≠ "java/lang/invoke/MethodHandle" ∧ yX4_write.cls ≠ "java/lang/invoke/VarHandle" ∧ (parseMethodDescriptor yX4_write.desc).map (fun d => d.parameters.length) = some 3 := by decide +kernel
theorem kX4_notCopied_0 : Cond.constant RX4 35 (-1000000001) ∈ wsX4_notCopied := List.mem_of_getElem? (i := 1) (by decide +kernel)
theorem kX4_notCopied_1 : Cond.constant RX4 214 (-1000000006) ∈ wsX4_notCopied := List.mem_of_getElem? (i := 3) (by decide +kernel)
theorem uX4_notCopied_X4 : ∀ w ∈ u_ws RX4 TX4 15, w ∈ wsX4_notCopied := by decide +kernel
theorem kX4_notCopied_3 : Cond.fieldLink RX4 28 "BeamSeatsModel" "sizeOf" "[I" ∈ wsX4_notCopied := List.mem_of_getElem? (i := 5) (by decide +kernel)
theorem kX4_notCopied_4 : Cond.constant RX4 104 (-1000000003) ∈ wsX4_notCopied := List.mem_of_getElem? (i := 4) (by decide +kernel)
theorem kX4_notCopied_5 : Cond.fieldLink RX4 25 "BeamSeatsModel" "bitsOf" "[I" ∈ wsX4_notCopied := List.mem_of_getElem? (i := 2) (by decide +kernel)
def f_X4_notCopied_B102 (N : Nat) (F : Nat → Nat → Int32) (G : Nat → Int64) (s0 : Int32) : Option (Int32) :=
  if s0 = 0 then
    some (-1000000001 : Int32)
  else
    some (0 : Int32)
def f_X4_notCopied_B101 (N : Nat) (F : Nat → Nat → Int32) (G : Nat → Int64) : Option (Int32) :=
  f_X4_notCopied_B102 N F G (0 : Int32)
def f_X4_notCopied (N : Nat) (F : Nat → Nat → Int32) (G : Nat → Int64) (p1 : Int32) (p2 : Int32) (p3 : Int32) (p4 : Int32) (p5 : Int32) : Option (Int32) :=
  q_bd (f_X4_isSheet N p1) (fun r_1 =>
  if r_1 = 0 then
    some (-1000000001 : Int32)
  else
    q_bd (f_X4_isSheet N p3) (fun r_4 =>
    if r_4 = 0 then
      some (-1000000001 : Int32)
    else
      q_grd p1 4 (
      if (F 6 p1.toNatClampNeg) = 0 then
        some (-1000000006 : Int32)
      else
        q_grd p3 4 (
        if (F 6 p3.toNatClampNeg) = 0 then
          some (-1000000006 : Int32)
        else
          q_grd p1 4 (
          q_grd p3 4 (
          if (F 6 p1.toNatClampNeg) = (F 6 p3.toNatClampNeg) then
            if p5 < 0 then
              f_X4_notCopied_B101 N F G
            else
              if p2 < 0 then
                f_X4_notCopied_B101 N F G
              else
                if p4 < 0 then
                  f_X4_notCopied_B101 N F G
                else
                  q_grd p1 4 (
                  if ((F 7 p1.toNatClampNeg) - p2) < p5 then
                    f_X4_notCopied_B101 N F G
                  else
                    q_grd p3 4 (
                    if ((F 7 p3.toNatClampNeg) - p4) < p5 then
                      f_X4_notCopied_B101 N F G
                    else
                      f_X4_notCopied_B102 N F G (1 : Int32)))
          else
            some (-1000000003 : Int32)))))))
set_option maxHeartbeats 4000000 in
set_option maxRecDepth 100000 in
theorem c_X4_notCopied (l : Launch) (D : va_G) (y : Nat → ClassId) (t : Nat → Nat) (q : Nat → Nat) (sz N : Nat) (F : Nat → Nat → Int32) (G : Nat → Int64) (p1 : Int32) (p2 : Int32) (p3 : Int32) (p4 : Int32) (p5 : Int32) (res : Int32) (h : f_X4_notCopied N F G p1 p2 p3 p4 p5 = some res) : Met l yX4_notCopied wsX4_notCopied ({ frames := 2, cells := 0, slots := 0, locals := 43 } : Room) (pPre D y t [.ref (q 0), .int p1, .int p2, .int p3, .int p4, .int p5] (wM y q F G) sz) (pQi D y res (wM y q F G) (va_A (wM y q F G) sz)) 0 0 (va_A (wM y q F G) sz) := by
  refine q_start (Qc := (fun A => pQi D y res (wM y q F G) A)) (cc := cX4_notCopied) (maxL := 7) (ret := (some .int)) (by decide) rfl (Nat.le_of_ble_eq_true rfl) ?_
  intro p e s m below meth c A ls hx hb hr hts hown hlocks hmn hml hP hK hZ hD hA hS hl
  have hl : lv_has ls 7 [(0, .ref (q 0)), (1, .int p1), (2, .int p2), (3, .int p3), (4, .int p4), (5, .int p5)] := hl
  have hown : s.vm.findClass RX4 = some m.cls := hown
  have B102 : ∀ (F : Nat → Nat → Int32) (G : Nat → Int64) (s0 : Int32) (H : Heap) (locs : List Loc) (ls : Array Slot), va_P D vwCl (wM y q F G) H → va_D A (wM y q F G) → va_S A s.heap H locs → lv_has ls 7 [] → f_X4_notCopied_B102 N F G s0 = some res → W p l e ({ frames := 2, cells := 0, slots := 0, locals := 43 } : Room) s m ([.ref (q 0), .int p1, .int p2, .int p3, .int p4, .int p5] : List Value).toArray below meth c H locs 0 0 (MQ below (pQi D y res (wM y q F G) A) ([.ref (q 0), .int p1, .int p2, .int p3, .int p4, .int p5] : List Value).toArray s 0 0 A) (F0 m 102 ls [.int s0]) := by
    intro F G s0 H locs ls hP hD hS hl h
    unfold f_X4_notCopied_B102 at h
    refine lv_istore (lv' := [(6, .int s0)]) hx hb dX4_notCopied_102 hl (by decide) rfl (fun ls hl => ?_)
    refine lv_iload hx hb dX4_notCopied_104 (lv_at hl 0 rfl) ?_
    refine lv_if_eq (tgt := 113) hx hb dX4_notCopied_106 (by decide) (fun c_15 => ?_) (fun c_15 => ?_)
    · have h := q_t c_15 h
      refine lv_ldc (v := -1000000001) hx hb hown (hts _ kX4_notCopied_0) dX4_notCopied_113 ?_
      have e9 := Option.some.inj h
      exact q_iret hx hb hr hlocks hK hP hD hS dX4_notCopied_115 (by first | rw [← e9] | rfl) (by first | rw [← e9] | rfl)
    · have h := q_f c_15 h
      refine lv_iconst (v := 0) hx hb dX4_notCopied_109 (by decide) ?_
      refine lv_goto (tgt := 115) hx hb dX4_notCopied_110 (by decide) ?_
      have e9 := Option.some.inj h
      exact q_iret hx hb hr hlocks hK hP hD hS dX4_notCopied_115 (by first | rw [← e9] | rfl) (by first | rw [← e9] | rfl)
  have B101 : ∀ (F : Nat → Nat → Int32) (G : Nat → Int64) (H : Heap) (locs : List Loc) (ls : Array Slot), va_P D vwCl (wM y q F G) H → va_D A (wM y q F G) → va_S A s.heap H locs → lv_has ls 7 [] → f_X4_notCopied_B101 N F G = some res → W p l e ({ frames := 2, cells := 0, slots := 0, locals := 43 } : Room) s m ([.ref (q 0), .int p1, .int p2, .int p3, .int p4, .int p5] : List Value).toArray below meth c H locs 0 0 (MQ below (pQi D y res (wM y q F G) A) ([.ref (q 0), .int p1, .int p2, .int p3, .int p4, .int p5] : List Value).toArray s 0 0 A) (F0 m 101 ls []) := by
    intro F G H locs ls hP hD hS hl h
    unfold f_X4_notCopied_B101 at h
    refine lv_iconst (v := 0) hx hb dX4_notCopied_101 (by decide) ?_
    exact B102 F G (0 : Int32) _ _ _ hP hD hS (lv_sub hl [] rfl) h
  unfold f_X4_notCopied at h
  refine lv_iload_n hx hb dX4_notCopied_0 rfl (lv_at hl 1 rfl) ?_
  obtain ⟨r_1, hc_2, h⟩ := q_bd_ok h
  refine q_ci (r := r_1) (va_runS (As := [.int p1]) (rest := []) ⟨hx, hb, hml, hown, hts⟩ (c_X4_isSheet l D y t q _ N p1 r_1 hc_2) (va_cwS 1 hts gX4_notCopied_X4_isSheet rfl rfl rfl eX4_isSheet ⟨Nat.le_of_ble_eq_true rfl, Nat.le_of_ble_eq_true rfl⟩) ⟨q_blind, (q_pre hP hK hZ hD hA hS [] rfl (by decide))⟩ rfl rfl hl.1 rfl (lv_room (Nat.le_of_ble_eq_true rfl)) dX4_notCopied_1 ⟨Nat.zero_le _, Nat.zero_le _⟩) hP hD hA hS [] rfl (by decide) rfl (fun H locs hP hD hS => ?_)
  have hP : va_P D vwCl (wM y q F G) H := hP
  have hD : va_D A (wM y q F G) := hD
  refine lv_if_eq (tgt := 14) hx hb dX4_notCopied_4 (by decide) (fun c_3 => ?_) (fun c_3 => ?_)
  · have h := q_t c_3 h
    refine lv_ldc (v := -1000000001) hx hb hown (hts _ kX4_notCopied_0) dX4_notCopied_14 ?_
    have e9 := Option.some.inj h
    exact q_iret hx hb hr hlocks hK hP hD hS dX4_notCopied_16 (by first | rw [← e9] | rfl) (by first | rw [← e9] | rfl)
  · have h := q_f c_3 h
    refine lv_iload_n hx hb dX4_notCopied_7 rfl (lv_at hl 3 rfl) ?_
    obtain ⟨r_4, hc_5, h⟩ := q_bd_ok h
    refine q_ci (r := r_4) (va_runS (As := [.int p3]) (rest := []) ⟨hx, hb, hml, hown, hts⟩ (c_X4_isSheet l D y t q _ N p3 r_4 hc_5) (va_cwS 1 hts gX4_notCopied_X4_isSheet rfl rfl rfl eX4_isSheet ⟨Nat.le_of_ble_eq_true rfl, Nat.le_of_ble_eq_true rfl⟩) ⟨q_blind, (q_pre hP hK hZ hD hA hS [] rfl (by decide))⟩ rfl rfl hl.1 rfl (lv_room (Nat.le_of_ble_eq_true rfl)) dX4_notCopied_8 ⟨Nat.zero_le _, Nat.zero_le _⟩) hP hD hA hS [] rfl (by decide) rfl (fun H locs hP hD hS => ?_)
    have hP : va_P D vwCl (wM y q F G) H := hP
    have hD : va_D A (wM y q F G) := hD
    refine lv_if_ne (tgt := 17) hx hb dX4_notCopied_11 (by decide) (fun c_6 => ?_) (fun c_6 => ?_)
    · have h := q_f c_6 h
      refine lv_aload_n hx hb dX4_notCopied_17 rfl (lv_at hl 0 rfl) ?_
      refine va_get (D := D) (ci := 4) (v := .ref (q 6)) (C := RX4) (T := TX4) (N := 15) hx hb hts uX4_notCopied_X4 hown hK hP 0 rfl rfl 12 (by decide) (hts _ kX4_notCopied_5) (fun _ h9 => h9) rfl dX4_notCopied_18 ?_
      refine lv_iload_n hx hb dX4_notCopied_21 rfl (lv_at hl 1 rfl) ?_
      obtain ⟨z_7, h⟩ := q_grd_ok h
      refine va_iald hx hb hK hP 6 0 rfl rfl z_7 dX4_notCopied_22 ?_
      refine lv_if_eq (tgt := 35) hx hb dX4_notCopied_23 (by decide) (fun c_8 => ?_) (fun c_8 => ?_)
      · have h := q_t c_8 h
        refine lv_ldc (v := -1000000006) hx hb hown (hts _ kX4_notCopied_1) dX4_notCopied_35 ?_
        have e9 := Option.some.inj h
        exact q_iret hx hb hr hlocks hK hP hD hS dX4_notCopied_37 (by first | rw [← e9] | rfl) (by first | rw [← e9] | rfl)
      · have h := q_f c_8 h
        refine lv_aload_n hx hb dX4_notCopied_26 rfl (lv_at hl 0 rfl) ?_
        refine va_get (D := D) (ci := 4) (v := .ref (q 6)) (C := RX4) (T := TX4) (N := 15) hx hb hts uX4_notCopied_X4 hown hK hP 0 rfl rfl 12 (by decide) (hts _ kX4_notCopied_5) (fun _ h9 => h9) rfl dX4_notCopied_27 ?_
        refine lv_iload_n hx hb dX4_notCopied_30 rfl (lv_at hl 3 rfl) ?_
        obtain ⟨z_9, h⟩ := q_grd_ok h
        refine va_iald hx hb hK hP 6 0 rfl rfl z_9 dX4_notCopied_31 ?_
        refine lv_if_ne (tgt := 38) hx hb dX4_notCopied_32 (by decide) (fun c_10 => ?_) (fun c_10 => ?_)
        · have h := q_f c_10 h
          refine lv_aload_n hx hb dX4_notCopied_38 rfl (lv_at hl 0 rfl) ?_
          refine va_get (D := D) (ci := 4) (v := .ref (q 6)) (C := RX4) (T := TX4) (N := 15) hx hb hts uX4_notCopied_X4 hown hK hP 0 rfl rfl 12 (by decide) (hts _ kX4_notCopied_5) (fun _ h9 => h9) rfl dX4_notCopied_39 ?_
          refine lv_iload_n hx hb dX4_notCopied_42 rfl (lv_at hl 1 rfl) ?_
          obtain ⟨z_11, h⟩ := q_grd_ok h
          refine va_iald hx hb hK hP 6 0 rfl rfl z_11 dX4_notCopied_43 ?_
          refine lv_aload_n hx hb dX4_notCopied_44 rfl (lv_at hl 0 rfl) ?_
          refine va_get (D := D) (ci := 4) (v := .ref (q 6)) (C := RX4) (T := TX4) (N := 15) hx hb hts uX4_notCopied_X4 hown hK hP 0 rfl rfl 12 (by decide) (hts _ kX4_notCopied_5) (fun _ h9 => h9) rfl dX4_notCopied_45 ?_
          refine lv_iload_n hx hb dX4_notCopied_48 rfl (lv_at hl 3 rfl) ?_
          obtain ⟨z_12, h⟩ := q_grd_ok h
          refine va_iald hx hb hK hP 6 0 rfl rfl z_12 dX4_notCopied_49 ?_
          refine lv_icmp_eq (tgt := 56) hx hb dX4_notCopied_50 (by decide) (fun c_13 => ?_) (fun c_13 => ?_)
          · have h := q_t c_13 h
            refine lv_iload hx hb dX4_notCopied_56 (lv_at hl 5 rfl) ?_
            refine lv_if_lt (tgt := 101) hx hb dX4_notCopied_58 (by decide) (fun c_14 => ?_) (fun c_14 => ?_)
            · have h := q_t c_14 h
              exact B101 F G _ _ _ hP hD hS (lv_sub hl [] rfl) h
            · have h := q_f c_14 h
              refine lv_iload_n hx hb dX4_notCopied_61 rfl (lv_at hl 2 rfl) ?_
              refine lv_if_lt (tgt := 101) hx hb dX4_notCopied_62 (by decide) (fun c_16 => ?_) (fun c_16 => ?_)
              · have h := q_t c_16 h
                exact B101 F G _ _ _ hP hD hS (lv_sub hl [] rfl) h
              · have h := q_f c_16 h
                refine lv_iload hx hb dX4_notCopied_65 (lv_at hl 4 rfl) ?_
                refine lv_if_lt (tgt := 101) hx hb dX4_notCopied_67 (by decide) (fun c_17 => ?_) (fun c_17 => ?_)
                · have h := q_t c_17 h
                  exact B101 F G _ _ _ hP hD hS (lv_sub hl [] rfl) h
                · have h := q_f c_17 h
                  refine lv_iload hx hb dX4_notCopied_70 (lv_at hl 5 rfl) ?_
                  refine lv_aload_n hx hb dX4_notCopied_72 rfl (lv_at hl 0 rfl) ?_
                  refine va_get (D := D) (ci := 4) (v := .ref (q 7)) (C := RX4) (T := TX4) (N := 15) hx hb hts uX4_notCopied_X4 hown hK hP 0 rfl rfl 13 (by decide) (hts _ kX4_notCopied_3) (fun _ h9 => h9) rfl dX4_notCopied_73 ?_
                  refine lv_iload_n hx hb dX4_notCopied_76 rfl (lv_at hl 1 rfl) ?_
                  obtain ⟨z_18, h⟩ := q_grd_ok h
                  refine va_iald hx hb hK hP 7 0 rfl rfl z_18 dX4_notCopied_77 ?_
                  refine lv_iload_n hx hb dX4_notCopied_78 rfl (lv_at hl 2 rfl) ?_
                  refine lv_isub hx hb dX4_notCopied_79 ?_
                  refine lv_icmp_gt (tgt := 101) hx hb dX4_notCopied_80 (by decide) (fun c_19 => ?_) (fun c_19 => ?_)
                  · have h := q_t c_19 h
                    exact B101 F G _ _ _ hP hD hS (lv_sub hl [] rfl) h
                  · have h := q_f c_19 h
                    refine lv_iload hx hb dX4_notCopied_83 (lv_at hl 5 rfl) ?_
                    refine lv_aload_n hx hb dX4_notCopied_85 rfl (lv_at hl 0 rfl) ?_
                    refine va_get (D := D) (ci := 4) (v := .ref (q 7)) (C := RX4) (T := TX4) (N := 15) hx hb hts uX4_notCopied_X4 hown hK hP 0 rfl rfl 13 (by decide) (hts _ kX4_notCopied_3) (fun _ h9 => h9) rfl dX4_notCopied_86 ?_
                    refine lv_iload_n hx hb dX4_notCopied_89 rfl (lv_at hl 3 rfl) ?_
                    obtain ⟨z_20, h⟩ := q_grd_ok h
                    refine va_iald hx hb hK hP 7 0 rfl rfl z_20 dX4_notCopied_90 ?_
                    refine lv_iload hx hb dX4_notCopied_91 (lv_at hl 4 rfl) ?_
                    refine lv_isub hx hb dX4_notCopied_93 ?_
                    refine lv_icmp_gt (tgt := 101) hx hb dX4_notCopied_94 (by decide) (fun c_21 => ?_) (fun c_21 => ?_)
                    · have h := q_t c_21 h
                      exact B101 F G _ _ _ hP hD hS (lv_sub hl [] rfl) h
                    · have h := q_f c_21 h
                      refine lv_iconst (v := 1) hx hb dX4_notCopied_97 (by decide) ?_
                      refine lv_goto (tgt := 102) hx hb dX4_notCopied_98 (by decide) ?_
                      exact B102 F G (1 : Int32) _ _ _ hP hD hS (lv_sub hl [] rfl) h
          · have h := q_f c_13 h
            refine lv_ldc (v := -1000000003) hx hb hown (hts _ kX4_notCopied_4) dX4_notCopied_53 ?_
            have e9 := Option.some.inj h
            exact q_iret hx hb hr hlocks hK hP hD hS dX4_notCopied_55 (by first | rw [← e9] | rfl) (by first | rw [← e9] | rfl)
        · have h := q_t c_10 h
          refine lv_ldc (v := -1000000006) hx hb hown (hts _ kX4_notCopied_1) dX4_notCopied_35 ?_
          have e9 := Option.some.inj h
          exact q_iret hx hb hr hlocks hK hP hD hS dX4_notCopied_37 (by first | rw [← e9] | rfl) (by first | rw [← e9] | rfl)
    · have h := q_t c_6 h
      refine lv_ldc (v := -1000000001) hx hb hown (hts _ kX4_notCopied_0) dX4_notCopied_14 ?_
      have e9 := Option.some.inj h
      exact q_iret hx hb hr hlocks hK hP hD hS dX4_notCopied_16 (by first | rw [← e9] | rfl) (by first | rw [← e9] | rfl)
theorem eX4_notCopied : yX4_notCopied.cls = RX4 ∧ yX4_notCopied.cls ≠ "java/lang/invoke/MethodHandle" ∧ yX4_notCopied.cls ≠ "java/lang/invoke/VarHandle" ∧ (parseMethodDescriptor yX4_notCopied.desc).map (fun d => d.parameters.length) = some 5 := by decide +kernel
theorem uX4_copy_X4 : ∀ w ∈ u_ws RX4 TX4 15, w ∈ wsX4_copy := by decide +kernel
theorem kX4_copy_1 : Cond.fieldLink RX4 31 "BeamSeatsModel" "cells" "[J" ∈ wsX4_copy := List.mem_of_getElem? (i := 1) (by decide +kernel)
def f_X4_copy_L28 (N : Nat) (F : Nat → Nat → Int32) (v1 : Int32) (v2 : Int32) (v3 : Int32) (v4 : Int32) (v5 : Int32) : Nat → Int32 → (Nat → Int64) → Option (Int32 × (Nat → Int64))
  | 0, _, _ => none
  | k + 1, v7, G =>
    if v5 ≤ v7 then
      some (v7, G)
    else
      if v4 ≤ v2 then
        q_grd ((((40 : Int32) * v1) + v2) + v7) 160 (
        q_grd ((((40 : Int32) * v3) + v4) + v7) 160 (
        q_let (vp_updL G ((((40 : Int32) * v3) + v4) + v7).toNatClampNeg (G ((((40 : Int32) * v1) + v2) + v7).toNatClampNeg)) (fun G_11 =>
        q_let (v7 + 1) (fun x_12 =>
        f_X4_copy_L28 N F v1 v2 v3 v4 v5 k x_12 G_11))))
      else
        q_let ((v5 - (1 : Int32)) - v7) (fun x_13 =>
        q_grd ((((40 : Int32) * v1) + v2) + x_13) 160 (
        q_grd ((((40 : Int32) * v3) + v4) + x_13) 160 (
        q_let (vp_updL G ((((40 : Int32) * v3) + v4) + x_13).toNatClampNeg (G ((((40 : Int32) * v1) + v2) + x_13).toNatClampNeg)) (fun G_16 =>
        q_let (v7 + 1) (fun x_17 =>
        f_X4_copy_L28 N F v1 v2 v3 v4 v5 k x_17 G_16)))))
def f_X4_copy (N : Nat) (F : Nat → Nat → Int32) (G : Nat → Int64) (p1 : Int32) (p2 : Int32) (p3 : Int32) (p4 : Int32) (p5 : Int32) : Option (Int32 × (Nat → Nat → Int32) × (Nat → Int64)) :=
  q_bd (f_X4_notCopied N F G p1 p2 p3 p4 p5) (fun r_1 =>
  if r_1 = 0 then
    q_bd2 (f_X4_copy_L28 N F p1 p2 p3 p4 p5 N (0 : Int32) G) (fun x_5 G_6 =>
    some (p5, F, G_6))
  else
    q_bd2 (f_X4_finds N F G r_1) (fun r_18 F_19 =>
    some (r_18, F_19, G)))
set_option maxHeartbeats 4000000 in
set_option maxRecDepth 100000 in
theorem c_X4_copy (l : Launch) (D : va_G) (y : Nat → ClassId) (t : Nat → Nat) (q : Nat → Nat) (sz N : Nat) (F : Nat → Nat → Int32) (G : Nat → Int64) (p1 : Int32) (p2 : Int32) (p3 : Int32) (p4 : Int32) (p5 : Int32) (res : Int32 × (Nat → Nat → Int32) × (Nat → Int64)) (h : f_X4_copy N F G p1 p2 p3 p4 p5 = some res) : Met l yX4_copy wsX4_copy ({ frames := 3, cells := 0, slots := 0, locals := 69 } : Room) (pPre D y t [.ref (q 0), .int p1, .int p2, .int p3, .int p4, .int p5] (wM y q F G) sz) (pQi D y (res.1) (wM y q (res.2.1) (res.2.2)) (va_A (wM y q F G) sz)) 0 0 (va_A (wM y q F G) sz) := by
  refine q_start (Qc := (fun A => pQi D y (res.1) (wM y q (res.2.1) (res.2.2)) A)) (cc := cX4_copy) (maxL := 9) (ret := (some .int)) (by decide) rfl (Nat.le_of_ble_eq_true rfl) ?_
  intro p e s m below meth c A ls hx hb hr hts hown hlocks hmn hml hP hK hZ hD hA hS hl
  have hl : lv_has ls 9 [(0, .ref (q 0)), (1, .int p1), (2, .int p2), (3, .int p3), (4, .int p4), (5, .int p5)] := hl
  have hown : s.vm.findClass RX4 = some m.cls := hown
  unfold f_X4_copy at h
  refine lv_aload_n hx hb dX4_copy_0 rfl (lv_at hl 0 rfl) ?_
  refine lv_iload_n hx hb dX4_copy_1 rfl (lv_at hl 1 rfl) ?_
  refine lv_iload_n hx hb dX4_copy_2 rfl (lv_at hl 2 rfl) ?_
  refine lv_iload_n hx hb dX4_copy_3 rfl (lv_at hl 3 rfl) ?_
  refine lv_iload hx hb dX4_copy_4 (lv_at hl 4 rfl) ?_
  refine lv_iload hx hb dX4_copy_6 (lv_at hl 5 rfl) ?_
  obtain ⟨r_1, hc_2, h⟩ := q_bd_ok h
  refine q_ci (r := r_1) (va_runV (As := [.int p1, .int p2, .int p3, .int p4, .int p5]) (rest := []) ⟨hx, hb, hml, hown, hts⟩ (c_X4_notCopied l D y t q _ N F G p1 p2 p3 p4 p5 r_1 hc_2) (cwV 5 hts gX4_copy_X4_notCopied rfl rfl rfl eX4_notCopied ⟨Nat.le_of_ble_eq_true rfl, Nat.le_of_ble_eq_true rfl⟩) ⟨q_blind, (va_recv hK hP (ci := 4) (q0 := 0) rfl rfl), (q_pre hP hK hZ hD hA hS [0, 1, 2, 3, 4, 5, 6, 7, 8] rfl (by decide))⟩ rfl rfl hl.1 rfl (lv_room (Nat.le_of_ble_eq_true rfl)) dX4_copy_8 ⟨Nat.zero_le _, Nat.zero_le _⟩) hP hD hA hS [0, 1, 2, 3, 4, 5, 6, 7, 8] rfl (by decide) rfl (fun H locs hP hD hS => ?_)
  have hP : va_P D vwCl (wM y q F G) H := hP
  have hD : va_D A (wM y q F G) := hD
  refine lv_istore (lv' := [(6, .int r_1), (0, .ref (q 0)), (1, .int p1), (2, .int p2), (3, .int p3), (4, .int p4), (5, .int p5)]) hx hb dX4_copy_11 hl (by decide) rfl (fun ls hl => ?_)
  refine lv_iload hx hb dX4_copy_13 (lv_at hl 0 rfl) ?_
  refine lv_if_eq (tgt := 25) hx hb dX4_copy_15 (by decide) (fun c_3 => ?_) (fun c_3 => ?_)
  · have h := q_t c_3 h
    refine lv_iconst (v := 0) hx hb dX4_copy_25 (by decide) ?_
    refine lv_istore (lv' := [(7, .int (0 : Int32)), (6, .int r_1), (0, .ref (q 0)), (1, .int p1), (2, .int p2), (3, .int p3), (4, .int p4), (5, .int p5)]) hx hb dX4_copy_26 hl (by decide) rfl (fun ls hl => ?_)
    obtain ⟨x_5, G_6, hL4, h⟩ := q_bd2_ok h
    have K28_4 : ∀ (H : Heap) (locs : List Loc) (ls : Array Slot), va_P D vwCl (wM y q F G_6) H → va_D A (wM y q F G_6) → va_S A s.heap H locs → lv_has ls 9 [(0, .ref (q 0)), (1, .int p1), (2, .int p2), (3, .int p3), (4, .int p4), (5, .int p5), (7, .int x_5)] → W p l e ({ frames := 3, cells := 0, slots := 0, locals := 69 } : Room) s m ([.ref (q 0), .int p1, .int p2, .int p3, .int p4, .int p5] : List Value).toArray below meth c H locs 0 0 (MQ below (pQi D y (res.1) (wM y q (res.2.1) (res.2.2)) A) ([.ref (q 0), .int p1, .int p2, .int p3, .int p4, .int p5] : List Value).toArray s 0 0 A) (F0 m 90 ls []) := by
      intro H locs ls hP hD hS hl
      refine lv_iload hx hb dX4_copy_90 (lv_at hl 5 rfl) ?_
      have e9 := Option.some.inj h
      exact q_iret hx hb hr hlocks hK hP hD hS dX4_copy_92 (by first | rw [← e9] | rfl) (by first | rw [← e9] | rfl)
    have L28_4 : ∀ (F : Nat → Nat → Int32) (v1 : Int32) (v2 : Int32) (v3 : Int32) (v4 : Int32) (v5 : Int32) (k : Nat) (v7 : Int32) (G : Nat → Int64), (∀ (H : Heap) (locs : List Loc) (ls : Array Slot), va_P D vwCl (wM y q F G_6) H → va_D A (wM y q F G_6) → va_S A s.heap H locs → lv_has ls 9 [(0, .ref (q 0)), (1, .int v1), (2, .int v2), (3, .int v3), (4, .int v4), (5, .int v5), (7, .int x_5)] → W p l e ({ frames := 3, cells := 0, slots := 0, locals := 69 } : Room) s m ([.ref (q 0), .int p1, .int p2, .int p3, .int p4, .int p5] : List Value).toArray below meth c H locs 0 0 (MQ below (pQi D y (res.1) (wM y q (res.2.1) (res.2.2)) A) ([.ref (q 0), .int p1, .int p2, .int p3, .int p4, .int p5] : List Value).toArray s 0 0 A) (F0 m 90 ls [])) → ∀ (H : Heap) (locs : List Loc) (ls : Array Slot), va_P D vwCl (wM y q F G) H → va_D A (wM y q F G) → va_S A s.heap H locs → lv_has ls 9 [(0, .ref (q 0)), (1, .int v1), (2, .int v2), (3, .int v3), (4, .int v4), (5, .int v5), (7, .int v7)] → f_X4_copy_L28 N F v1 v2 v3 v4 v5 k v7 G = some (x_5, G_6) → W p l e ({ frames := 3, cells := 0, slots := 0, locals := 69 } : Room) s m ([.ref (q 0), .int p1, .int p2, .int p3, .int p4, .int p5] : List Value).toArray below meth c H locs 0 0 (MQ below (pQi D y (res.1) (wM y q (res.2.1) (res.2.2)) A) ([.ref (q 0), .int p1, .int p2, .int p3, .int p4, .int p5] : List Value).toArray s 0 0 A) (F0 m 28 ls []) := by
      intro F v1 v2 v3 v4 v5 k
      induction k with
      | zero =>
        intro v7 G K28_4 H locs ls hP hD hS hl h
        have h : (none : Option (Int32 × (Nat → Int64))) = some _ := h
        cases h
      | succ k ih28_4 =>
        intro v7 G K28_4 H locs ls hP hD hS hl h
        rw [f_X4_copy_L28] at h
        refine lv_iload hx hb dX4_copy_28 (lv_at hl 6 rfl) ?_
        refine lv_iload hx hb dX4_copy_30 (lv_at hl 5 rfl) ?_
        refine lv_icmp_ge (tgt := 90) hx hb dX4_copy_32 (by decide) (fun c_7 => ?_) (fun c_7 => ?_)
        · have h := q_t c_7 h
          cases h
          exact K28_4 _ _ _ hP hD hS (lv_sub hl [0, 1, 2, 3, 4, 5, 6] rfl)
        · have h := q_f c_7 h
          refine lv_iload_n hx hb dX4_copy_35 rfl (lv_at hl 2 rfl) ?_
          refine lv_iload hx hb dX4_copy_36 (lv_at hl 4 rfl) ?_
          refine lv_icmp_ge (tgt := 51) hx hb dX4_copy_38 (by decide) (fun c_8 => ?_) (fun c_8 => ?_)
          · have h := q_t c_8 h
            refine lv_iload hx hb dX4_copy_51 (lv_at hl 6 rfl) ?_
            refine lv_istore (lv' := [(8, .int v7), (0, .ref (q 0)), (1, .int v1), (2, .int v2), (3, .int v3), (4, .int v4), (5, .int v5), (7, .int v7)]) hx hb dX4_copy_53 hl (by decide) rfl (fun ls hl => ?_)
            refine lv_aload_n hx hb dX4_copy_55 rfl (lv_at hl 1 rfl) ?_
            refine va_get (D := D) (ci := 4) (v := .ref (q 8)) (C := RX4) (T := TX4) (N := 15) hx hb hts uX4_copy_X4 hown hK hP 0 rfl rfl 14 (by decide) (hts _ kX4_copy_1) (fun _ h9 => h9) rfl dX4_copy_56 ?_
            refine lv_bipush (v := 40) hx hb dX4_copy_59 (by decide) ?_
            refine lv_iload_n hx hb dX4_copy_61 rfl (lv_at hl 4 rfl) ?_
            refine lv_imul hx hb dX4_copy_62 ?_
            refine lv_iload hx hb dX4_copy_63 (lv_at hl 5 rfl) ?_
            refine lv_iadd hx hb dX4_copy_65 ?_
            refine lv_iload hx hb dX4_copy_66 (lv_at hl 0 rfl) ?_
            refine lv_iadd hx hb dX4_copy_68 ?_
            refine lv_aload_n hx hb dX4_copy_69 rfl (lv_at hl 1 rfl) ?_
            refine va_get (D := D) (ci := 4) (v := .ref (q 8)) (C := RX4) (T := TX4) (N := 15) hx hb hts uX4_copy_X4 hown hK hP 0 rfl rfl 14 (by decide) (hts _ kX4_copy_1) (fun _ h9 => h9) rfl dX4_copy_70 ?_
            refine lv_bipush (v := 40) hx hb dX4_copy_73 (by decide) ?_
            refine lv_iload_n hx hb dX4_copy_75 rfl (lv_at hl 2 rfl) ?_
            refine lv_imul hx hb dX4_copy_76 ?_
            refine lv_iload_n hx hb dX4_copy_77 rfl (lv_at hl 3 rfl) ?_
            refine lv_iadd hx hb dX4_copy_78 ?_
            refine lv_iload hx hb dX4_copy_79 (lv_at hl 0 rfl) ?_
            refine lv_iadd hx hb dX4_copy_81 ?_
            obtain ⟨z_9, h⟩ := q_grd_ok h
            refine va_lald hx hb hK hP 8 2 rfl rfl z_9 dX4_copy_82 ?_
            obtain ⟨z_10, h⟩ := q_grd_ok h
            obtain ⟨G_11, eG_11, h⟩ := q_let_ok h
            refine va_last hx hb hK hP hD hS 8 2 rfl rfl z_10 dX4_copy_83 (fun H locs hP hD hS => ?_)
            have hP : va_P D vwCl (wM y q F G_11) H := by rw [eG_11]; exact hP
            have hD : va_D A (wM y q F G_11) := by rw [eG_11]; exact hD
            obtain ⟨x_12, ex_12, h⟩ := q_let_ok h
            refine lv_iinc (v := x_12) (lv' := [(7, .int x_12), (8, .int v7), (0, .ref (q 0)), (1, .int v1), (2, .int v2), (3, .int v3), (4, .int v4), (5, .int v5)]) hx hb dX4_copy_84 hl (k := 7) rfl (by rw [ex_12]; rfl) (by decide) rfl (fun ls hl => ?_)
            refine lv_goto (tgt := 28) hx hb dX4_copy_87 (by decide) ?_
            exact ih28_4 x_12 G_11 K28_4 _ _ _ hP hD hS (lv_sub hl [2, 3, 4, 5, 6, 7, 0] rfl) h
          · have h := q_f c_8 h
            refine lv_iload hx hb dX4_copy_41 (lv_at hl 5 rfl) ?_
            refine lv_iconst (v := 1) hx hb dX4_copy_43 (by decide) ?_
            refine lv_isub hx hb dX4_copy_44 ?_
            refine lv_iload hx hb dX4_copy_45 (lv_at hl 6 rfl) ?_
            refine lv_isub hx hb dX4_copy_47 ?_
            refine lv_goto (tgt := 53) hx hb dX4_copy_48 (by decide) ?_
            refine lv_topi (fun x_13 ex_13 => ?_)
            have h := q_let_at ex_13 h
            refine lv_istore (lv' := [(8, .int x_13), (0, .ref (q 0)), (1, .int v1), (2, .int v2), (3, .int v3), (4, .int v4), (5, .int v5), (7, .int v7)]) hx hb dX4_copy_53 hl (by decide) rfl (fun ls hl => ?_)
            refine lv_aload_n hx hb dX4_copy_55 rfl (lv_at hl 1 rfl) ?_
            refine va_get (D := D) (ci := 4) (v := .ref (q 8)) (C := RX4) (T := TX4) (N := 15) hx hb hts uX4_copy_X4 hown hK hP 0 rfl rfl 14 (by decide) (hts _ kX4_copy_1) (fun _ h9 => h9) rfl dX4_copy_56 ?_
            refine lv_bipush (v := 40) hx hb dX4_copy_59 (by decide) ?_
            refine lv_iload_n hx hb dX4_copy_61 rfl (lv_at hl 4 rfl) ?_
            refine lv_imul hx hb dX4_copy_62 ?_
            refine lv_iload hx hb dX4_copy_63 (lv_at hl 5 rfl) ?_
            refine lv_iadd hx hb dX4_copy_65 ?_
            refine lv_iload hx hb dX4_copy_66 (lv_at hl 0 rfl) ?_
            refine lv_iadd hx hb dX4_copy_68 ?_
            refine lv_aload_n hx hb dX4_copy_69 rfl (lv_at hl 1 rfl) ?_
            refine va_get (D := D) (ci := 4) (v := .ref (q 8)) (C := RX4) (T := TX4) (N := 15) hx hb hts uX4_copy_X4 hown hK hP 0 rfl rfl 14 (by decide) (hts _ kX4_copy_1) (fun _ h9 => h9) rfl dX4_copy_70 ?_
            refine lv_bipush (v := 40) hx hb dX4_copy_73 (by decide) ?_
            refine lv_iload_n hx hb dX4_copy_75 rfl (lv_at hl 2 rfl) ?_
            refine lv_imul hx hb dX4_copy_76 ?_
            refine lv_iload_n hx hb dX4_copy_77 rfl (lv_at hl 3 rfl) ?_
            refine lv_iadd hx hb dX4_copy_78 ?_
            refine lv_iload hx hb dX4_copy_79 (lv_at hl 0 rfl) ?_
            refine lv_iadd hx hb dX4_copy_81 ?_
            obtain ⟨z_14, h⟩ := q_grd_ok h
            refine va_lald hx hb hK hP 8 2 rfl rfl z_14 dX4_copy_82 ?_
            obtain ⟨z_15, h⟩ := q_grd_ok h
            obtain ⟨G_16, eG_16, h⟩ := q_let_ok h
            refine va_last hx hb hK hP hD hS 8 2 rfl rfl z_15 dX4_copy_83 (fun H locs hP hD hS => ?_)
            have hP : va_P D vwCl (wM y q F G_16) H := by rw [eG_16]; exact hP
            have hD : va_D A (wM y q F G_16) := by rw [eG_16]; exact hD
            obtain ⟨x_17, ex_17, h⟩ := q_let_ok h
            refine lv_iinc (v := x_17) (lv' := [(7, .int x_17), (8, .int x_13), (0, .ref (q 0)), (1, .int v1), (2, .int v2), (3, .int v3), (4, .int v4), (5, .int v5)]) hx hb dX4_copy_84 hl (k := 7) rfl (by rw [ex_17]; rfl) (by decide) rfl (fun ls hl => ?_)
            refine lv_goto (tgt := 28) hx hb dX4_copy_87 (by decide) ?_
            exact ih28_4 x_17 G_16 K28_4 _ _ _ hP hD hS (lv_sub hl [2, 3, 4, 5, 6, 7, 0] rfl) h
    exact L28_4 F p1 p2 p3 p4 p5 N (0 : Int32) G K28_4 _ _ _ hP hD hS (lv_sub hl [2, 3, 4, 5, 6, 7, 0] rfl) hL4
  · have h := q_f c_3 h
    refine lv_aload_n hx hb dX4_copy_18 rfl (lv_at hl 1 rfl) ?_
    refine lv_iload hx hb dX4_copy_19 (lv_at hl 0 rfl) ?_
    obtain ⟨r_18, F_19, hc_20, h⟩ := q_bd2_ok h
    refine q_ci (r := r_18) (va_runV (As := [.int r_1]) (rest := []) ⟨hx, hb, hml, hown, hts⟩ (c_X4_finds l D y t q _ N F G r_1 (r_18, F_19) hc_20) (cwV 1 hts gX4_copy_X4_finds rfl rfl rfl eX4_finds ⟨Nat.le_of_ble_eq_true rfl, Nat.le_of_ble_eq_true rfl⟩) ⟨q_blind, (va_recv hK hP (ci := 4) (q0 := 0) rfl rfl), (q_pre hP hK hZ hD hA hS [0, 1, 2, 3, 4, 5, 6, 7, 8] rfl (by decide))⟩ rfl rfl hl.1 rfl (lv_room (Nat.le_of_ble_eq_true rfl)) dX4_copy_21 ⟨Nat.zero_le _, Nat.zero_le _⟩) hP hD hA hS [0, 1, 2, 3, 4, 5, 6, 7, 8] rfl (by decide) rfl (fun H locs hP hD hS => ?_)
    have hP : va_P D vwCl (wM y q F_19 G) H := hP
    have hD : va_D A (wM y q F_19 G) := hD
    have e9 := Option.some.inj h
    exact q_iret hx hb hr hlocks hK hP hD hS dX4_copy_24 (by first | rw [← e9] | rfl) (by first | rw [← e9] | rfl)
theorem eX4_copy : yX4_copy.cls = RX4 ∧ yX4_copy.cls ≠ "java/lang/invoke/MethodHandle" ∧ yX4_copy.cls ≠ "java/lang/invoke/VarHandle" ∧ (parseMethodDescriptor yX4_copy.desc).map (fun d => d.parameters.length) = some 5 := by decide +kernel
theorem uX4_lays_X4 : ∀ w ∈ u_ws RX4 TX4 15, w ∈ wsX4_lays := by decide +kernel
theorem kX4_lays_1 : Cond.fieldLink RX4 31 "BeamSeatsModel" "cells" "[J" ∈ wsX4_lays := List.mem_of_getElem? (i := 3) (by decide +kernel)
theorem kX4_lays_2 : Cond.fieldLink RX4 9 "BeamSeatsModel" "m" "[I" ∈ wsX4_lays := List.mem_of_getElem? (i := 2) (by decide +kernel)
theorem kX4_lays_3 : Cond.fieldLink RX4 28 "BeamSeatsModel" "sizeOf" "[I" ∈ wsX4_lays := List.mem_of_getElem? (i := 1) (by decide +kernel)
def f_X4_lays_L21 (N : Nat) (G : Nat → Int64) (v1 : Int32) : Nat → Int32 → Int32 → (Nat → Nat → Int32) → Option (Int32 × Int32 × (Nat → Nat → Int32))
  | 0, _, _, _ => none
  | k + 1, v3, v4, F =>
    q_grd v1 4 (
    if (F 7 v1.toNatClampNeg) ≤ v4 then
      some (v3, v4, F)
    else
      q_grd (4 : Int32) 69 (
      if (F 1 (4 : Int32).toNatClampNeg) ≤ v4 then
        some (v3, v4, F)
      else
        q_grd (((40 : Int32) * v1) + v4) 160 (
        q_bd (f_X4_in N (G (((40 : Int32) * v1) + v4).toNatClampNeg) (0 : Int32) (99 : Int32)) (fun r_13 =>
        if r_13 = 0 then
          q_let (v4 + 1) (fun x_16 =>
          f_X4_lays_L21 N G v1 k v3 x_16 F)
        else
          q_grd (((40 : Int32) * v1) + v4) 160 (
          q_bd (f_X4_put N F G v4 (4 : Int32) ((G (((40 : Int32) * v1) + v4).toNatClampNeg).toInt32)) (fun F_18 =>
          q_let (v3 + 1) (fun x_20 =>
          q_let (v4 + 1) (fun x_21 =>
          f_X4_lays_L21 N G v1 k x_20 x_21 F_18))))))))
def f_X4_lays (N : Nat) (F : Nat → Nat → Int32) (G : Nat → Int64) (p1 : Int32) : Option (Int32 × (Nat → Nat → Int32)) :=
  q_bd (f_X4_notThere N F G p1) (fun r_1 =>
  if r_1 = 0 then
    q_bd3 (f_X4_lays_L21 N G p1 N (0 : Int32) (0 : Int32) F) (fun x_5 x_6 F_7 =>
    some (x_5, F_7))
  else
    q_bd2 (f_X4_finds N F G r_1) (fun r_22 F_23 =>
    some (r_22, F_23)))
set_option maxHeartbeats 4000000 in
set_option maxRecDepth 100000 in
theorem c_X4_lays (l : Launch) (D : va_G) (y : Nat → ClassId) (t : Nat → Nat) (q : Nat → Nat) (sz N : Nat) (F : Nat → Nat → Int32) (G : Nat → Int64) (p1 : Int32) (res : Int32 × (Nat → Nat → Int32)) (h : f_X4_lays N F G p1 = some res) : Met l yX4_lays wsX4_lays ({ frames := 3, cells := 0, slots := 0, locals := 64 } : Room) (pPre D y t [.ref (q 0), .int p1] (wM y q F G) sz) (pQi D y (res.1) (wM y q (res.2) G) (va_A (wM y q F G) sz)) 0 0 (va_A (wM y q F G) sz) := by
  refine q_start (Qc := (fun A => pQi D y (res.1) (wM y q (res.2) G) A)) (cc := cX4_lays) (maxL := 5) (ret := (some .int)) (by decide) rfl (Nat.le_of_ble_eq_true rfl) ?_
  intro p e s m below meth c A ls hx hb hr hts hown hlocks hmn hml hP hK hZ hD hA hS hl
  have hl : lv_has ls 5 [(0, .ref (q 0)), (1, .int p1)] := hl
  have hown : s.vm.findClass RX4 = some m.cls := hown
  unfold f_X4_lays at h
  refine lv_aload_n hx hb dX4_lays_0 rfl (lv_at hl 0 rfl) ?_
  refine lv_iload_n hx hb dX4_lays_1 rfl (lv_at hl 1 rfl) ?_
  obtain ⟨r_1, hc_2, h⟩ := q_bd_ok h
  refine q_ci (r := r_1) (va_runV (As := [.int p1]) (rest := []) ⟨hx, hb, hml, hown, hts⟩ (c_X4_notThere l D y t q _ N F G p1 r_1 hc_2) (cwV 1 hts gX4_lays_X4_notThere rfl rfl rfl eX4_notThere ⟨Nat.le_of_ble_eq_true rfl, Nat.le_of_ble_eq_true rfl⟩) ⟨q_blind, (va_recv hK hP (ci := 4) (q0 := 0) rfl rfl), (q_pre hP hK hZ hD hA hS [0, 1, 2, 3, 4, 5, 6, 7, 8] rfl (by decide))⟩ rfl rfl hl.1 rfl (lv_room (Nat.le_of_ble_eq_true rfl)) dX4_lays_2 ⟨Nat.zero_le _, Nat.zero_le _⟩) hP hD hA hS [0, 1, 2, 3, 4, 5, 6, 7, 8] rfl (by decide) rfl (fun H locs hP hD hS => ?_)
  have hP : va_P D vwCl (wM y q F G) H := hP
  have hD : va_D A (wM y q F G) := hD
  refine lv_istore_n (lv' := [(2, .int r_1), (0, .ref (q 0)), (1, .int p1)]) hx hb dX4_lays_5 rfl hl (by decide) rfl (fun ls hl => ?_)
  refine lv_iload_n hx hb dX4_lays_6 rfl (lv_at hl 0 rfl) ?_
  refine lv_if_eq (tgt := 16) hx hb dX4_lays_7 (by decide) (fun c_3 => ?_) (fun c_3 => ?_)
  · have h := q_t c_3 h
    refine lv_iconst (v := 0) hx hb dX4_lays_16 (by decide) ?_
    refine lv_istore_n (lv' := [(3, .int (0 : Int32)), (2, .int r_1), (0, .ref (q 0)), (1, .int p1)]) hx hb dX4_lays_17 rfl hl (by decide) rfl (fun ls hl => ?_)
    refine lv_iconst (v := 0) hx hb dX4_lays_18 (by decide) ?_
    refine lv_istore (lv' := [(4, .int (0 : Int32)), (3, .int (0 : Int32)), (2, .int r_1), (0, .ref (q 0)), (1, .int p1)]) hx hb dX4_lays_19 hl (by decide) rfl (fun ls hl => ?_)
    obtain ⟨x_5, x_6, F_7, hL4, h⟩ := q_bd3_ok h
    have K21_4 : ∀ (H : Heap) (locs : List Loc) (ls : Array Slot), va_P D vwCl (wM y q F_7 G) H → va_D A (wM y q F_7 G) → va_S A s.heap H locs → lv_has ls 5 [(0, .ref (q 0)), (1, .int p1), (3, .int x_5), (4, .int x_6)] → W p l e ({ frames := 3, cells := 0, slots := 0, locals := 64 } : Room) s m ([.ref (q 0), .int p1] : List Value).toArray below meth c H locs 0 0 (MQ below (pQi D y (res.1) (wM y q (res.2) G) A) ([.ref (q 0), .int p1] : List Value).toArray s 0 0 A) (F0 m 93 ls []) := by
      intro H locs ls hP hD hS hl
      refine lv_iload_n hx hb dX4_lays_93 rfl (lv_at hl 2 rfl) ?_
      have e9 := Option.some.inj h
      exact q_iret hx hb hr hlocks hK hP hD hS dX4_lays_94 (by first | rw [← e9] | rfl) (by first | rw [← e9] | rfl)
    have L21_4 : ∀ (G : Nat → Int64) (v1 : Int32) (k : Nat) (v3 : Int32) (v4 : Int32) (F : Nat → Nat → Int32), (∀ (H : Heap) (locs : List Loc) (ls : Array Slot), va_P D vwCl (wM y q F_7 G) H → va_D A (wM y q F_7 G) → va_S A s.heap H locs → lv_has ls 5 [(0, .ref (q 0)), (1, .int v1), (3, .int x_5), (4, .int x_6)] → W p l e ({ frames := 3, cells := 0, slots := 0, locals := 64 } : Room) s m ([.ref (q 0), .int p1] : List Value).toArray below meth c H locs 0 0 (MQ below (pQi D y (res.1) (wM y q (res.2) G) A) ([.ref (q 0), .int p1] : List Value).toArray s 0 0 A) (F0 m 93 ls [])) → ∀ (H : Heap) (locs : List Loc) (ls : Array Slot), va_P D vwCl (wM y q F G) H → va_D A (wM y q F G) → va_S A s.heap H locs → lv_has ls 5 [(0, .ref (q 0)), (1, .int v1), (3, .int v3), (4, .int v4)] → f_X4_lays_L21 N G v1 k v3 v4 F = some (x_5, x_6, F_7) → W p l e ({ frames := 3, cells := 0, slots := 0, locals := 64 } : Room) s m ([.ref (q 0), .int p1] : List Value).toArray below meth c H locs 0 0 (MQ below (pQi D y (res.1) (wM y q (res.2) G) A) ([.ref (q 0), .int p1] : List Value).toArray s 0 0 A) (F0 m 21 ls []) := by
      intro G v1 k
      induction k with
      | zero =>
        intro v3 v4 F K21_4 H locs ls hP hD hS hl h
        have h : (none : Option (Int32 × Int32 × (Nat → Nat → Int32))) = some _ := h
        cases h
      | succ k ih21_4 =>
        intro v3 v4 F K21_4 H locs ls hP hD hS hl h
        rw [f_X4_lays_L21] at h
        refine lv_iload hx hb dX4_lays_21 (lv_at hl 3 rfl) ?_
        refine lv_aload_n hx hb dX4_lays_23 rfl (lv_at hl 0 rfl) ?_
        refine va_get (D := D) (ci := 4) (v := .ref (q 7)) (C := RX4) (T := TX4) (N := 15) hx hb hts uX4_lays_X4 hown hK hP 0 rfl rfl 13 (by decide) (hts _ kX4_lays_3) (fun _ h9 => h9) rfl dX4_lays_24 ?_
        refine lv_iload_n hx hb dX4_lays_27 rfl (lv_at hl 1 rfl) ?_
        obtain ⟨z_8, h⟩ := q_grd_ok h
        refine va_iald hx hb hK hP 7 0 rfl rfl z_8 dX4_lays_28 ?_
        refine lv_icmp_ge (tgt := 93) hx hb dX4_lays_29 (by decide) (fun c_9 => ?_) (fun c_9 => ?_)
        · have h := q_t c_9 h
          cases h
          exact K21_4 _ _ _ hP hD hS (lv_sub hl [0, 1, 2, 3] rfl)
        · have h := q_f c_9 h
          refine lv_iload hx hb dX4_lays_32 (lv_at hl 3 rfl) ?_
          refine lv_aload_n hx hb dX4_lays_34 rfl (lv_at hl 0 rfl) ?_
          refine va_get (D := D) (ci := 4) (v := .ref (q 1)) (C := RX4) (T := TX4) (N := 15) hx hb hts uX4_lays_X4 hown hK hP 0 rfl rfl 0 (by decide) (hts _ kX4_lays_2) (fun _ h9 => h9) rfl dX4_lays_35 ?_
          refine lv_iconst (v := 4) hx hb dX4_lays_38 (by decide) ?_
          obtain ⟨z_10, h⟩ := q_grd_ok h
          refine va_iald hx hb hK hP 1 0 rfl rfl z_10 dX4_lays_39 ?_
          refine lv_icmp_ge (tgt := 93) hx hb dX4_lays_40 (by decide) (fun c_11 => ?_) (fun c_11 => ?_)
          · have h := q_t c_11 h
            cases h
            exact K21_4 _ _ _ hP hD hS (lv_sub hl [0, 1, 2, 3] rfl)
          · have h := q_f c_11 h
            refine lv_aload_n hx hb dX4_lays_43 rfl (lv_at hl 0 rfl) ?_
            refine va_get (D := D) (ci := 4) (v := .ref (q 8)) (C := RX4) (T := TX4) (N := 15) hx hb hts uX4_lays_X4 hown hK hP 0 rfl rfl 14 (by decide) (hts _ kX4_lays_1) (fun _ h9 => h9) rfl dX4_lays_44 ?_
            refine lv_bipush (v := 40) hx hb dX4_lays_47 (by decide) ?_
            refine lv_iload_n hx hb dX4_lays_49 rfl (lv_at hl 1 rfl) ?_
            refine lv_imul hx hb dX4_lays_50 ?_
            refine lv_iload hx hb dX4_lays_51 (lv_at hl 3 rfl) ?_
            refine lv_iadd hx hb dX4_lays_53 ?_
            obtain ⟨z_12, h⟩ := q_grd_ok h
            refine va_lald hx hb hK hP 8 2 rfl rfl z_12 dX4_lays_54 ?_
            refine lv_iconst (v := 0) hx hb dX4_lays_55 (by decide) ?_
            refine lv_bipush (v := 99) hx hb dX4_lays_56 (by decide) ?_
            obtain ⟨r_13, hc_14, h⟩ := q_bd_ok h
            refine q_ci (r := r_13) (va_runS (As := [.long (G (((40 : Int32) * v1) + v4).toNatClampNeg), .int (0 : Int32), .int (99 : Int32)]) (rest := []) ⟨hx, hb, hml, hown, hts⟩ (c_X4_in l D y t q _ N (G (((40 : Int32) * v1) + v4).toNatClampNeg) (0 : Int32) (99 : Int32) r_13 hc_14) (va_cwS 3 hts gX4_lays_X4_in rfl rfl rfl eX4_in ⟨Nat.le_of_ble_eq_true rfl, Nat.le_of_ble_eq_true rfl⟩) ⟨q_blind, (q_pre hP hK hZ hD hA hS [] rfl (by decide))⟩ rfl rfl hl.1 rfl (lv_room (Nat.le_of_ble_eq_true rfl)) dX4_lays_58 ⟨Nat.zero_le _, Nat.zero_le _⟩) hP hD hA hS [] rfl (by decide) rfl (fun H locs hP hD hS => ?_)
            have hP : va_P D vwCl (wM y q F G) H := hP
            have hD : va_D A (wM y q F G) := hD
            refine lv_if_eq (tgt := 87) hx hb dX4_lays_61 (by decide) (fun c_15 => ?_) (fun c_15 => ?_)
            · have h := q_t c_15 h
              obtain ⟨x_16, ex_16, h⟩ := q_let_ok h
              refine lv_iinc (v := x_16) (lv' := [(4, .int x_16), (0, .ref (q 0)), (1, .int v1), (3, .int v3)]) hx hb dX4_lays_87 hl (k := 3) rfl (by rw [ex_16]; rfl) (by decide) rfl (fun ls hl => ?_)
              refine lv_goto (tgt := 21) hx hb dX4_lays_90 (by decide) ?_
              exact ih21_4 v3 x_16 F K21_4 _ _ _ hP hD hS (lv_sub hl [1, 2, 3, 0] rfl) h
            · have h := q_f c_15 h
              refine lv_aload_n hx hb dX4_lays_64 rfl (lv_at hl 0 rfl) ?_
              refine lv_iload hx hb dX4_lays_65 (lv_at hl 3 rfl) ?_
              refine lv_iconst (v := 4) hx hb dX4_lays_67 (by decide) ?_
              refine lv_aload_n hx hb dX4_lays_68 rfl (lv_at hl 0 rfl) ?_
              refine va_get (D := D) (ci := 4) (v := .ref (q 8)) (C := RX4) (T := TX4) (N := 15) hx hb hts uX4_lays_X4 hown hK hP 0 rfl rfl 14 (by decide) (hts _ kX4_lays_1) (fun _ h9 => h9) rfl dX4_lays_69 ?_
              refine lv_bipush (v := 40) hx hb dX4_lays_72 (by decide) ?_
              refine lv_iload_n hx hb dX4_lays_74 rfl (lv_at hl 1 rfl) ?_
              refine lv_imul hx hb dX4_lays_75 ?_
              refine lv_iload hx hb dX4_lays_76 (lv_at hl 3 rfl) ?_
              refine lv_iadd hx hb dX4_lays_78 ?_
              obtain ⟨z_17, h⟩ := q_grd_ok h
              refine va_lald hx hb hK hP 8 2 rfl rfl z_17 dX4_lays_79 ?_
              refine lv_l2i hx hb dX4_lays_80 rfl ?_
              obtain ⟨F_18, hc_19, h⟩ := q_bd_ok h
              refine q_cv (va_runV (As := [.int v4, .int (4 : Int32), .int ((G (((40 : Int32) * v1) + v4).toNatClampNeg).toInt32)]) (rest := []) ⟨hx, hb, hml, hown, hts⟩ (c_X4_put l D y t q _ N F G v4 (4 : Int32) ((G (((40 : Int32) * v1) + v4).toNatClampNeg).toInt32) F_18 hc_19) (cwV 3 hts gX4_lays_X4_put rfl rfl rfl eX4_put ⟨Nat.le_of_ble_eq_true rfl, Nat.le_of_ble_eq_true rfl⟩) ⟨q_blind, (va_recv hK hP (ci := 4) (q0 := 0) rfl rfl), (q_pre hP hK hZ hD hA hS [0, 1, 2, 3, 4, 5, 6, 7, 8] rfl (by decide))⟩ rfl rfl hl.1 rfl (lv_room (Nat.le_of_ble_eq_true rfl)) dX4_lays_81 ⟨Nat.zero_le _, Nat.zero_le _⟩) hP hD hA hS [0, 1, 2, 3, 4, 5, 6, 7, 8] rfl (by decide) rfl (fun H locs hP hD hS => ?_)
              have hP : va_P D vwCl (wM y q F_18 G) H := hP
              have hD : va_D A (wM y q F_18 G) := hD
              obtain ⟨x_20, ex_20, h⟩ := q_let_ok h
              refine lv_iinc (v := x_20) (lv' := [(3, .int x_20), (0, .ref (q 0)), (1, .int v1), (4, .int v4)]) hx hb dX4_lays_84 hl (k := 2) rfl (by rw [ex_20]; rfl) (by decide) rfl (fun ls hl => ?_)
              obtain ⟨x_21, ex_21, h⟩ := q_let_ok h
              refine lv_iinc (v := x_21) (lv' := [(4, .int x_21), (3, .int x_20), (0, .ref (q 0)), (1, .int v1)]) hx hb dX4_lays_87 hl (k := 3) rfl (by rw [ex_21]; rfl) (by decide) rfl (fun ls hl => ?_)
              refine lv_goto (tgt := 21) hx hb dX4_lays_90 (by decide) ?_
              exact ih21_4 x_20 x_21 F_18 K21_4 _ _ _ hP hD hS (lv_sub hl [2, 3, 1, 0] rfl) h
    exact L21_4 G p1 N (0 : Int32) (0 : Int32) F K21_4 _ _ _ hP hD hS (lv_sub hl [3, 4, 1, 0] rfl) hL4
  · have h := q_f c_3 h
    refine lv_aload_n hx hb dX4_lays_10 rfl (lv_at hl 1 rfl) ?_
    refine lv_iload_n hx hb dX4_lays_11 rfl (lv_at hl 0 rfl) ?_
    obtain ⟨r_22, F_23, hc_24, h⟩ := q_bd2_ok h
    refine q_ci (r := r_22) (va_runV (As := [.int r_1]) (rest := []) ⟨hx, hb, hml, hown, hts⟩ (c_X4_finds l D y t q _ N F G r_1 (r_22, F_23) hc_24) (cwV 1 hts gX4_lays_X4_finds rfl rfl rfl eX4_finds ⟨Nat.le_of_ble_eq_true rfl, Nat.le_of_ble_eq_true rfl⟩) ⟨q_blind, (va_recv hK hP (ci := 4) (q0 := 0) rfl rfl), (q_pre hP hK hZ hD hA hS [0, 1, 2, 3, 4, 5, 6, 7, 8] rfl (by decide))⟩ rfl rfl hl.1 rfl (lv_room (Nat.le_of_ble_eq_true rfl)) dX4_lays_12 ⟨Nat.zero_le _, Nat.zero_le _⟩) hP hD hA hS [0, 1, 2, 3, 4, 5, 6, 7, 8] rfl (by decide) rfl (fun H locs hP hD hS => ?_)
    have hP : va_P D vwCl (wM y q F_23 G) H := hP
    have hD : va_D A (wM y q F_23 G) := hD
    have e9 := Option.some.inj h
    exact q_iret hx hb hr hlocks hK hP hD hS dX4_lays_15 (by first | rw [← e9] | rfl) (by first | rw [← e9] | rfl)
theorem eX4_lays : yX4_lays.cls = RX4 ∧ yX4_lays.cls ≠ "java/lang/invoke/MethodHandle" ∧ yX4_lays.cls ≠ "java/lang/invoke/VarHandle" ∧ (parseMethodDescriptor yX4_lays.desc).map (fun d => d.parameters.length) = some 1 := by decide +kernel
theorem kX4_notAsked_0 : Cond.constant RX4 35 (-1000000001) ∈ wsX4_notAsked := List.mem_of_getElem? (i := 1) (by decide +kernel)
def f_X4_notAsked (N : Nat) (F : Nat → Nat → Int32) (G : Nat → Int64) (p1 : Int32) (p2 : Int32) : Option (Int32) :=
  q_bd (f_X4_notThere N F G p1) (fun r_1 =>
  if r_1 = 0 then
    q_bd (f_X4_isThing N F G p2) (fun r_4 =>
    if r_4 = 0 then
      some (-1000000001 : Int32)
    else
      some r_1)
  else
    some r_1)
set_option maxHeartbeats 4000000 in
set_option maxRecDepth 100000 in
theorem c_X4_notAsked (l : Launch) (D : va_G) (y : Nat → ClassId) (t : Nat → Nat) (q : Nat → Nat) (sz N : Nat) (F : Nat → Nat → Int32) (G : Nat → Int64) (p1 : Int32) (p2 : Int32) (res : Int32) (h : f_X4_notAsked N F G p1 p2 = some res) : Met l yX4_notAsked wsX4_notAsked ({ frames := 3, cells := 0, slots := 0, locals := 64 } : Room) (pPre D y t [.ref (q 0), .int p1, .int p2] (wM y q F G) sz) (pQi D y res (wM y q F G) (va_A (wM y q F G) sz)) 0 0 (va_A (wM y q F G) sz) := by
  refine q_start (Qc := (fun A => pQi D y res (wM y q F G) A)) (cc := cX4_notAsked) (maxL := 4) (ret := (some .int)) (by decide) rfl (Nat.le_of_ble_eq_true rfl) ?_
  intro p e s m below meth c A ls hx hb hr hts hown hlocks hmn hml hP hK hZ hD hA hS hl
  have hl : lv_has ls 4 [(0, .ref (q 0)), (1, .int p1), (2, .int p2)] := hl
  have hown : s.vm.findClass RX4 = some m.cls := hown
  unfold f_X4_notAsked at h
  refine lv_aload_n hx hb dX4_notAsked_0 rfl (lv_at hl 0 rfl) ?_
  refine lv_iload_n hx hb dX4_notAsked_1 rfl (lv_at hl 1 rfl) ?_
  obtain ⟨r_1, hc_2, h⟩ := q_bd_ok h
  refine q_ci (r := r_1) (va_runV (As := [.int p1]) (rest := []) ⟨hx, hb, hml, hown, hts⟩ (c_X4_notThere l D y t q _ N F G p1 r_1 hc_2) (cwV 1 hts gX4_notAsked_X4_notThere rfl rfl rfl eX4_notThere ⟨Nat.le_of_ble_eq_true rfl, Nat.le_of_ble_eq_true rfl⟩) ⟨q_blind, (va_recv hK hP (ci := 4) (q0 := 0) rfl rfl), (q_pre hP hK hZ hD hA hS [0, 1, 2, 3, 4, 5, 6, 7, 8] rfl (by decide))⟩ rfl rfl hl.1 rfl (lv_room (Nat.le_of_ble_eq_true rfl)) dX4_notAsked_2 ⟨Nat.zero_le _, Nat.zero_le _⟩) hP hD hA hS [0, 1, 2, 3, 4, 5, 6, 7, 8] rfl (by decide) rfl (fun H locs hP hD hS => ?_)
  have hP : va_P D vwCl (wM y q F G) H := hP
  have hD : va_D A (wM y q F G) := hD
  refine lv_istore_n (lv' := [(3, .int r_1), (0, .ref (q 0)), (1, .int p1), (2, .int p2)]) hx hb dX4_notAsked_5 rfl hl (by decide) rfl (fun ls hl => ?_)
  refine lv_iload_n hx hb dX4_notAsked_6 rfl (lv_at hl 0 rfl) ?_
  refine lv_if_ne (tgt := 23) hx hb dX4_notAsked_7 (by decide) (fun c_3 => ?_) (fun c_3 => ?_)
  · have h := q_f c_3 h
    refine lv_iload_n hx hb dX4_notAsked_23 rfl (lv_at hl 0 rfl) ?_
    have e9 := Option.some.inj h
    exact q_iret hx hb hr hlocks hK hP hD hS dX4_notAsked_24 (by first | rw [← e9] | rfl) (by first | rw [← e9] | rfl)
  · have h := q_t c_3 h
    refine lv_aload_n hx hb dX4_notAsked_10 rfl (lv_at hl 1 rfl) ?_
    refine lv_iload_n hx hb dX4_notAsked_11 rfl (lv_at hl 3 rfl) ?_
    obtain ⟨r_4, hc_5, h⟩ := q_bd_ok h
    refine q_ci (r := r_4) (va_runV (As := [.int p2]) (rest := []) ⟨hx, hb, hml, hown, hts⟩ (c_X4_isThing l D y t q _ N F G p2 r_4 hc_5) (cwV 1 hts gX4_notAsked_X4_isThing rfl rfl rfl eX4_isThing ⟨Nat.le_of_ble_eq_true rfl, Nat.le_of_ble_eq_true rfl⟩) ⟨q_blind, (va_recv hK hP (ci := 4) (q0 := 0) rfl rfl), (q_pre hP hK hZ hD hA hS [0, 1, 2, 3, 4, 5, 6, 7, 8] rfl (by decide))⟩ rfl rfl hl.1 rfl (lv_room (Nat.le_of_ble_eq_true rfl)) dX4_notAsked_12 ⟨Nat.zero_le _, Nat.zero_le _⟩) hP hD hA hS [0, 1, 2, 3, 4, 5, 6, 7, 8] rfl (by decide) rfl (fun H locs hP hD hS => ?_)
    have hP : va_P D vwCl (wM y q F G) H := hP
    have hD : va_D A (wM y q F G) := hD
    refine lv_if_ne (tgt := 23) hx hb dX4_notAsked_15 (by decide) (fun c_6 => ?_) (fun c_6 => ?_)
    · have h := q_f c_6 h
      refine lv_iload_n hx hb dX4_notAsked_23 rfl (lv_at hl 0 rfl) ?_
      have e9 := Option.some.inj h
      exact q_iret hx hb hr hlocks hK hP hD hS dX4_notAsked_24 (by first | rw [← e9] | rfl) (by first | rw [← e9] | rfl)
    · have h := q_t c_6 h
      refine lv_ldc (v := -1000000001) hx hb hown (hts _ kX4_notAsked_0) dX4_notAsked_18 ?_
      refine lv_goto (tgt := 24) hx hb dX4_notAsked_20 (by decide) ?_
      have e9 := Option.some.inj h
      exact q_iret hx hb hr hlocks hK hP hD hS dX4_notAsked_24 (by first | rw [← e9] | rfl) (by first | rw [← e9] | rfl)
theorem eX4_notAsked : yX4_notAsked.cls = RX4 ∧ yX4_notAsked.cls ≠ "java/lang/invoke/MethodHandle" ∧ yX4_notAsked.cls ≠ "java/lang/invoke/VarHandle" ∧ (parseMethodDescriptor yX4_notAsked.desc).map (fun d => d.parameters.length) = some 2 := by decide +kernel
theorem uX4_book_X4 : ∀ w ∈ u_ws RX4 TX4 15, w ∈ wsX4_book := by decide +kernel
theorem kX4_book_1 : Cond.fieldLink RX4 25 "BeamSeatsModel" "bitsOf" "[I" ∈ wsX4_book := List.mem_of_getElem? (i := 3) (by decide +kernel)
theorem kX4_book_2 : Cond.fieldLink RX4 31 "BeamSeatsModel" "cells" "[J" ∈ wsX4_book := List.mem_of_getElem? (i := 2) (by decide +kernel)
theorem kX4_book_3 : Cond.fieldLink RX4 28 "BeamSeatsModel" "sizeOf" "[I" ∈ wsX4_book := List.mem_of_getElem? (i := 1) (by decide +kernel)
def f_X4_book_L24 (N : Nat) (v1 : Int32) (v2 : Int32) : Nat → Int32 → (Nat → Nat → Int32) → (Nat → Int64) → Option (Int32 × (Nat → Nat → Int32) × (Nat → Int64))
  | 0, _, _, _ => none
  | k + 1, v4, F, G =>
    q_grd v1 4 (
    if (F 7 v1.toNatClampNeg) ≤ v4 then
      some (v4, F, G)
    else
      q_grd v1 4 (
      q_bd (f_X4_it N F G v2 (1 : Int32)) (fun r_13 =>
      q_bd (f_X4_cutTo N (F 6 v1.toNatClampNeg) (r_13.toInt64)) (fun r_15 =>
      q_grd (((40 : Int32) * v1) + v4) 160 (
      q_let (vp_updL G (((40 : Int32) * v1) + v4).toNatClampNeg r_15) (fun G_18 =>
      q_bd (f_X4_goes N F G_18) (fun F_19 =>
      q_let (v4 + 1) (fun x_21 =>
      f_X4_book_L24 N v1 v2 k x_21 F_19 G_18))))))))
def f_X4_book (N : Nat) (F : Nat → Nat → Int32) (G : Nat → Int64) (p1 : Int32) (p2 : Int32) : Option (Int32 × (Nat → Nat → Int32) × (Nat → Int64)) :=
  q_bd (f_X4_notAsked N F G p1 p2) (fun r_1 =>
  if r_1 = 0 then
    q_bd (f_X4_thinks N F G) (fun F_4 =>
    q_bd3 (f_X4_book_L24 N p1 p2 N (0 : Int32) F_4 G) (fun x_7 F_8 G_9 =>
    q_bd (f_X4_putsBack N F_8 G_9) (fun F_22 =>
    q_grd p1 4 (
    some ((F_22 7 p1.toNatClampNeg), F_22, G_9)))))
  else
    q_bd2 (f_X4_finds N F G r_1) (fun r_25 F_26 =>
    some (r_25, F_26, G)))
set_option maxHeartbeats 4000000 in
set_option maxRecDepth 100000 in
theorem c_X4_book (l : Launch) (D : va_G) (y : Nat → ClassId) (t : Nat → Nat) (q : Nat → Nat) (sz N : Nat) (F : Nat → Nat → Int32) (G : Nat → Int64) (p1 : Int32) (p2 : Int32) (res : Int32 × (Nat → Nat → Int32) × (Nat → Int64)) (h : f_X4_book N F G p1 p2 = some res) : Met l yX4_book wsX4_book ({ frames := 6, cells := 0, slots := 0, locals := 134 } : Room) (pPre D y t [.ref (q 0), .int p1, .int p2] (wM y q F G) sz) (pQi D y (res.1) (wM y q (res.2.1) (res.2.2)) (va_A (wM y q F G) sz)) 0 0 (va_A (wM y q F G) sz) := by
  refine q_start (Qc := (fun A => pQi D y (res.1) (wM y q (res.2.1) (res.2.2)) A)) (cc := cX4_book) (maxL := 5) (ret := (some .int)) (by decide) rfl (Nat.le_of_ble_eq_true rfl) ?_
  intro p e s m below meth c A ls hx hb hr hts hown hlocks hmn hml hP hK hZ hD hA hS hl
  have hl : lv_has ls 5 [(0, .ref (q 0)), (1, .int p1), (2, .int p2)] := hl
  have hown : s.vm.findClass RX4 = some m.cls := hown
  unfold f_X4_book at h
  refine lv_aload_n hx hb dX4_book_0 rfl (lv_at hl 0 rfl) ?_
  refine lv_iload_n hx hb dX4_book_1 rfl (lv_at hl 1 rfl) ?_
  refine lv_iload_n hx hb dX4_book_2 rfl (lv_at hl 2 rfl) ?_
  obtain ⟨r_1, hc_2, h⟩ := q_bd_ok h
  refine q_ci (r := r_1) (va_runV (As := [.int p1, .int p2]) (rest := []) ⟨hx, hb, hml, hown, hts⟩ (c_X4_notAsked l D y t q _ N F G p1 p2 r_1 hc_2) (cwV 2 hts gX4_book_X4_notAsked rfl rfl rfl eX4_notAsked ⟨Nat.le_of_ble_eq_true rfl, Nat.le_of_ble_eq_true rfl⟩) ⟨q_blind, (va_recv hK hP (ci := 4) (q0 := 0) rfl rfl), (q_pre hP hK hZ hD hA hS [0, 1, 2, 3, 4, 5, 6, 7, 8] rfl (by decide))⟩ rfl rfl hl.1 rfl (lv_room (Nat.le_of_ble_eq_true rfl)) dX4_book_3 ⟨Nat.zero_le _, Nat.zero_le _⟩) hP hD hA hS [0, 1, 2, 3, 4, 5, 6, 7, 8] rfl (by decide) rfl (fun H locs hP hD hS => ?_)
  have hP : va_P D vwCl (wM y q F G) H := hP
  have hD : va_D A (wM y q F G) := hD
  refine lv_istore_n (lv' := [(3, .int r_1), (0, .ref (q 0)), (1, .int p1), (2, .int p2)]) hx hb dX4_book_6 rfl hl (by decide) rfl (fun ls hl => ?_)
  refine lv_iload_n hx hb dX4_book_7 rfl (lv_at hl 0 rfl) ?_
  refine lv_if_eq (tgt := 17) hx hb dX4_book_8 (by decide) (fun c_3 => ?_) (fun c_3 => ?_)
  · have h := q_t c_3 h
    refine lv_aload_n hx hb dX4_book_17 rfl (lv_at hl 1 rfl) ?_
    obtain ⟨F_4, hc_5, h⟩ := q_bd_ok h
    refine q_cv (va_runV (As := []) (rest := []) ⟨hx, hb, hml, hown, hts⟩ (c_X4_thinks l D y t q _ N F G F_4 hc_5) (cwV 0 hts gX4_book_X4_thinks rfl rfl rfl eX4_thinks ⟨Nat.le_of_ble_eq_true rfl, Nat.le_of_ble_eq_true rfl⟩) ⟨q_blind, (va_recv hK hP (ci := 4) (q0 := 0) rfl rfl), (q_pre hP hK hZ hD hA hS [0, 1, 2, 3, 4, 5, 6, 7, 8] rfl (by decide))⟩ rfl rfl hl.1 rfl (lv_room (Nat.le_of_ble_eq_true rfl)) dX4_book_18 ⟨Nat.zero_le _, Nat.zero_le _⟩) hP hD hA hS [0, 1, 2, 3, 4, 5, 6, 7, 8] rfl (by decide) rfl (fun H locs hP hD hS => ?_)
    have hP : va_P D vwCl (wM y q F_4 G) H := hP
    have hD : va_D A (wM y q F_4 G) := hD
    refine lv_iconst (v := 0) hx hb dX4_book_21 (by decide) ?_
    refine lv_istore (lv' := [(4, .int (0 : Int32)), (3, .int r_1), (0, .ref (q 0)), (1, .int p1), (2, .int p2)]) hx hb dX4_book_22 hl (by decide) rfl (fun ls hl => ?_)
    obtain ⟨x_7, F_8, G_9, hL6, h⟩ := q_bd3_ok h
    have K24_6 : ∀ (H : Heap) (locs : List Loc) (ls : Array Slot), va_P D vwCl (wM y q F_8 G_9) H → va_D A (wM y q F_8 G_9) → va_S A s.heap H locs → lv_has ls 5 [(0, .ref (q 0)), (1, .int p1), (2, .int p2), (4, .int x_7)] → W p l e ({ frames := 6, cells := 0, slots := 0, locals := 134 } : Room) s m ([.ref (q 0), .int p1, .int p2] : List Value).toArray below meth c H locs 0 0 (MQ below (pQi D y (res.1) (wM y q (res.2.1) (res.2.2)) A) ([.ref (q 0), .int p1, .int p2] : List Value).toArray s 0 0 A) (F0 m 73 ls []) := by
      intro H locs ls hP hD hS hl
      refine lv_aload_n hx hb dX4_book_73 rfl (lv_at hl 0 rfl) ?_
      obtain ⟨F_22, hc_23, h⟩ := q_bd_ok h
      refine q_cv (va_runV (As := []) (rest := []) ⟨hx, hb, hml, hown, hts⟩ (c_X4_putsBack l D y t q _ N F_8 G_9 F_22 hc_23) (cwV 0 hts gX4_book_X4_putsBack rfl rfl rfl eX4_putsBack ⟨Nat.le_of_ble_eq_true rfl, Nat.le_of_ble_eq_true rfl⟩) ⟨q_blind, (va_recv hK hP (ci := 4) (q0 := 0) rfl rfl), (q_pre hP hK hZ hD hA hS [0, 1, 2, 3, 4, 5, 6, 7, 8] rfl (by decide))⟩ rfl rfl hl.1 rfl (lv_room (Nat.le_of_ble_eq_true rfl)) dX4_book_74 ⟨Nat.zero_le _, Nat.zero_le _⟩) hP hD hA hS [0, 1, 2, 3, 4, 5, 6, 7, 8] rfl (by decide) rfl (fun H locs hP hD hS => ?_)
      have hP : va_P D vwCl (wM y q F_22 G_9) H := hP
      have hD : va_D A (wM y q F_22 G_9) := hD
      refine lv_aload_n hx hb dX4_book_77 rfl (lv_at hl 0 rfl) ?_
      refine va_get (D := D) (ci := 4) (v := .ref (q 7)) (C := RX4) (T := TX4) (N := 15) hx hb hts uX4_book_X4 hown hK hP 0 rfl rfl 13 (by decide) (hts _ kX4_book_3) (fun _ h9 => h9) rfl dX4_book_78 ?_
      refine lv_iload_n hx hb dX4_book_81 rfl (lv_at hl 1 rfl) ?_
      obtain ⟨z_24, h⟩ := q_grd_ok h
      refine va_iald hx hb hK hP 7 0 rfl rfl z_24 dX4_book_82 ?_
      have e9 := Option.some.inj h
      exact q_iret hx hb hr hlocks hK hP hD hS dX4_book_83 (by first | rw [← e9] | rfl) (by first | rw [← e9] | rfl)
    have L24_6 : ∀ (v1 : Int32) (v2 : Int32) (k : Nat) (v4 : Int32) (F : Nat → Nat → Int32) (G : Nat → Int64), (∀ (H : Heap) (locs : List Loc) (ls : Array Slot), va_P D vwCl (wM y q F_8 G_9) H → va_D A (wM y q F_8 G_9) → va_S A s.heap H locs → lv_has ls 5 [(0, .ref (q 0)), (1, .int v1), (2, .int v2), (4, .int x_7)] → W p l e ({ frames := 6, cells := 0, slots := 0, locals := 134 } : Room) s m ([.ref (q 0), .int p1, .int p2] : List Value).toArray below meth c H locs 0 0 (MQ below (pQi D y (res.1) (wM y q (res.2.1) (res.2.2)) A) ([.ref (q 0), .int p1, .int p2] : List Value).toArray s 0 0 A) (F0 m 73 ls [])) → ∀ (H : Heap) (locs : List Loc) (ls : Array Slot), va_P D vwCl (wM y q F G) H → va_D A (wM y q F G) → va_S A s.heap H locs → lv_has ls 5 [(0, .ref (q 0)), (1, .int v1), (2, .int v2), (4, .int v4)] → f_X4_book_L24 N v1 v2 k v4 F G = some (x_7, F_8, G_9) → W p l e ({ frames := 6, cells := 0, slots := 0, locals := 134 } : Room) s m ([.ref (q 0), .int p1, .int p2] : List Value).toArray below meth c H locs 0 0 (MQ below (pQi D y (res.1) (wM y q (res.2.1) (res.2.2)) A) ([.ref (q 0), .int p1, .int p2] : List Value).toArray s 0 0 A) (F0 m 24 ls []) := by
      intro v1 v2 k
      induction k with
      | zero =>
        intro v4 F G K24_6 H locs ls hP hD hS hl h
        have h : (none : Option (Int32 × (Nat → Nat → Int32) × (Nat → Int64))) = some _ := h
        cases h
      | succ k ih24_6 =>
        intro v4 F G K24_6 H locs ls hP hD hS hl h
        rw [f_X4_book_L24] at h
        refine lv_iload hx hb dX4_book_24 (lv_at hl 3 rfl) ?_
        refine lv_aload_n hx hb dX4_book_26 rfl (lv_at hl 0 rfl) ?_
        refine va_get (D := D) (ci := 4) (v := .ref (q 7)) (C := RX4) (T := TX4) (N := 15) hx hb hts uX4_book_X4 hown hK hP 0 rfl rfl 13 (by decide) (hts _ kX4_book_3) (fun _ h9 => h9) rfl dX4_book_27 ?_
        refine lv_iload_n hx hb dX4_book_30 rfl (lv_at hl 1 rfl) ?_
        obtain ⟨z_10, h⟩ := q_grd_ok h
        refine va_iald hx hb hK hP 7 0 rfl rfl z_10 dX4_book_31 ?_
        refine lv_icmp_ge (tgt := 73) hx hb dX4_book_32 (by decide) (fun c_11 => ?_) (fun c_11 => ?_)
        · have h := q_t c_11 h
          cases h
          exact K24_6 _ _ _ hP hD hS (lv_sub hl [0, 1, 2, 3] rfl)
        · have h := q_f c_11 h
          refine lv_aload_n hx hb dX4_book_35 rfl (lv_at hl 0 rfl) ?_
          refine va_get (D := D) (ci := 4) (v := .ref (q 8)) (C := RX4) (T := TX4) (N := 15) hx hb hts uX4_book_X4 hown hK hP 0 rfl rfl 14 (by decide) (hts _ kX4_book_2) (fun _ h9 => h9) rfl dX4_book_36 ?_
          refine lv_bipush (v := 40) hx hb dX4_book_39 (by decide) ?_
          refine lv_iload_n hx hb dX4_book_41 rfl (lv_at hl 1 rfl) ?_
          refine lv_imul hx hb dX4_book_42 ?_
          refine lv_iload hx hb dX4_book_43 (lv_at hl 3 rfl) ?_
          refine lv_iadd hx hb dX4_book_45 ?_
          refine lv_aload_n hx hb dX4_book_46 rfl (lv_at hl 0 rfl) ?_
          refine va_get (D := D) (ci := 4) (v := .ref (q 6)) (C := RX4) (T := TX4) (N := 15) hx hb hts uX4_book_X4 hown hK hP 0 rfl rfl 12 (by decide) (hts _ kX4_book_1) (fun _ h9 => h9) rfl dX4_book_47 ?_
          refine lv_iload_n hx hb dX4_book_50 rfl (lv_at hl 1 rfl) ?_
          obtain ⟨z_12, h⟩ := q_grd_ok h
          refine va_iald hx hb hK hP 6 0 rfl rfl z_12 dX4_book_51 ?_
          refine lv_aload_n hx hb dX4_book_52 rfl (lv_at hl 0 rfl) ?_
          refine lv_iload_n hx hb dX4_book_53 rfl (lv_at hl 2 rfl) ?_
          refine lv_iconst (v := 1) hx hb dX4_book_54 (by decide) ?_
          obtain ⟨r_13, hc_14, h⟩ := q_bd_ok h
          refine q_ci (r := r_13) (va_runV (As := [.int v2, .int (1 : Int32)]) (rest := [.int (F 6 v1.toNatClampNeg), .int (((40 : Int32) * v1) + v4), .ref (q 8)]) ⟨hx, hb, hml, hown, hts⟩ (c_X4_it l D y t q _ N F G v2 (1 : Int32) r_13 hc_14) (cwV 2 hts gX4_book_X4_it rfl rfl rfl eX4_it ⟨Nat.le_of_ble_eq_true rfl, Nat.le_of_ble_eq_true rfl⟩) ⟨q_blind, (va_recv hK hP (ci := 4) (q0 := 0) rfl rfl), (q_pre hP hK hZ hD hA hS [0, 1, 2, 3, 4, 5, 6, 7, 8] rfl (by decide))⟩ rfl rfl hl.1 rfl (lv_room (Nat.le_of_ble_eq_true rfl)) dX4_book_55 ⟨Nat.zero_le _, Nat.zero_le _⟩) hP hD hA hS [0, 1, 2, 3, 4, 5, 6, 7, 8] rfl (by decide) rfl (fun H locs hP hD hS => ?_)
          have hP : va_P D vwCl (wM y q F G) H := hP
          have hD : va_D A (wM y q F G) := hD
          refine lv_i2l hx hb dX4_book_58 rfl ?_
          obtain ⟨r_15, hc_16, h⟩ := q_bd_ok h
          refine q_cl (r := r_15) (va_runS (As := [.int (F 6 v1.toNatClampNeg), .long (r_13.toInt64)]) (rest := [.int (((40 : Int32) * v1) + v4), .ref (q 8)]) ⟨hx, hb, hml, hown, hts⟩ (c_X4_cutTo l D y t q _ N (F 6 v1.toNatClampNeg) (r_13.toInt64) r_15 hc_16) (va_cwS 2 hts gX4_book_X4_cutTo rfl rfl rfl eX4_cutTo ⟨Nat.le_of_ble_eq_true rfl, Nat.le_of_ble_eq_true rfl⟩) ⟨q_blind, (q_pre hP hK hZ hD hA hS [] rfl (by decide))⟩ rfl rfl hl.1 rfl (lv_room (Nat.le_of_ble_eq_true rfl)) dX4_book_59 ⟨Nat.zero_le _, Nat.zero_le _⟩) hP hD hA hS [] rfl (by decide) rfl (fun H locs hP hD hS => ?_)
          have hP : va_P D vwCl (wM y q F G) H := hP
          have hD : va_D A (wM y q F G) := hD
          obtain ⟨z_17, h⟩ := q_grd_ok h
          obtain ⟨G_18, eG_18, h⟩ := q_let_ok h
          refine va_last hx hb hK hP hD hS 8 2 rfl rfl z_17 dX4_book_62 (fun H locs hP hD hS => ?_)
          have hP : va_P D vwCl (wM y q F G_18) H := by rw [eG_18]; exact hP
          have hD : va_D A (wM y q F G_18) := by rw [eG_18]; exact hD
          refine lv_aload_n hx hb dX4_book_63 rfl (lv_at hl 0 rfl) ?_
          obtain ⟨F_19, hc_20, h⟩ := q_bd_ok h
          refine q_cv (va_runV (As := []) (rest := []) ⟨hx, hb, hml, hown, hts⟩ (c_X4_goes l D y t q _ N F G_18 F_19 hc_20) (cwV 0 hts gX4_book_X4_goes rfl rfl rfl eX4_goes ⟨Nat.le_of_ble_eq_true rfl, Nat.le_of_ble_eq_true rfl⟩) ⟨q_blind, (va_recv hK hP (ci := 4) (q0 := 0) rfl rfl), (q_pre hP hK hZ hD hA hS [0, 1, 2, 3, 4, 5, 6, 7, 8] rfl (by decide))⟩ rfl rfl hl.1 rfl (lv_room (Nat.le_of_ble_eq_true rfl)) dX4_book_64 ⟨Nat.zero_le _, Nat.zero_le _⟩) hP hD hA hS [0, 1, 2, 3, 4, 5, 6, 7, 8] rfl (by decide) rfl (fun H locs hP hD hS => ?_)
          have hP : va_P D vwCl (wM y q F_19 G_18) H := hP
          have hD : va_D A (wM y q F_19 G_18) := hD
          obtain ⟨x_21, ex_21, h⟩ := q_let_ok h
          refine lv_iinc (v := x_21) (lv' := [(4, .int x_21), (0, .ref (q 0)), (1, .int v1), (2, .int v2)]) hx hb dX4_book_67 hl (k := 3) rfl (by rw [ex_21]; rfl) (by decide) rfl (fun ls hl => ?_)
          refine lv_goto (tgt := 24) hx hb dX4_book_70 (by decide) ?_
          exact ih24_6 x_21 F_19 G_18 K24_6 _ _ _ hP hD hS (lv_sub hl [1, 2, 3, 0] rfl) h
    exact L24_6 p1 p2 N (0 : Int32) F_4 G K24_6 _ _ _ hP hD hS (lv_sub hl [2, 3, 4, 0] rfl) hL6
  · have h := q_f c_3 h
    refine lv_aload_n hx hb dX4_book_11 rfl (lv_at hl 1 rfl) ?_
    refine lv_iload_n hx hb dX4_book_12 rfl (lv_at hl 0 rfl) ?_
    obtain ⟨r_25, F_26, hc_27, h⟩ := q_bd2_ok h
    refine q_ci (r := r_25) (va_runV (As := [.int r_1]) (rest := []) ⟨hx, hb, hml, hown, hts⟩ (c_X4_finds l D y t q _ N F G r_1 (r_25, F_26) hc_27) (cwV 1 hts gX4_book_X4_finds rfl rfl rfl eX4_finds ⟨Nat.le_of_ble_eq_true rfl, Nat.le_of_ble_eq_true rfl⟩) ⟨q_blind, (va_recv hK hP (ci := 4) (q0 := 0) rfl rfl), (q_pre hP hK hZ hD hA hS [0, 1, 2, 3, 4, 5, 6, 7, 8] rfl (by decide))⟩ rfl rfl hl.1 rfl (lv_room (Nat.le_of_ble_eq_true rfl)) dX4_book_13 ⟨Nat.zero_le _, Nat.zero_le _⟩) hP hD hA hS [0, 1, 2, 3, 4, 5, 6, 7, 8] rfl (by decide) rfl (fun H locs hP hD hS => ?_)
    have hP : va_P D vwCl (wM y q F_26 G) H := hP
    have hD : va_D A (wM y q F_26 G) := hD
    have e9 := Option.some.inj h
    exact q_iret hx hb hr hlocks hK hP hD hS dX4_book_16 (by first | rw [← e9] | rfl) (by first | rw [← e9] | rfl)
theorem eX4_book : yX4_book.cls = RX4 ∧ yX4_book.cls ≠ "java/lang/invoke/MethodHandle" ∧ yX4_book.cls ≠ "java/lang/invoke/VarHandle" ∧ (parseMethodDescriptor yX4_book.desc).map (fun d => d.parameters.length) = some 2 := by decide +kernel
theorem uX4_isBook_X4 : ∀ w ∈ u_ws RX4 TX4 15, w ∈ wsX4_isBook := by decide +kernel
theorem kX4_isBook_1 : Cond.fieldLink RX4 31 "BeamSeatsModel" "cells" "[J" ∈ wsX4_isBook := List.mem_of_getElem? (i := 2) (by decide +kernel)
theorem kX4_isBook_2 : Cond.fieldLink RX4 28 "BeamSeatsModel" "sizeOf" "[I" ∈ wsX4_isBook := List.mem_of_getElem? (i := 1) (by decide +kernel)
def f_X4_isBook_L5 (N : Nat) (G : Nat → Int64) (v1 : Int32) (v2 : Int32) : Nat → Int32 → Int32 → (Nat → Nat → Int32) → Option (Int32 × Int32 × (Nat → Nat → Int32))
  | 0, _, _, _ => none
  | k + 1, v3, v4, F =>
    q_grd v1 4 (
    if (F 7 v1.toNatClampNeg) ≤ v4 then
      some (v3, v4, F)
    else
      if v3 = 0 then
        some (v3, v4, F)
      else
        q_grd (((40 : Int32) * v1) + v4) 160 (
        q_bd (f_X4_it N F G v2 (1 : Int32)) (fun r_9 =>
        if (lg_cmp (G (((40 : Int32) * v1) + v4).toNatClampNeg) (r_9.toInt64)) = 0 then
          q_bd (f_X4_goes N F G) (fun F_15 =>
          q_let (v4 + 1) (fun x_17 =>
          f_X4_isBook_L5 N G v1 v2 k (1 : Int32) x_17 F_15))
        else
          q_bd (f_X4_goes N F G) (fun F_12 =>
          q_let (v4 + 1) (fun x_14 =>
          f_X4_isBook_L5 N G v1 v2 k (0 : Int32) x_14 F_12)))))
def f_X4_isBook_B59 (N : Nat) (F : Nat → Nat → Int32) (G : Nat → Int64) (v3 : Int32) : Option (Int32 × (Nat → Nat → Int32)) :=
  q_bd (f_X4_putsBack N F G) (fun F_18 =>
  q_gb v3 (some (v3, F_18)))
def f_X4_isBook (N : Nat) (F : Nat → Nat → Int32) (G : Nat → Int64) (p1 : Int32) (p2 : Int32) : Option (Int32 × (Nat → Nat → Int32)) :=
  q_bd3 (f_X4_isBook_L5 N G p1 p2 N (1 : Int32) (0 : Int32) F) (fun x_2 x_3 F_4 =>
  f_X4_isBook_B59 N F_4 G x_2)
set_option maxHeartbeats 4000000 in
set_option maxRecDepth 100000 in
theorem c_X4_isBook (l : Launch) (D : va_G) (y : Nat → ClassId) (t : Nat → Nat) (q : Nat → Nat) (sz N : Nat) (F : Nat → Nat → Int32) (G : Nat → Int64) (p1 : Int32) (p2 : Int32) (res : Int32 × (Nat → Nat → Int32)) (h : f_X4_isBook N F G p1 p2 = some res) : Met l yX4_isBook wsX4_isBook ({ frames := 6, cells := 0, slots := 0, locals := 134 } : Room) (pPre D y t [.ref (q 0), .int p1, .int p2] (wM y q F G) sz) (pQi D y (res.1) (wM y q (res.2) G) (va_A (wM y q F G) sz)) 0 0 (va_A (wM y q F G) sz) := by
  refine q_start (Qc := (fun A => pQi D y (res.1) (wM y q (res.2) G) A)) (cc := cX4_isBook) (maxL := 5) (ret := (some .boolean)) (by decide) rfl (Nat.le_of_ble_eq_true rfl) ?_
  intro p e s m below meth c A ls hx hb hr hts hown hlocks hmn hml hP hK hZ hD hA hS hl
  have hl : lv_has ls 5 [(0, .ref (q 0)), (1, .int p1), (2, .int p2)] := hl
  have hown : s.vm.findClass RX4 = some m.cls := hown
  have B59 : ∀ (F : Nat → Nat → Int32) (G : Nat → Int64) (v3 : Int32) (H : Heap) (locs : List Loc) (ls : Array Slot), va_P D vwCl (wM y q F G) H → va_D A (wM y q F G) → va_S A s.heap H locs → lv_has ls 5 [(0, .ref (q 0)), (3, .int v3)] → f_X4_isBook_B59 N F G v3 = some res → W p l e ({ frames := 6, cells := 0, slots := 0, locals := 134 } : Room) s m ([.ref (q 0), .int p1, .int p2] : List Value).toArray below meth c H locs 0 0 (MQ below (pQi D y (res.1) (wM y q (res.2) G) A) ([.ref (q 0), .int p1, .int p2] : List Value).toArray s 0 0 A) (F0 m 59 ls []) := by
    intro F G v3 H locs ls hP hD hS hl h
    unfold f_X4_isBook_B59 at h
    refine lv_aload_n hx hb dX4_isBook_59 rfl (lv_at hl 0 rfl) ?_
    obtain ⟨F_18, hc_19, h⟩ := q_bd_ok h
    refine q_cv (va_runV (As := []) (rest := []) ⟨hx, hb, hml, hown, hts⟩ (c_X4_putsBack l D y t q _ N F G F_18 hc_19) (cwV 0 hts gX4_isBook_X4_putsBack rfl rfl rfl eX4_putsBack ⟨Nat.le_of_ble_eq_true rfl, Nat.le_of_ble_eq_true rfl⟩) ⟨q_blind, (va_recv hK hP (ci := 4) (q0 := 0) rfl rfl), (q_pre hP hK hZ hD hA hS [0, 1, 2, 3, 4, 5, 6, 7, 8] rfl (by decide))⟩ rfl rfl hl.1 rfl (lv_room (Nat.le_of_ble_eq_true rfl)) dX4_isBook_60 ⟨Nat.zero_le _, Nat.zero_le _⟩) hP hD hA hS [0, 1, 2, 3, 4, 5, 6, 7, 8] rfl (by decide) rfl (fun H locs hP hD hS => ?_)
    have hP : va_P D vwCl (wM y q F_18 G) H := hP
    have hD : va_D A (wM y q F_18 G) := hD
    refine lv_iload_n hx hb dX4_isBook_63 rfl (lv_at hl 1 rfl) ?_
    obtain ⟨hg9, h⟩ := q_gb_ok h
    have e9 := Option.some.inj h
    exact q_zret hx hb hr hlocks hK hP hD hS dX4_isBook_64 (q_gb_nar hg9) (by first | rw [← e9] | rfl) (by first | rw [← e9] | rfl)
  unfold f_X4_isBook at h
  refine lv_iconst (v := 1) hx hb dX4_isBook_0 (by decide) ?_
  refine lv_istore_n (lv' := [(3, .int (1 : Int32)), (0, .ref (q 0)), (1, .int p1), (2, .int p2)]) hx hb dX4_isBook_1 rfl hl (by decide) rfl (fun ls hl => ?_)
  refine lv_iconst (v := 0) hx hb dX4_isBook_2 (by decide) ?_
  refine lv_istore (lv' := [(4, .int (0 : Int32)), (3, .int (1 : Int32)), (0, .ref (q 0)), (1, .int p1), (2, .int p2)]) hx hb dX4_isBook_3 hl (by decide) rfl (fun ls hl => ?_)
  obtain ⟨x_2, x_3, F_4, hL1, h⟩ := q_bd3_ok h
  have K5_1 : ∀ (H : Heap) (locs : List Loc) (ls : Array Slot), va_P D vwCl (wM y q F_4 G) H → va_D A (wM y q F_4 G) → va_S A s.heap H locs → lv_has ls 5 [(0, .ref (q 0)), (1, .int p1), (2, .int p2), (3, .int x_2), (4, .int x_3)] → W p l e ({ frames := 6, cells := 0, slots := 0, locals := 134 } : Room) s m ([.ref (q 0), .int p1, .int p2] : List Value).toArray below meth c H locs 0 0 (MQ below (pQi D y (res.1) (wM y q (res.2) G) A) ([.ref (q 0), .int p1, .int p2] : List Value).toArray s 0 0 A) (F0 m 59 ls []) := by
    intro H locs ls hP hD hS hl
    exact B59 F_4 G x_2 _ _ _ hP hD hS (lv_sub hl [0, 3] rfl) h
  have L5_1 : ∀ (G : Nat → Int64) (v1 : Int32) (v2 : Int32) (k : Nat) (v3 : Int32) (v4 : Int32) (F : Nat → Nat → Int32), (∀ (H : Heap) (locs : List Loc) (ls : Array Slot), va_P D vwCl (wM y q F_4 G) H → va_D A (wM y q F_4 G) → va_S A s.heap H locs → lv_has ls 5 [(0, .ref (q 0)), (1, .int v1), (2, .int v2), (3, .int x_2), (4, .int x_3)] → W p l e ({ frames := 6, cells := 0, slots := 0, locals := 134 } : Room) s m ([.ref (q 0), .int p1, .int p2] : List Value).toArray below meth c H locs 0 0 (MQ below (pQi D y (res.1) (wM y q (res.2) G) A) ([.ref (q 0), .int p1, .int p2] : List Value).toArray s 0 0 A) (F0 m 59 ls [])) → ∀ (H : Heap) (locs : List Loc) (ls : Array Slot), va_P D vwCl (wM y q F G) H → va_D A (wM y q F G) → va_S A s.heap H locs → lv_has ls 5 [(0, .ref (q 0)), (1, .int v1), (2, .int v2), (3, .int v3), (4, .int v4)] → f_X4_isBook_L5 N G v1 v2 k v3 v4 F = some (x_2, x_3, F_4) → W p l e ({ frames := 6, cells := 0, slots := 0, locals := 134 } : Room) s m ([.ref (q 0), .int p1, .int p2] : List Value).toArray below meth c H locs 0 0 (MQ below (pQi D y (res.1) (wM y q (res.2) G) A) ([.ref (q 0), .int p1, .int p2] : List Value).toArray s 0 0 A) (F0 m 5 ls []) := by
    intro G v1 v2 k
    induction k with
    | zero =>
      intro v3 v4 F K5_1 H locs ls hP hD hS hl h
      have h : (none : Option (Int32 × Int32 × (Nat → Nat → Int32))) = some _ := h
      cases h
    | succ k ih5_1 =>
      intro v3 v4 F K5_1 H locs ls hP hD hS hl h
      rw [f_X4_isBook_L5] at h
      refine lv_iload hx hb dX4_isBook_5 (lv_at hl 4 rfl) ?_
      refine lv_aload_n hx hb dX4_isBook_7 rfl (lv_at hl 0 rfl) ?_
      refine va_get (D := D) (ci := 4) (v := .ref (q 7)) (C := RX4) (T := TX4) (N := 15) hx hb hts uX4_isBook_X4 hown hK hP 0 rfl rfl 13 (by decide) (hts _ kX4_isBook_2) (fun _ h9 => h9) rfl dX4_isBook_8 ?_
      refine lv_iload_n hx hb dX4_isBook_11 rfl (lv_at hl 1 rfl) ?_
      obtain ⟨z_5, h⟩ := q_grd_ok h
      refine va_iald hx hb hK hP 7 0 rfl rfl z_5 dX4_isBook_12 ?_
      refine lv_icmp_ge (tgt := 59) hx hb dX4_isBook_13 (by decide) (fun c_6 => ?_) (fun c_6 => ?_)
      · have h := q_t c_6 h
        cases h
        exact K5_1 _ _ _ hP hD hS (lv_sub hl [0, 1, 2, 3, 4] rfl)
      · have h := q_f c_6 h
        refine lv_iload_n hx hb dX4_isBook_16 rfl (lv_at hl 3 rfl) ?_
        refine lv_if_eq (tgt := 59) hx hb dX4_isBook_17 (by decide) (fun c_7 => ?_) (fun c_7 => ?_)
        · have h := q_t c_7 h
          cases h
          exact K5_1 _ _ _ hP hD hS (lv_sub hl [0, 1, 2, 3, 4] rfl)
        · have h := q_f c_7 h
          refine lv_aload_n hx hb dX4_isBook_20 rfl (lv_at hl 0 rfl) ?_
          refine va_get (D := D) (ci := 4) (v := .ref (q 8)) (C := RX4) (T := TX4) (N := 15) hx hb hts uX4_isBook_X4 hown hK hP 0 rfl rfl 14 (by decide) (hts _ kX4_isBook_1) (fun _ h9 => h9) rfl dX4_isBook_21 ?_
          refine lv_bipush (v := 40) hx hb dX4_isBook_24 (by decide) ?_
          refine lv_iload_n hx hb dX4_isBook_26 rfl (lv_at hl 1 rfl) ?_
          refine lv_imul hx hb dX4_isBook_27 ?_
          refine lv_iload hx hb dX4_isBook_28 (lv_at hl 4 rfl) ?_
          refine lv_iadd hx hb dX4_isBook_30 ?_
          obtain ⟨z_8, h⟩ := q_grd_ok h
          refine va_lald hx hb hK hP 8 2 rfl rfl z_8 dX4_isBook_31 ?_
          refine lv_aload_n hx hb dX4_isBook_32 rfl (lv_at hl 0 rfl) ?_
          refine lv_iload_n hx hb dX4_isBook_33 rfl (lv_at hl 2 rfl) ?_
          refine lv_iconst (v := 1) hx hb dX4_isBook_34 (by decide) ?_
          obtain ⟨r_9, hc_10, h⟩ := q_bd_ok h
          refine q_ci (r := r_9) (va_runV (As := [.int v2, .int (1 : Int32)]) (rest := [.long (G (((40 : Int32) * v1) + v4).toNatClampNeg)]) ⟨hx, hb, hml, hown, hts⟩ (c_X4_it l D y t q _ N F G v2 (1 : Int32) r_9 hc_10) (cwV 2 hts gX4_isBook_X4_it rfl rfl rfl eX4_it ⟨Nat.le_of_ble_eq_true rfl, Nat.le_of_ble_eq_true rfl⟩) ⟨q_blind, (va_recv hK hP (ci := 4) (q0 := 0) rfl rfl), (q_pre hP hK hZ hD hA hS [0, 1, 2, 3, 4, 5, 6, 7, 8] rfl (by decide))⟩ rfl rfl hl.1 rfl (lv_room (Nat.le_of_ble_eq_true rfl)) dX4_isBook_35 ⟨Nat.zero_le _, Nat.zero_le _⟩) hP hD hA hS [0, 1, 2, 3, 4, 5, 6, 7, 8] rfl (by decide) rfl (fun H locs hP hD hS => ?_)
          have hP : va_P D vwCl (wM y q F G) H := hP
          have hD : va_D A (wM y q F G) := hD
          refine lv_i2l hx hb dX4_isBook_38 rfl ?_
          refine W.lcmp hx hb dX4_isBook_39 ?_
          refine lv_if_ne (tgt := 47) hx hb dX4_isBook_40 (by decide) (fun c_11 => ?_) (fun c_11 => ?_)
          · have h := q_f c_11 h
            refine lv_iconst (v := 0) hx hb dX4_isBook_47 (by decide) ?_
            refine lv_istore_n (lv' := [(3, .int (0 : Int32)), (0, .ref (q 0)), (1, .int v1), (2, .int v2), (4, .int v4)]) hx hb dX4_isBook_48 rfl hl (by decide) rfl (fun ls hl => ?_)
            refine lv_aload_n hx hb dX4_isBook_49 rfl (lv_at hl 1 rfl) ?_
            obtain ⟨F_12, hc_13, h⟩ := q_bd_ok h
            refine q_cv (va_runV (As := []) (rest := []) ⟨hx, hb, hml, hown, hts⟩ (c_X4_goes l D y t q _ N F G F_12 hc_13) (cwV 0 hts gX4_isBook_X4_goes rfl rfl rfl eX4_goes ⟨Nat.le_of_ble_eq_true rfl, Nat.le_of_ble_eq_true rfl⟩) ⟨q_blind, (va_recv hK hP (ci := 4) (q0 := 0) rfl rfl), (q_pre hP hK hZ hD hA hS [0, 1, 2, 3, 4, 5, 6, 7, 8] rfl (by decide))⟩ rfl rfl hl.1 rfl (lv_room (Nat.le_of_ble_eq_true rfl)) dX4_isBook_50 ⟨Nat.zero_le _, Nat.zero_le _⟩) hP hD hA hS [0, 1, 2, 3, 4, 5, 6, 7, 8] rfl (by decide) rfl (fun H locs hP hD hS => ?_)
            have hP : va_P D vwCl (wM y q F_12 G) H := hP
            have hD : va_D A (wM y q F_12 G) := hD
            obtain ⟨x_14, ex_14, h⟩ := q_let_ok h
            refine lv_iinc (v := x_14) (lv' := [(4, .int x_14), (3, .int (0 : Int32)), (0, .ref (q 0)), (1, .int v1), (2, .int v2)]) hx hb dX4_isBook_53 hl (k := 4) rfl (by rw [ex_14]; rfl) (by decide) rfl (fun ls hl => ?_)
            refine lv_goto (tgt := 5) hx hb dX4_isBook_56 (by decide) ?_
            exact ih5_1 (0 : Int32) x_14 F_12 K5_1 _ _ _ hP hD hS (lv_sub hl [2, 3, 4, 1, 0] rfl) h
          · have h := q_t c_11 h
            refine lv_iconst (v := 1) hx hb dX4_isBook_43 (by decide) ?_
            refine lv_goto (tgt := 48) hx hb dX4_isBook_44 (by decide) ?_
            refine lv_istore_n (lv' := [(3, .int (1 : Int32)), (0, .ref (q 0)), (1, .int v1), (2, .int v2), (4, .int v4)]) hx hb dX4_isBook_48 rfl hl (by decide) rfl (fun ls hl => ?_)
            refine lv_aload_n hx hb dX4_isBook_49 rfl (lv_at hl 1 rfl) ?_
            obtain ⟨F_15, hc_16, h⟩ := q_bd_ok h
            refine q_cv (va_runV (As := []) (rest := []) ⟨hx, hb, hml, hown, hts⟩ (c_X4_goes l D y t q _ N F G F_15 hc_16) (cwV 0 hts gX4_isBook_X4_goes rfl rfl rfl eX4_goes ⟨Nat.le_of_ble_eq_true rfl, Nat.le_of_ble_eq_true rfl⟩) ⟨q_blind, (va_recv hK hP (ci := 4) (q0 := 0) rfl rfl), (q_pre hP hK hZ hD hA hS [0, 1, 2, 3, 4, 5, 6, 7, 8] rfl (by decide))⟩ rfl rfl hl.1 rfl (lv_room (Nat.le_of_ble_eq_true rfl)) dX4_isBook_50 ⟨Nat.zero_le _, Nat.zero_le _⟩) hP hD hA hS [0, 1, 2, 3, 4, 5, 6, 7, 8] rfl (by decide) rfl (fun H locs hP hD hS => ?_)
            have hP : va_P D vwCl (wM y q F_15 G) H := hP
            have hD : va_D A (wM y q F_15 G) := hD
            obtain ⟨x_17, ex_17, h⟩ := q_let_ok h
            refine lv_iinc (v := x_17) (lv' := [(4, .int x_17), (3, .int (1 : Int32)), (0, .ref (q 0)), (1, .int v1), (2, .int v2)]) hx hb dX4_isBook_53 hl (k := 4) rfl (by rw [ex_17]; rfl) (by decide) rfl (fun ls hl => ?_)
            refine lv_goto (tgt := 5) hx hb dX4_isBook_56 (by decide) ?_
            exact ih5_1 (1 : Int32) x_17 F_15 K5_1 _ _ _ hP hD hS (lv_sub hl [2, 3, 4, 1, 0] rfl) h
  exact L5_1 G p1 p2 N (1 : Int32) (0 : Int32) F K5_1 _ _ _ hP hD hS (lv_sub hl [2, 3, 4, 1, 0] rfl) hL1
theorem eX4_isBook : yX4_isBook.cls = RX4 ∧ yX4_isBook.cls ≠ "java/lang/invoke/MethodHandle" ∧ yX4_isBook.cls ≠ "java/lang/invoke/VarHandle" ∧ (parseMethodDescriptor yX4_isBook.desc).map (fun d => d.parameters.length) = some 2 := by decide +kernel
theorem uX4_read_X4 : ∀ w ∈ u_ws RX4 TX4 15, w ∈ wsX4_read := by decide +kernel
theorem kX4_read_1 : Cond.fieldLink RX4 9 "BeamSeatsModel" "m" "[I" ∈ wsX4_read := List.mem_of_getElem? (i := 1) (by decide +kernel)
def f_X4_read_L27 (N : Nat) (G : Nat → Int64) (v1 : Int32) (v2 : Int32) : Nat → Int32 → Int32 → (Nat → Nat → Int32) → Option (Int32 × Int32 × (Nat → Nat → Int32))
  | 0, _, _, _ => none
  | k + 1, v4, v5, F =>
    if (60 : Int32) ≤ v5 then
      some (v4, v5, F)
    else
      q_bd (f_X4_put N F G v2 (0 : Int32) (v5 / (10 : Int32))) (fun F_11 =>
      q_grd (2 : Int32) 69 (
      q_let (q_up F_11 1 (2 : Int32).toNatClampNeg ((1 : Int32) + (v5 - v5 / (10 : Int32) * (10 : Int32)))) (fun F_14 =>
      q_bd2 (f_X4_isBook N F_14 G v1 v2) (fun r_15 F_16 =>
      if r_15 = 0 then
        q_let (v4 + (0 : Int32)) (fun x_19 =>
        q_let (v5 + 1) (fun x_20 =>
        f_X4_read_L27 N G v1 v2 k x_19 x_20 F_16))
      else
        q_let (v4 + (1 : Int32)) (fun x_21 =>
        q_let (v5 + 1) (fun x_22 =>
        f_X4_read_L27 N G v1 v2 k x_21 x_22 F_16))))))
def f_X4_read (N : Nat) (F : Nat → Nat → Int32) (G : Nat → Int64) (p1 : Int32) (p2 : Int32) : Option (Int32 × (Nat → Nat → Int32)) :=
  q_bd (f_X4_notAsked N F G p1 p2) (fun r_1 =>
  if r_1 = 0 then
    q_bd (f_X4_thinks N F G) (fun F_4 =>
    q_bd3 (f_X4_read_L27 N G p1 p2 N (0 : Int32) (0 : Int32) F_4) (fun x_7 x_8 F_9 =>
    some (x_7, F_9)))
  else
    q_bd2 (f_X4_finds N F G r_1) (fun r_23 F_24 =>
    some (r_23, F_24)))
set_option maxHeartbeats 4000000 in
set_option maxRecDepth 100000 in
theorem c_X4_read (l : Launch) (D : va_G) (y : Nat → ClassId) (t : Nat → Nat) (q : Nat → Nat) (sz N : Nat) (F : Nat → Nat → Int32) (G : Nat → Int64) (p1 : Int32) (p2 : Int32) (res : Int32 × (Nat → Nat → Int32)) (h : f_X4_read N F G p1 p2 = some res) : Met l yX4_read wsX4_read ({ frames := 7, cells := 0, slots := 0, locals := 158 } : Room) (pPre D y t [.ref (q 0), .int p1, .int p2] (wM y q F G) sz) (pQi D y (res.1) (wM y q (res.2) G) (va_A (wM y q F G) sz)) 0 0 (va_A (wM y q F G) sz) := by
  refine q_start (Qc := (fun A => pQi D y (res.1) (wM y q (res.2) G) A)) (cc := cX4_read) (maxL := 6) (ret := (some .int)) (by decide) rfl (Nat.le_of_ble_eq_true rfl) ?_
  intro p e s m below meth c A ls hx hb hr hts hown hlocks hmn hml hP hK hZ hD hA hS hl
  have hl : lv_has ls 6 [(0, .ref (q 0)), (1, .int p1), (2, .int p2)] := hl
  have hown : s.vm.findClass RX4 = some m.cls := hown
  unfold f_X4_read at h
  refine lv_aload_n hx hb dX4_read_0 rfl (lv_at hl 0 rfl) ?_
  refine lv_iload_n hx hb dX4_read_1 rfl (lv_at hl 1 rfl) ?_
  refine lv_iload_n hx hb dX4_read_2 rfl (lv_at hl 2 rfl) ?_
  obtain ⟨r_1, hc_2, h⟩ := q_bd_ok h
  refine q_ci (r := r_1) (va_runV (As := [.int p1, .int p2]) (rest := []) ⟨hx, hb, hml, hown, hts⟩ (c_X4_notAsked l D y t q _ N F G p1 p2 r_1 hc_2) (cwV 2 hts gX4_read_X4_notAsked rfl rfl rfl eX4_notAsked ⟨Nat.le_of_ble_eq_true rfl, Nat.le_of_ble_eq_true rfl⟩) ⟨q_blind, (va_recv hK hP (ci := 4) (q0 := 0) rfl rfl), (q_pre hP hK hZ hD hA hS [0, 1, 2, 3, 4, 5, 6, 7, 8] rfl (by decide))⟩ rfl rfl hl.1 rfl (lv_room (Nat.le_of_ble_eq_true rfl)) dX4_read_3 ⟨Nat.zero_le _, Nat.zero_le _⟩) hP hD hA hS [0, 1, 2, 3, 4, 5, 6, 7, 8] rfl (by decide) rfl (fun H locs hP hD hS => ?_)
  have hP : va_P D vwCl (wM y q F G) H := hP
  have hD : va_D A (wM y q F G) := hD
  refine lv_istore_n (lv' := [(3, .int r_1), (0, .ref (q 0)), (1, .int p1), (2, .int p2)]) hx hb dX4_read_6 rfl hl (by decide) rfl (fun ls hl => ?_)
  refine lv_iload_n hx hb dX4_read_7 rfl (lv_at hl 0 rfl) ?_
  refine lv_if_eq (tgt := 17) hx hb dX4_read_8 (by decide) (fun c_3 => ?_) (fun c_3 => ?_)
  · have h := q_t c_3 h
    refine lv_aload_n hx hb dX4_read_17 rfl (lv_at hl 1 rfl) ?_
    obtain ⟨F_4, hc_5, h⟩ := q_bd_ok h
    refine q_cv (va_runV (As := []) (rest := []) ⟨hx, hb, hml, hown, hts⟩ (c_X4_thinks l D y t q _ N F G F_4 hc_5) (cwV 0 hts gX4_read_X4_thinks rfl rfl rfl eX4_thinks ⟨Nat.le_of_ble_eq_true rfl, Nat.le_of_ble_eq_true rfl⟩) ⟨q_blind, (va_recv hK hP (ci := 4) (q0 := 0) rfl rfl), (q_pre hP hK hZ hD hA hS [0, 1, 2, 3, 4, 5, 6, 7, 8] rfl (by decide))⟩ rfl rfl hl.1 rfl (lv_room (Nat.le_of_ble_eq_true rfl)) dX4_read_18 ⟨Nat.zero_le _, Nat.zero_le _⟩) hP hD hA hS [0, 1, 2, 3, 4, 5, 6, 7, 8] rfl (by decide) rfl (fun H locs hP hD hS => ?_)
    have hP : va_P D vwCl (wM y q F_4 G) H := hP
    have hD : va_D A (wM y q F_4 G) := hD
    refine lv_iconst (v := 0) hx hb dX4_read_21 (by decide) ?_
    refine lv_istore (lv' := [(4, .int (0 : Int32)), (3, .int r_1), (0, .ref (q 0)), (1, .int p1), (2, .int p2)]) hx hb dX4_read_22 hl (by decide) rfl (fun ls hl => ?_)
    refine lv_iconst (v := 0) hx hb dX4_read_24 (by decide) ?_
    refine lv_istore (lv' := [(5, .int (0 : Int32)), (4, .int (0 : Int32)), (3, .int r_1), (0, .ref (q 0)), (1, .int p1), (2, .int p2)]) hx hb dX4_read_25 hl (by decide) rfl (fun ls hl => ?_)
    obtain ⟨x_7, x_8, F_9, hL6, h⟩ := q_bd3_ok h
    have K27_6 : ∀ (H : Heap) (locs : List Loc) (ls : Array Slot), va_P D vwCl (wM y q F_9 G) H → va_D A (wM y q F_9 G) → va_S A s.heap H locs → lv_has ls 6 [(0, .ref (q 0)), (1, .int p1), (2, .int p2), (4, .int x_7), (5, .int x_8)] → W p l e ({ frames := 7, cells := 0, slots := 0, locals := 158 } : Room) s m ([.ref (q 0), .int p1, .int p2] : List Value).toArray below meth c H locs 0 0 (MQ below (pQi D y (res.1) (wM y q (res.2) G) A) ([.ref (q 0), .int p1, .int p2] : List Value).toArray s 0 0 A) (F0 m 83 ls []) := by
      intro H locs ls hP hD hS hl
      refine lv_iload hx hb dX4_read_83 (lv_at hl 3 rfl) ?_
      have e9 := Option.some.inj h
      exact q_iret hx hb hr hlocks hK hP hD hS dX4_read_85 (by first | rw [← e9] | rfl) (by first | rw [← e9] | rfl)
    have L27_6 : ∀ (G : Nat → Int64) (v1 : Int32) (v2 : Int32) (k : Nat) (v4 : Int32) (v5 : Int32) (F : Nat → Nat → Int32), (∀ (H : Heap) (locs : List Loc) (ls : Array Slot), va_P D vwCl (wM y q F_9 G) H → va_D A (wM y q F_9 G) → va_S A s.heap H locs → lv_has ls 6 [(0, .ref (q 0)), (1, .int v1), (2, .int v2), (4, .int x_7), (5, .int x_8)] → W p l e ({ frames := 7, cells := 0, slots := 0, locals := 158 } : Room) s m ([.ref (q 0), .int p1, .int p2] : List Value).toArray below meth c H locs 0 0 (MQ below (pQi D y (res.1) (wM y q (res.2) G) A) ([.ref (q 0), .int p1, .int p2] : List Value).toArray s 0 0 A) (F0 m 83 ls [])) → ∀ (H : Heap) (locs : List Loc) (ls : Array Slot), va_P D vwCl (wM y q F G) H → va_D A (wM y q F G) → va_S A s.heap H locs → lv_has ls 6 [(0, .ref (q 0)), (1, .int v1), (2, .int v2), (4, .int v4), (5, .int v5)] → f_X4_read_L27 N G v1 v2 k v4 v5 F = some (x_7, x_8, F_9) → W p l e ({ frames := 7, cells := 0, slots := 0, locals := 158 } : Room) s m ([.ref (q 0), .int p1, .int p2] : List Value).toArray below meth c H locs 0 0 (MQ below (pQi D y (res.1) (wM y q (res.2) G) A) ([.ref (q 0), .int p1, .int p2] : List Value).toArray s 0 0 A) (F0 m 27 ls []) := by
      intro G v1 v2 k
      induction k with
      | zero =>
        intro v4 v5 F K27_6 H locs ls hP hD hS hl h
        have h : (none : Option (Int32 × Int32 × (Nat → Nat → Int32))) = some _ := h
        cases h
      | succ k ih27_6 =>
        intro v4 v5 F K27_6 H locs ls hP hD hS hl h
        rw [f_X4_read_L27] at h
        refine lv_iload hx hb dX4_read_27 (lv_at hl 4 rfl) ?_
        refine lv_bipush (v := 60) hx hb dX4_read_29 (by decide) ?_
        refine lv_icmp_ge (tgt := 83) hx hb dX4_read_31 (by decide) (fun c_10 => ?_) (fun c_10 => ?_)
        · have h := q_t c_10 h
          cases h
          exact K27_6 _ _ _ hP hD hS (lv_sub hl [0, 1, 2, 3, 4] rfl)
        · have h := q_f c_10 h
          refine lv_aload_n hx hb dX4_read_34 rfl (lv_at hl 0 rfl) ?_
          refine lv_iload_n hx hb dX4_read_35 rfl (lv_at hl 2 rfl) ?_
          refine lv_iconst (v := 0) hx hb dX4_read_36 (by decide) ?_
          refine lv_iload hx hb dX4_read_37 (lv_at hl 4 rfl) ?_
          refine lv_bipush (v := 10) hx hb dX4_read_39 (by decide) ?_
          refine lv_idiv hx hb dX4_read_41 (by decide) ?_
          obtain ⟨F_11, hc_12, h⟩ := q_bd_ok h
          refine q_cv (va_runV (As := [.int v2, .int (0 : Int32), .int (v5 / (10 : Int32))]) (rest := []) ⟨hx, hb, hml, hown, hts⟩ (c_X4_put l D y t q _ N F G v2 (0 : Int32) (v5 / (10 : Int32)) F_11 hc_12) (cwV 3 hts gX4_read_X4_put rfl rfl rfl eX4_put ⟨Nat.le_of_ble_eq_true rfl, Nat.le_of_ble_eq_true rfl⟩) ⟨q_blind, (va_recv hK hP (ci := 4) (q0 := 0) rfl rfl), (q_pre hP hK hZ hD hA hS [0, 1, 2, 3, 4, 5, 6, 7, 8] rfl (by decide))⟩ rfl rfl hl.1 rfl (lv_room (Nat.le_of_ble_eq_true rfl)) dX4_read_42 ⟨Nat.zero_le _, Nat.zero_le _⟩) hP hD hA hS [0, 1, 2, 3, 4, 5, 6, 7, 8] rfl (by decide) rfl (fun H locs hP hD hS => ?_)
          have hP : va_P D vwCl (wM y q F_11 G) H := hP
          have hD : va_D A (wM y q F_11 G) := hD
          refine lv_aload_n hx hb dX4_read_45 rfl (lv_at hl 0 rfl) ?_
          refine va_get (D := D) (ci := 4) (v := .ref (q 1)) (C := RX4) (T := TX4) (N := 15) hx hb hts uX4_read_X4 hown hK hP 0 rfl rfl 0 (by decide) (hts _ kX4_read_1) (fun _ h9 => h9) rfl dX4_read_46 ?_
          refine lv_iconst (v := 2) hx hb dX4_read_49 (by decide) ?_
          refine lv_iconst (v := 1) hx hb dX4_read_50 (by decide) ?_
          refine lv_iload hx hb dX4_read_51 (lv_at hl 4 rfl) ?_
          refine lv_bipush (v := 10) hx hb dX4_read_53 (by decide) ?_
          refine lv_irem hx hb dX4_read_55 (by decide) ?_
          refine lv_iadd hx hb dX4_read_56 ?_
          obtain ⟨z_13, h⟩ := q_grd_ok h
          obtain ⟨F_14, eF_14, h⟩ := q_let_ok h
          refine va_iast hx hb hK hP hD hS 1 0 rfl rfl z_13 dX4_read_57 (fun H locs hP hD hS => ?_)
          have hP : va_P D vwCl (wM y q F_14 G) H := by rw [eF_14]; exact hP
          have hD : va_D A (wM y q F_14 G) := by rw [eF_14]; exact hD
          refine lv_iload hx hb dX4_read_58 (lv_at hl 3 rfl) ?_
          refine lv_aload_n hx hb dX4_read_60 rfl (lv_at hl 0 rfl) ?_
          refine lv_iload_n hx hb dX4_read_61 rfl (lv_at hl 1 rfl) ?_
          refine lv_iload_n hx hb dX4_read_62 rfl (lv_at hl 2 rfl) ?_
          obtain ⟨r_15, F_16, hc_17, h⟩ := q_bd2_ok h
          refine q_ci (r := r_15) (va_runV (As := [.int v1, .int v2]) (rest := [.int v4]) ⟨hx, hb, hml, hown, hts⟩ (c_X4_isBook l D y t q _ N F_14 G v1 v2 (r_15, F_16) hc_17) (cwV 2 hts gX4_read_X4_isBook rfl rfl rfl eX4_isBook ⟨Nat.le_of_ble_eq_true rfl, Nat.le_of_ble_eq_true rfl⟩) ⟨q_blind, (va_recv hK hP (ci := 4) (q0 := 0) rfl rfl), (q_pre hP hK hZ hD hA hS [0, 1, 2, 3, 4, 5, 6, 7, 8] rfl (by decide))⟩ rfl rfl hl.1 rfl (lv_room (Nat.le_of_ble_eq_true rfl)) dX4_read_63 ⟨Nat.zero_le _, Nat.zero_le _⟩) hP hD hA hS [0, 1, 2, 3, 4, 5, 6, 7, 8] rfl (by decide) rfl (fun H locs hP hD hS => ?_)
          have hP : va_P D vwCl (wM y q F_16 G) H := hP
          have hD : va_D A (wM y q F_16 G) := hD
          refine lv_if_eq (tgt := 73) hx hb dX4_read_66 (by decide) (fun c_18 => ?_) (fun c_18 => ?_)
          · have h := q_t c_18 h
            refine lv_iconst (v := 0) hx hb dX4_read_73 (by decide) ?_
            refine lv_iadd hx hb dX4_read_74 ?_
            refine lv_topi (fun x_19 ex_19 => ?_)
            have h := q_let_at ex_19 h
            refine lv_istore (lv' := [(4, .int x_19), (0, .ref (q 0)), (1, .int v1), (2, .int v2), (5, .int v5)]) hx hb dX4_read_75 hl (by decide) rfl (fun ls hl => ?_)
            obtain ⟨x_20, ex_20, h⟩ := q_let_ok h
            refine lv_iinc (v := x_20) (lv' := [(5, .int x_20), (4, .int x_19), (0, .ref (q 0)), (1, .int v1), (2, .int v2)]) hx hb dX4_read_77 hl (k := 4) rfl (by rw [ex_20]; rfl) (by decide) rfl (fun ls hl => ?_)
            refine lv_goto (tgt := 27) hx hb dX4_read_80 (by decide) ?_
            exact ih27_6 x_19 x_20 F_16 K27_6 _ _ _ hP hD hS (lv_sub hl [2, 3, 4, 1, 0] rfl) h
          · have h := q_f c_18 h
            refine lv_iconst (v := 1) hx hb dX4_read_69 (by decide) ?_
            refine lv_goto (tgt := 74) hx hb dX4_read_70 (by decide) ?_
            refine lv_iadd hx hb dX4_read_74 ?_
            refine lv_topi (fun x_21 ex_21 => ?_)
            have h := q_let_at ex_21 h
            refine lv_istore (lv' := [(4, .int x_21), (0, .ref (q 0)), (1, .int v1), (2, .int v2), (5, .int v5)]) hx hb dX4_read_75 hl (by decide) rfl (fun ls hl => ?_)
            obtain ⟨x_22, ex_22, h⟩ := q_let_ok h
            refine lv_iinc (v := x_22) (lv' := [(5, .int x_22), (4, .int x_21), (0, .ref (q 0)), (1, .int v1), (2, .int v2)]) hx hb dX4_read_77 hl (k := 4) rfl (by rw [ex_22]; rfl) (by decide) rfl (fun ls hl => ?_)
            refine lv_goto (tgt := 27) hx hb dX4_read_80 (by decide) ?_
            exact ih27_6 x_21 x_22 F_16 K27_6 _ _ _ hP hD hS (lv_sub hl [2, 3, 4, 1, 0] rfl) h
    exact L27_6 G p1 p2 N (0 : Int32) (0 : Int32) F_4 K27_6 _ _ _ hP hD hS (lv_sub hl [3, 4, 5, 1, 0] rfl) hL6
  · have h := q_f c_3 h
    refine lv_aload_n hx hb dX4_read_11 rfl (lv_at hl 1 rfl) ?_
    refine lv_iload_n hx hb dX4_read_12 rfl (lv_at hl 0 rfl) ?_
    obtain ⟨r_23, F_24, hc_25, h⟩ := q_bd2_ok h
    refine q_ci (r := r_23) (va_runV (As := [.int r_1]) (rest := []) ⟨hx, hb, hml, hown, hts⟩ (c_X4_finds l D y t q _ N F G r_1 (r_23, F_24) hc_25) (cwV 1 hts gX4_read_X4_finds rfl rfl rfl eX4_finds ⟨Nat.le_of_ble_eq_true rfl, Nat.le_of_ble_eq_true rfl⟩) ⟨q_blind, (va_recv hK hP (ci := 4) (q0 := 0) rfl rfl), (q_pre hP hK hZ hD hA hS [0, 1, 2, 3, 4, 5, 6, 7, 8] rfl (by decide))⟩ rfl rfl hl.1 rfl (lv_room (Nat.le_of_ble_eq_true rfl)) dX4_read_13 ⟨Nat.zero_le _, Nat.zero_le _⟩) hP hD hA hS [0, 1, 2, 3, 4, 5, 6, 7, 8] rfl (by decide) rfl (fun H locs hP hD hS => ?_)
    have hP : va_P D vwCl (wM y q F_24 G) H := hP
    have hD : va_D A (wM y q F_24 G) := hD
    have e9 := Option.some.inj h
    exact q_iret hx hb hr hlocks hK hP hD hS dX4_read_16 (by first | rw [← e9] | rfl) (by first | rw [← e9] | rfl)
theorem eX4_read : yX4_read.cls = RX4 ∧ yX4_read.cls ≠ "java/lang/invoke/MethodHandle" ∧ yX4_read.cls ≠ "java/lang/invoke/VarHandle" ∧ (parseMethodDescriptor yX4_read.desc).map (fun d => d.parameters.length) = some 2 := by decide +kernel
theorem uX4_image_X4 : ∀ w ∈ u_ws RX4 TX4 15, w ∈ wsX4_image := by decide +kernel
theorem kX4_image_1 : Cond.fieldLink RX4 231 "BeamSeatsModel" "isKept" "Z" ∈ wsX4_image := List.mem_of_getElem? (i := 3) (by decide +kernel)
theorem kX4_image_2 : Cond.fieldLink RX4 13 "BeamSeatsModel" "kept" "[I" ∈ wsX4_image := List.mem_of_getElem? (i := 2) (by decide +kernel)
theorem kX4_image_3 : Cond.fieldLink RX4 9 "BeamSeatsModel" "m" "[I" ∈ wsX4_image := List.mem_of_getElem? (i := 1) (by decide +kernel)
def f_X4_image (N : Nat) (F : Nat → Nat → Int32) (G : Nat → Int64) : Option (Int32 × (Nat → Nat → Int32)) :=
  q_bd (f_X4_copyAll N (F 1) (F 2)) (fun E_1 =>
  q_let (va_up F 2 E_1) (fun F_3 =>
  q_let (q_up F_3 0 0 (1 : Int32)) (fun F_4 =>
  some ((1 : Int32), F_4))))
set_option maxHeartbeats 4000000 in
set_option maxRecDepth 100000 in
theorem c_X4_image (l : Launch) (D : va_G) (y : Nat → ClassId) (t : Nat → Nat) (q : Nat → Nat) (sz N : Nat) (F : Nat → Nat → Int32) (G : Nat → Int64) (res : Int32 × (Nat → Nat → Int32)) (h : f_X4_image N F G = some res) : Met l yX4_image wsX4_image ({ frames := 1, cells := 0, slots := 0, locals := 22 } : Room) (pPre D y t [.ref (q 0)] (wM y q F G) sz) (pQi D y (res.1) (wM y q (res.2) G) (va_A (wM y q F G) sz)) 0 0 (va_A (wM y q F G) sz) := by
  refine q_start (Qc := (fun A => pQi D y (res.1) (wM y q (res.2) G) A)) (cc := cX4_image) (maxL := 1) (ret := (some .int)) (by decide) rfl (Nat.le_of_ble_eq_true rfl) ?_
  intro p e s m below meth c A ls hx hb hr hts hown hlocks hmn hml hP hK hZ hD hA hS hl
  have hl : lv_has ls 1 [(0, .ref (q 0))] := hl
  have hown : s.vm.findClass RX4 = some m.cls := hown
  unfold f_X4_image at h
  refine lv_aload_n hx hb dX4_image_0 rfl (lv_at hl 0 rfl) ?_
  refine va_get (D := D) (ci := 4) (v := .ref (q 1)) (C := RX4) (T := TX4) (N := 15) hx hb hts uX4_image_X4 hown hK hP 0 rfl rfl 0 (by decide) (hts _ kX4_image_3) (fun _ h9 => h9) rfl dX4_image_1 ?_
  refine lv_aload_n hx hb dX4_image_4 rfl (lv_at hl 0 rfl) ?_
  refine va_get (D := D) (ci := 4) (v := .ref (q 2)) (C := RX4) (T := TX4) (N := 15) hx hb hts uX4_image_X4 hown hK hP 0 rfl rfl 1 (by decide) (hts _ kX4_image_2) (fun _ h9 => h9) rfl dX4_image_5 ?_
  obtain ⟨E_1, hc_2, h⟩ := q_bd_ok h
  obtain ⟨F_3, eF_3, h⟩ := q_let_ok h
  refine q_cv (va_runS (As := [.ref (q 1), .ref (q 2)]) (rest := []) ⟨hx, hb, hml, hown, hts⟩ (c_X4_copyAll l D y t (fun k => if k < 1 then q 1 else q 2) _ N (F 1) (F 2) E_1 hc_2) (va_cwS 2 hts gX4_image_X4_copyAll rfl rfl rfl eX4_copyAll ⟨Nat.le_of_ble_eq_true rfl, Nat.le_of_ble_eq_true rfl⟩) ⟨q_blind, (q_pre hP hK hZ hD hA hS [1, 2] rfl (by decide))⟩ rfl rfl hl.1 rfl (lv_room (Nat.le_of_ble_eq_true rfl)) dX4_image_8 ⟨Nat.zero_le _, Nat.zero_le _⟩) hP hD hA hS [1, 2] rfl (by decide) rfl (fun H locs hP hD hS => ?_)
  have hP : va_P D vwCl (wM y q F_3 G) H := by rw [eF_3]; exact hP
  have hD : va_D A (wM y q F_3 G) := by rw [eF_3]; exact hD
  refine lv_aload_n hx hb dX4_image_11 rfl (lv_at hl 0 rfl) ?_
  refine lv_iconst (v := 1) hx hb dX4_image_12 (by decide) ?_
  obtain ⟨F_4, eF_4, h⟩ := q_let_ok h
  refine va_put (D := D) (ci := 4) (v := .int (1 : Int32)) (ty := .boolean) (C := RX4) (T := TX4) (N := 15) hx hb hts uX4_image_X4 tyX4 tyX4_ok nmX4 hown hK hP hD hS 0 rfl rfl 3 (by decide) (hts _ kX4_image_1) (fun _ h9 => h9) rfl (by decide +kernel) rfl rfl (Nat.le_of_ble_eq_true rfl) dX4_image_13 (fun H locs hP hD hS => ?_)
  have hP : va_P D vwCl (wM y q F_4 G) H := by rw [eF_4]; exact hP
  have hD : va_D A (wM y q F_4 G) := by rw [eF_4]; exact hD
  refine lv_iconst (v := 1) hx hb dX4_image_16 (by decide) ?_
  have e9 := Option.some.inj h
  exact q_iret hx hb hr hlocks hK hP hD hS dX4_image_17 (by first | rw [← e9] | rfl) (by first | rw [← e9] | rfl)
theorem eX4_image : yX4_image.cls = RX4 ∧ yX4_image.cls ≠ "java/lang/invoke/MethodHandle" ∧ yX4_image.cls ≠ "java/lang/invoke/VarHandle" ∧ (parseMethodDescriptor yX4_image.desc).map (fun d => d.parameters.length) = some 0 := by decide +kernel
theorem uX4_undo_X4 : ∀ w ∈ u_ws RX4 TX4 15, w ∈ wsX4_undo := by decide +kernel
theorem kX4_undo_1 : Cond.fieldLink RX4 9 "BeamSeatsModel" "m" "[I" ∈ wsX4_undo := List.mem_of_getElem? (i := 4) (by decide +kernel)
theorem kX4_undo_2 : Cond.fieldLink RX4 13 "BeamSeatsModel" "kept" "[I" ∈ wsX4_undo := List.mem_of_getElem? (i := 3) (by decide +kernel)
theorem kX4_undo_3 : Cond.constant RX4 36 (-1000000004) ∈ wsX4_undo := List.mem_of_getElem? (i := 2) (by decide +kernel)
theorem kX4_undo_4 : Cond.fieldLink RX4 231 "BeamSeatsModel" "isKept" "Z" ∈ wsX4_undo := List.mem_of_getElem? (i := 1) (by decide +kernel)
def f_X4_undo (N : Nat) (F : Nat → Nat → Int32) (G : Nat → Int64) : Option (Int32 × (Nat → Nat → Int32)) :=
  if (F 0 0) = 0 then
    q_bd2 (f_X4_finds N F G (-1000000004 : Int32)) (fun r_6 F_7 =>
    some (r_6, F_7))
  else
    q_bd (f_X4_copyAll N (F 2) (F 1)) (fun E_2 =>
    q_let (va_up F 1 E_2) (fun F_4 =>
    q_grd (4 : Int32) 69 (
    some ((F_4 1 (4 : Int32).toNatClampNeg), F_4))))
set_option maxHeartbeats 4000000 in
set_option maxRecDepth 100000 in
theorem c_X4_undo (l : Launch) (D : va_G) (y : Nat → ClassId) (t : Nat → Nat) (q : Nat → Nat) (sz N : Nat) (F : Nat → Nat → Int32) (G : Nat → Int64) (res : Int32 × (Nat → Nat → Int32)) (h : f_X4_undo N F G = some res) : Met l yX4_undo wsX4_undo ({ frames := 1, cells := 0, slots := 0, locals := 22 } : Room) (pPre D y t [.ref (q 0)] (wM y q F G) sz) (pQi D y (res.1) (wM y q (res.2) G) (va_A (wM y q F G) sz)) 0 0 (va_A (wM y q F G) sz) := by
  refine q_start (Qc := (fun A => pQi D y (res.1) (wM y q (res.2) G) A)) (cc := cX4_undo) (maxL := 1) (ret := (some .int)) (by decide) rfl (Nat.le_of_ble_eq_true rfl) ?_
  intro p e s m below meth c A ls hx hb hr hts hown hlocks hmn hml hP hK hZ hD hA hS hl
  have hl : lv_has ls 1 [(0, .ref (q 0))] := hl
  have hown : s.vm.findClass RX4 = some m.cls := hown
  unfold f_X4_undo at h
  refine lv_aload_n hx hb dX4_undo_0 rfl (lv_at hl 0 rfl) ?_
  refine va_get (D := D) (ci := 4) (v := .int (F 0 0)) (C := RX4) (T := TX4) (N := 15) hx hb hts uX4_undo_X4 hown hK hP 0 rfl rfl 3 (by decide) (hts _ kX4_undo_4) (fun _ h9 => h9) rfl dX4_undo_1 ?_
  refine lv_if_ne (tgt := 14) hx hb dX4_undo_4 (by decide) (fun c_1 => ?_) (fun c_1 => ?_)
  · have h := q_f c_1 h
    refine lv_aload_n hx hb dX4_undo_14 rfl (lv_at hl 0 rfl) ?_
    refine va_get (D := D) (ci := 4) (v := .ref (q 2)) (C := RX4) (T := TX4) (N := 15) hx hb hts uX4_undo_X4 hown hK hP 0 rfl rfl 1 (by decide) (hts _ kX4_undo_2) (fun _ h9 => h9) rfl dX4_undo_15 ?_
    refine lv_aload_n hx hb dX4_undo_18 rfl (lv_at hl 0 rfl) ?_
    refine va_get (D := D) (ci := 4) (v := .ref (q 1)) (C := RX4) (T := TX4) (N := 15) hx hb hts uX4_undo_X4 hown hK hP 0 rfl rfl 0 (by decide) (hts _ kX4_undo_1) (fun _ h9 => h9) rfl dX4_undo_19 ?_
    obtain ⟨E_2, hc_3, h⟩ := q_bd_ok h
    obtain ⟨F_4, eF_4, h⟩ := q_let_ok h
    refine q_cv (va_runS (As := [.ref (q 2), .ref (q 1)]) (rest := []) ⟨hx, hb, hml, hown, hts⟩ (c_X4_copyAll l D y t (fun k => if k < 1 then q 2 else q 1) _ N (F 2) (F 1) E_2 hc_3) (va_cwS 2 hts gX4_undo_X4_copyAll rfl rfl rfl eX4_copyAll ⟨Nat.le_of_ble_eq_true rfl, Nat.le_of_ble_eq_true rfl⟩) ⟨q_blind, (q_pre hP hK hZ hD hA hS [2, 1] rfl (by decide))⟩ rfl rfl hl.1 rfl (lv_room (Nat.le_of_ble_eq_true rfl)) dX4_undo_22 ⟨Nat.zero_le _, Nat.zero_le _⟩) hP hD hA hS [2, 1] rfl (by decide) rfl (fun H locs hP hD hS => ?_)
    have hP : va_P D vwCl (wM y q F_4 G) H := by rw [eF_4]; exact hP
    have hD : va_D A (wM y q F_4 G) := by rw [eF_4]; exact hD
    refine lv_aload_n hx hb dX4_undo_25 rfl (lv_at hl 0 rfl) ?_
    refine va_get (D := D) (ci := 4) (v := .ref (q 1)) (C := RX4) (T := TX4) (N := 15) hx hb hts uX4_undo_X4 hown hK hP 0 rfl rfl 0 (by decide) (hts _ kX4_undo_1) (fun _ h9 => h9) rfl dX4_undo_26 ?_
    refine lv_iconst (v := 4) hx hb dX4_undo_29 (by decide) ?_
    obtain ⟨z_5, h⟩ := q_grd_ok h
    refine va_iald hx hb hK hP 1 0 rfl rfl z_5 dX4_undo_30 ?_
    have e9 := Option.some.inj h
    exact q_iret hx hb hr hlocks hK hP hD hS dX4_undo_31 (by first | rw [← e9] | rfl) (by first | rw [← e9] | rfl)
  · have h := q_t c_1 h
    refine lv_aload_n hx hb dX4_undo_7 rfl (lv_at hl 0 rfl) ?_
    refine lv_ldc (v := -1000000004) hx hb hown (hts _ kX4_undo_3) dX4_undo_8 ?_
    obtain ⟨r_6, F_7, hc_8, h⟩ := q_bd2_ok h
    refine q_ci (r := r_6) (va_runV (As := [.int (-1000000004 : Int32)]) (rest := []) ⟨hx, hb, hml, hown, hts⟩ (c_X4_finds l D y t q _ N F G (-1000000004 : Int32) (r_6, F_7) hc_8) (cwV 1 hts gX4_undo_X4_finds rfl rfl rfl eX4_finds ⟨Nat.le_of_ble_eq_true rfl, Nat.le_of_ble_eq_true rfl⟩) ⟨q_blind, (va_recv hK hP (ci := 4) (q0 := 0) rfl rfl), (q_pre hP hK hZ hD hA hS [0, 1, 2, 3, 4, 5, 6, 7, 8] rfl (by decide))⟩ rfl rfl hl.1 rfl (lv_room (Nat.le_of_ble_eq_true rfl)) dX4_undo_10 ⟨Nat.zero_le _, Nat.zero_le _⟩) hP hD hA hS [0, 1, 2, 3, 4, 5, 6, 7, 8] rfl (by decide) rfl (fun H locs hP hD hS => ?_)
    have hP : va_P D vwCl (wM y q F_7 G) H := hP
    have hD : va_D A (wM y q F_7 G) := hD
    have e9 := Option.some.inj h
    exact q_iret hx hb hr hlocks hK hP hD hS dX4_undo_13 (by first | rw [← e9] | rfl) (by first | rw [← e9] | rfl)
theorem eX4_undo : yX4_undo.cls = RX4 ∧ yX4_undo.cls ≠ "java/lang/invoke/MethodHandle" ∧ yX4_undo.cls ≠ "java/lang/invoke/VarHandle" ∧ (parseMethodDescriptor yX4_undo.desc).map (fun d => d.parameters.length) = some 0 := by decide +kernel
theorem uX4_tear_X4 : ∀ w ∈ u_ws RX4 TX4 15, w ∈ wsX4_tear := by decide +kernel
theorem kX4_tear_1 : Cond.fieldLink RX4 231 "BeamSeatsModel" "isKept" "Z" ∈ wsX4_tear := List.mem_of_getElem? (i := 1) (by decide +kernel)
def f_X4_tear (N : Nat) (F : Nat → Nat → Int32) (G : Nat → Int64) : Option (Int32 × (Nat → Nat → Int32)) :=
  if (F 0 0) = 0 then
    q_let (q_up F 0 0 (0 : Int32)) (fun F_2 =>
    some ((0 : Int32), F_2))
  else
    q_let (q_up F 0 0 (0 : Int32)) (fun F_3 =>
    some ((1 : Int32), F_3))
set_option maxHeartbeats 4000000 in
set_option maxRecDepth 100000 in
theorem c_X4_tear (l : Launch) (D : va_G) (y : Nat → ClassId) (t : Nat → Nat) (q : Nat → Nat) (sz N : Nat) (F : Nat → Nat → Int32) (G : Nat → Int64) (res : Int32 × (Nat → Nat → Int32)) (h : f_X4_tear N F G = some res) : Met l yX4_tear wsX4_tear ({ frames := 0, cells := 0, slots := 0, locals := 0 } : Room) (pPre D y t [.ref (q 0)] (wM y q F G) sz) (pQi D y (res.1) (wM y q (res.2) G) (va_A (wM y q F G) sz)) 0 0 (va_A (wM y q F G) sz) := by
  refine q_start (Qc := (fun A => pQi D y (res.1) (wM y q (res.2) G) A)) (cc := cX4_tear) (maxL := 2) (ret := (some .int)) (by decide) rfl (Nat.le_of_ble_eq_true rfl) ?_
  intro p e s m below meth c A ls hx hb hr hts hown hlocks hmn hml hP hK hZ hD hA hS hl
  have hl : lv_has ls 2 [(0, .ref (q 0))] := hl
  have hown : s.vm.findClass RX4 = some m.cls := hown
  unfold f_X4_tear at h
  refine lv_aload_n hx hb dX4_tear_0 rfl (lv_at hl 0 rfl) ?_
  refine va_get (D := D) (ci := 4) (v := .int (F 0 0)) (C := RX4) (T := TX4) (N := 15) hx hb hts uX4_tear_X4 hown hK hP 0 rfl rfl 3 (by decide) (hts _ kX4_tear_1) (fun _ h9 => h9) rfl dX4_tear_1 ?_
  refine lv_if_eq (tgt := 11) hx hb dX4_tear_4 (by decide) (fun c_1 => ?_) (fun c_1 => ?_)
  · have h := q_t c_1 h
    refine lv_iconst (v := 0) hx hb dX4_tear_11 (by decide) ?_
    refine lv_istore_n (lv' := [(1, .int (0 : Int32)), (0, .ref (q 0))]) hx hb dX4_tear_12 rfl hl (by decide) rfl (fun ls hl => ?_)
    refine lv_aload_n hx hb dX4_tear_13 rfl (lv_at hl 1 rfl) ?_
    refine lv_iconst (v := 0) hx hb dX4_tear_14 (by decide) ?_
    obtain ⟨F_2, eF_2, h⟩ := q_let_ok h
    refine va_put (D := D) (ci := 4) (v := .int (0 : Int32)) (ty := .boolean) (C := RX4) (T := TX4) (N := 15) hx hb hts uX4_tear_X4 tyX4 tyX4_ok nmX4 hown hK hP hD hS 0 rfl rfl 3 (by decide) (hts _ kX4_tear_1) (fun _ h9 => h9) rfl (by decide +kernel) rfl rfl (Nat.le_of_ble_eq_true rfl) dX4_tear_15 (fun H locs hP hD hS => ?_)
    have hP : va_P D vwCl (wM y q F_2 G) H := by rw [eF_2]; exact hP
    have hD : va_D A (wM y q F_2 G) := by rw [eF_2]; exact hD
    refine lv_iload_n hx hb dX4_tear_18 rfl (lv_at hl 0 rfl) ?_
    have e9 := Option.some.inj h
    exact q_iret hx hb hr hlocks hK hP hD hS dX4_tear_19 (by first | rw [← e9] | rfl) (by first | rw [← e9] | rfl)
  · have h := q_f c_1 h
    refine lv_iconst (v := 1) hx hb dX4_tear_7 (by decide) ?_
    refine lv_goto (tgt := 12) hx hb dX4_tear_8 (by decide) ?_
    refine lv_istore_n (lv' := [(1, .int (1 : Int32)), (0, .ref (q 0))]) hx hb dX4_tear_12 rfl hl (by decide) rfl (fun ls hl => ?_)
    refine lv_aload_n hx hb dX4_tear_13 rfl (lv_at hl 1 rfl) ?_
    refine lv_iconst (v := 0) hx hb dX4_tear_14 (by decide) ?_
    obtain ⟨F_3, eF_3, h⟩ := q_let_ok h
    refine va_put (D := D) (ci := 4) (v := .int (0 : Int32)) (ty := .boolean) (C := RX4) (T := TX4) (N := 15) hx hb hts uX4_tear_X4 tyX4 tyX4_ok nmX4 hown hK hP hD hS 0 rfl rfl 3 (by decide) (hts _ kX4_tear_1) (fun _ h9 => h9) rfl (by decide +kernel) rfl rfl (Nat.le_of_ble_eq_true rfl) dX4_tear_15 (fun H locs hP hD hS => ?_)
    have hP : va_P D vwCl (wM y q F_3 G) H := by rw [eF_3]; exact hP
    have hD : va_D A (wM y q F_3 G) := by rw [eF_3]; exact hD
    refine lv_iload_n hx hb dX4_tear_18 rfl (lv_at hl 0 rfl) ?_
    have e9 := Option.some.inj h
    exact q_iret hx hb hr hlocks hK hP hD hS dX4_tear_19 (by first | rw [← e9] | rfl) (by first | rw [← e9] | rfl)
theorem eX4_tear : yX4_tear.cls = RX4 ∧ yX4_tear.cls ≠ "java/lang/invoke/MethodHandle" ∧ yX4_tear.cls ≠ "java/lang/invoke/VarHandle" ∧ (parseMethodDescriptor yX4_tear.desc).map (fun d => d.parameters.length) = some 0 := by decide +kernel
theorem uX4_sums_X4 : ∀ w ∈ u_ws RX4 TX4 15, w ∈ wsX4_sums := by decide +kernel
theorem kX4_sums_1 : Cond.fieldLink RX4 9 "BeamSeatsModel" "m" "[I" ∈ wsX4_sums := List.mem_of_getElem? (i := 1) (by decide +kernel)
def f_X4_sums_L4 (N : Nat) (F : Nat → Nat → Int32) (G : Nat → Int64) (v1 : Int32) : Nat → Int32 → Int32 → Option (Int32 × Int32)
  | 0, _, _ => none
  | k + 1, v2, v3 =>
    q_grd (4 : Int32) 69 (
    if (F 1 (4 : Int32).toNatClampNeg) ≤ v3 then
      some (v2, v3)
    else
      q_bd (f_X4_it N F G v3 v1) (fun r_6 =>
      q_let (v2 + r_6) (fun x_8 =>
      q_let (v3 + 1) (fun x_9 =>
      f_X4_sums_L4 N F G v1 k x_8 x_9))))
def f_X4_sums (N : Nat) (F : Nat → Nat → Int32) (G : Nat → Int64) (p1 : Int32) : Option (Int32) :=
  q_bd2 (f_X4_sums_L4 N F G p1 N (0 : Int32) (0 : Int32)) (fun x_2 x_3 =>
  some x_2)
set_option maxHeartbeats 4000000 in
set_option maxRecDepth 100000 in
theorem c_X4_sums (l : Launch) (D : va_G) (y : Nat → ClassId) (t : Nat → Nat) (q : Nat → Nat) (sz N : Nat) (F : Nat → Nat → Int32) (G : Nat → Int64) (p1 : Int32) (res : Int32) (h : f_X4_sums N F G p1 = some res) : Met l yX4_sums wsX4_sums ({ frames := 1, cells := 0, slots := 0, locals := 22 } : Room) (pPre D y t [.ref (q 0), .int p1] (wM y q F G) sz) (pQi D y res (wM y q F G) (va_A (wM y q F G) sz)) 0 0 (va_A (wM y q F G) sz) := by
  refine q_start (Qc := (fun A => pQi D y res (wM y q F G) A)) (cc := cX4_sums) (maxL := 4) (ret := (some .int)) (by decide) rfl (Nat.le_of_ble_eq_true rfl) ?_
  intro p e s m below meth c A ls hx hb hr hts hown hlocks hmn hml hP hK hZ hD hA hS hl
  have hl : lv_has ls 4 [(0, .ref (q 0)), (1, .int p1)] := hl
  have hown : s.vm.findClass RX4 = some m.cls := hown
  unfold f_X4_sums at h
  refine lv_iconst (v := 0) hx hb dX4_sums_0 (by decide) ?_
  refine lv_istore_n (lv' := [(2, .int (0 : Int32)), (0, .ref (q 0)), (1, .int p1)]) hx hb dX4_sums_1 rfl hl (by decide) rfl (fun ls hl => ?_)
  refine lv_iconst (v := 0) hx hb dX4_sums_2 (by decide) ?_
  refine lv_istore_n (lv' := [(3, .int (0 : Int32)), (2, .int (0 : Int32)), (0, .ref (q 0)), (1, .int p1)]) hx hb dX4_sums_3 rfl hl (by decide) rfl (fun ls hl => ?_)
  obtain ⟨x_2, x_3, hL1, h⟩ := q_bd2_ok h
  have K4_1 : ∀ (H : Heap) (locs : List Loc) (ls : Array Slot), va_P D vwCl (wM y q F G) H → va_D A (wM y q F G) → va_S A s.heap H locs → lv_has ls 4 [(0, .ref (q 0)), (1, .int p1), (2, .int x_2), (3, .int x_3)] → W p l e ({ frames := 1, cells := 0, slots := 0, locals := 22 } : Room) s m ([.ref (q 0), .int p1] : List Value).toArray below meth c H locs 0 0 (MQ below (pQi D y res (wM y q F G) A) ([.ref (q 0), .int p1] : List Value).toArray s 0 0 A) (F0 m 29 ls []) := by
    intro H locs ls hP hD hS hl
    refine lv_iload_n hx hb dX4_sums_29 rfl (lv_at hl 2 rfl) ?_
    have e9 := Option.some.inj h
    exact q_iret hx hb hr hlocks hK hP hD hS dX4_sums_30 (by first | rw [← e9] | rfl) (by first | rw [← e9] | rfl)
  have L4_1 : ∀ (F : Nat → Nat → Int32) (G : Nat → Int64) (v1 : Int32) (k : Nat) (v2 : Int32) (v3 : Int32), (∀ (H : Heap) (locs : List Loc) (ls : Array Slot), va_P D vwCl (wM y q F G) H → va_D A (wM y q F G) → va_S A s.heap H locs → lv_has ls 4 [(0, .ref (q 0)), (1, .int v1), (2, .int x_2), (3, .int x_3)] → W p l e ({ frames := 1, cells := 0, slots := 0, locals := 22 } : Room) s m ([.ref (q 0), .int p1] : List Value).toArray below meth c H locs 0 0 (MQ below (pQi D y res (wM y q F G) A) ([.ref (q 0), .int p1] : List Value).toArray s 0 0 A) (F0 m 29 ls [])) → ∀ (H : Heap) (locs : List Loc) (ls : Array Slot), va_P D vwCl (wM y q F G) H → va_D A (wM y q F G) → va_S A s.heap H locs → lv_has ls 4 [(0, .ref (q 0)), (1, .int v1), (2, .int v2), (3, .int v3)] → f_X4_sums_L4 N F G v1 k v2 v3 = some (x_2, x_3) → W p l e ({ frames := 1, cells := 0, slots := 0, locals := 22 } : Room) s m ([.ref (q 0), .int p1] : List Value).toArray below meth c H locs 0 0 (MQ below (pQi D y res (wM y q F G) A) ([.ref (q 0), .int p1] : List Value).toArray s 0 0 A) (F0 m 4 ls []) := by
    intro F G v1 k
    induction k with
    | zero =>
      intro v2 v3 K4_1 H locs ls hP hD hS hl h
      have h : (none : Option (Int32 × Int32)) = some _ := h
      cases h
    | succ k ih4_1 =>
      intro v2 v3 K4_1 H locs ls hP hD hS hl h
      rw [f_X4_sums_L4] at h
      refine lv_iload_n hx hb dX4_sums_4 rfl (lv_at hl 3 rfl) ?_
      refine lv_aload_n hx hb dX4_sums_5 rfl (lv_at hl 0 rfl) ?_
      refine va_get (D := D) (ci := 4) (v := .ref (q 1)) (C := RX4) (T := TX4) (N := 15) hx hb hts uX4_sums_X4 hown hK hP 0 rfl rfl 0 (by decide) (hts _ kX4_sums_1) (fun _ h9 => h9) rfl dX4_sums_6 ?_
      refine lv_iconst (v := 4) hx hb dX4_sums_9 (by decide) ?_
      obtain ⟨z_4, h⟩ := q_grd_ok h
      refine va_iald hx hb hK hP 1 0 rfl rfl z_4 dX4_sums_10 ?_
      refine lv_icmp_ge (tgt := 29) hx hb dX4_sums_11 (by decide) (fun c_5 => ?_) (fun c_5 => ?_)
      · have h := q_t c_5 h
        cases h
        exact K4_1 _ _ _ hP hD hS (lv_sub hl [0, 1, 2, 3] rfl)
      · have h := q_f c_5 h
        refine lv_iload_n hx hb dX4_sums_14 rfl (lv_at hl 2 rfl) ?_
        refine lv_aload_n hx hb dX4_sums_15 rfl (lv_at hl 0 rfl) ?_
        refine lv_iload_n hx hb dX4_sums_16 rfl (lv_at hl 3 rfl) ?_
        refine lv_iload_n hx hb dX4_sums_17 rfl (lv_at hl 1 rfl) ?_
        obtain ⟨r_6, hc_7, h⟩ := q_bd_ok h
        refine q_ci (r := r_6) (va_runV (As := [.int v3, .int v1]) (rest := [.int v2]) ⟨hx, hb, hml, hown, hts⟩ (c_X4_it l D y t q _ N F G v3 v1 r_6 hc_7) (cwV 2 hts gX4_sums_X4_it rfl rfl rfl eX4_it ⟨Nat.le_of_ble_eq_true rfl, Nat.le_of_ble_eq_true rfl⟩) ⟨q_blind, (va_recv hK hP (ci := 4) (q0 := 0) rfl rfl), (q_pre hP hK hZ hD hA hS [0, 1, 2, 3, 4, 5, 6, 7, 8] rfl (by decide))⟩ rfl rfl hl.1 rfl (lv_room (Nat.le_of_ble_eq_true rfl)) dX4_sums_18 ⟨Nat.zero_le _, Nat.zero_le _⟩) hP hD hA hS [0, 1, 2, 3, 4, 5, 6, 7, 8] rfl (by decide) rfl (fun H locs hP hD hS => ?_)
        have hP : va_P D vwCl (wM y q F G) H := hP
        have hD : va_D A (wM y q F G) := hD
        refine lv_iadd hx hb dX4_sums_21 ?_
        refine lv_topi (fun x_8 ex_8 => ?_)
        have h := q_let_at ex_8 h
        refine lv_istore_n (lv' := [(2, .int x_8), (0, .ref (q 0)), (1, .int v1), (3, .int v3)]) hx hb dX4_sums_22 rfl hl (by decide) rfl (fun ls hl => ?_)
        obtain ⟨x_9, ex_9, h⟩ := q_let_ok h
        refine lv_iinc (v := x_9) (lv' := [(3, .int x_9), (2, .int x_8), (0, .ref (q 0)), (1, .int v1)]) hx hb dX4_sums_23 hl (k := 3) rfl (by rw [ex_9]; rfl) (by decide) rfl (fun ls hl => ?_)
        refine lv_goto (tgt := 4) hx hb dX4_sums_26 (by decide) ?_
        exact ih4_1 x_8 x_9 K4_1 _ _ _ hP hD hS (lv_sub hl [2, 3, 1, 0] rfl) h
  exact L4_1 F G p1 N (0 : Int32) (0 : Int32) K4_1 _ _ _ hP hD hS (lv_sub hl [2, 3, 1, 0] rfl) hL1
theorem eX4_sums : yX4_sums.cls = RX4 ∧ yX4_sums.cls ≠ "java/lang/invoke/MethodHandle" ∧ yX4_sums.cls ≠ "java/lang/invoke/VarHandle" ∧ (parseMethodDescriptor yX4_sums.desc).map (fun d => d.parameters.length) = some 1 := by decide +kernel
theorem uX4_count_X4 : ∀ w ∈ u_ws RX4 TX4 15, w ∈ wsX4_count := by decide +kernel
theorem kX4_count_1 : Cond.fieldLink RX4 9 "BeamSeatsModel" "m" "[I" ∈ wsX4_count := List.mem_of_getElem? (i := 1) (by decide +kernel)
theorem kX4_count_2 : Cond.fieldLink RX4 159 "BeamSeatsModel" "taped" "I" ∈ wsX4_count := List.mem_of_getElem? (i := 2) (by decide +kernel)
theorem kX4_count_3 : Cond.constant RX4 35 (-1000000001) ∈ wsX4_count := List.mem_of_getElem? (i := 3) (by decide +kernel)
def f_X4_count (N : Nat) (F : Nat → Nat → Int32) (G : Nat → Int64) (p1 : Int32) : Option (Int32 × (Nat → Nat → Int32)) :=
  if p1 = 0 then
    q_grd (4 : Int32) 69 (
    some ((F 1 (4 : Int32).toNatClampNeg), F))
  else
    if p1 = 1 then
      some ((F 0 1), F)
    else
      if p1 = 2 then
        q_bd (f_X4_sums N F G (4 : Int32)) (fun r_5 =>
        some (r_5, F))
      else
        if p1 = 3 then
          q_bd (f_X4_sums N F G (7 : Int32)) (fun r_8 =>
          some (r_8, F))
        else
          q_bd2 (f_X4_finds N F G (-1000000001 : Int32)) (fun r_10 F_11 =>
          some (r_10, F_11))
set_option maxHeartbeats 4000000 in
set_option maxRecDepth 100000 in
theorem c_X4_count (l : Launch) (D : va_G) (y : Nat → ClassId) (t : Nat → Nat) (q : Nat → Nat) (sz N : Nat) (F : Nat → Nat → Int32) (G : Nat → Int64) (p1 : Int32) (res : Int32 × (Nat → Nat → Int32)) (h : f_X4_count N F G p1 = some res) : Met l yX4_count wsX4_count ({ frames := 2, cells := 0, slots := 0, locals := 45 } : Room) (pPre D y t [.ref (q 0), .int p1] (wM y q F G) sz) (pQi D y (res.1) (wM y q (res.2) G) (va_A (wM y q F G) sz)) 0 0 (va_A (wM y q F G) sz) := by
  refine q_start (Qc := (fun A => pQi D y (res.1) (wM y q (res.2) G) A)) (cc := cX4_count) (maxL := 2) (ret := (some .int)) (by decide) rfl (Nat.le_of_ble_eq_true rfl) ?_
  intro p e s m below meth c A ls hx hb hr hts hown hlocks hmn hml hP hK hZ hD hA hS hl
  have hl : lv_has ls 2 [(0, .ref (q 0)), (1, .int p1)] := hl
  have hown : s.vm.findClass RX4 = some m.cls := hown
  unfold f_X4_count at h
  refine lv_iload_n hx hb dX4_count_0 rfl (lv_at hl 1 rfl) ?_
  by_cases c_1 : p1 = 0
  · have h := q_t c_1 h
    refine lv_tableIn (tgt := 32) (off := 31) hx hb dX4_count_1 (by rw [c_1]; decide) (by rw [c_1]; decide) (by rw [c_1]; rfl) (by decide) ?_
    refine lv_aload_n hx hb dX4_count_32 rfl (lv_at hl 0 rfl) ?_
    refine va_get (D := D) (ci := 4) (v := .ref (q 1)) (C := RX4) (T := TX4) (N := 15) hx hb hts uX4_count_X4 hown hK hP 0 rfl rfl 0 (by decide) (hts _ kX4_count_1) (fun _ h9 => h9) rfl dX4_count_33 ?_
    refine lv_iconst (v := 4) hx hb dX4_count_36 (by decide) ?_
    obtain ⟨z_2, h⟩ := q_grd_ok h
    refine va_iald hx hb hK hP 1 0 rfl rfl z_2 dX4_count_37 ?_
    have e9 := Option.some.inj h
    exact q_iret hx hb hr hlocks hK hP hD hS dX4_count_38 (by first | rw [← e9] | rfl) (by first | rw [← e9] | rfl)
  · have h := q_f c_1 h
    by_cases c_3 : p1 = 1
    · have h := q_t c_3 h
      refine lv_tableIn (tgt := 39) (off := 38) hx hb dX4_count_1 (by rw [c_3]; decide) (by rw [c_3]; decide) (by rw [c_3]; rfl) (by decide) ?_
      refine lv_aload_n hx hb dX4_count_39 rfl (lv_at hl 0 rfl) ?_
      refine va_get (D := D) (ci := 4) (v := .int (F 0 1)) (C := RX4) (T := TX4) (N := 15) hx hb hts uX4_count_X4 hown hK hP 0 rfl rfl 6 (by decide) (hts _ kX4_count_2) (fun _ h9 => h9) rfl dX4_count_40 ?_
      have e9 := Option.some.inj h
      exact q_iret hx hb hr hlocks hK hP hD hS dX4_count_43 (by first | rw [← e9] | rfl) (by first | rw [← e9] | rfl)
    · have h := q_f c_3 h
      by_cases c_4 : p1 = 2
      · have h := q_t c_4 h
        refine lv_tableIn (tgt := 44) (off := 43) hx hb dX4_count_1 (by rw [c_4]; decide) (by rw [c_4]; decide) (by rw [c_4]; rfl) (by decide) ?_
        refine lv_aload_n hx hb dX4_count_44 rfl (lv_at hl 0 rfl) ?_
        refine lv_iconst (v := 4) hx hb dX4_count_45 (by decide) ?_
        obtain ⟨r_5, hc_6, h⟩ := q_bd_ok h
        refine q_ci (r := r_5) (va_runV (As := [.int (4 : Int32)]) (rest := []) ⟨hx, hb, hml, hown, hts⟩ (c_X4_sums l D y t q _ N F G (4 : Int32) r_5 hc_6) (cwV 1 hts gX4_count_X4_sums rfl rfl rfl eX4_sums ⟨Nat.le_of_ble_eq_true rfl, Nat.le_of_ble_eq_true rfl⟩) ⟨q_blind, (va_recv hK hP (ci := 4) (q0 := 0) rfl rfl), (q_pre hP hK hZ hD hA hS [0, 1, 2, 3, 4, 5, 6, 7, 8] rfl (by decide))⟩ rfl rfl hl.1 rfl (lv_room (Nat.le_of_ble_eq_true rfl)) dX4_count_46 ⟨Nat.zero_le _, Nat.zero_le _⟩) hP hD hA hS [0, 1, 2, 3, 4, 5, 6, 7, 8] rfl (by decide) rfl (fun H locs hP hD hS => ?_)
        have hP : va_P D vwCl (wM y q F G) H := hP
        have hD : va_D A (wM y q F G) := hD
        have e9 := Option.some.inj h
        exact q_iret hx hb hr hlocks hK hP hD hS dX4_count_49 (by first | rw [← e9] | rfl) (by first | rw [← e9] | rfl)
      · have h := q_f c_4 h
        by_cases c_7 : p1 = 3
        · have h := q_t c_7 h
          refine lv_tableIn (tgt := 50) (off := 49) hx hb dX4_count_1 (by rw [c_7]; decide) (by rw [c_7]; decide) (by rw [c_7]; rfl) (by decide) ?_
          refine lv_aload_n hx hb dX4_count_50 rfl (lv_at hl 0 rfl) ?_
          refine lv_bipush (v := 7) hx hb dX4_count_51 (by decide) ?_
          obtain ⟨r_8, hc_9, h⟩ := q_bd_ok h
          refine q_ci (r := r_8) (va_runV (As := [.int (7 : Int32)]) (rest := []) ⟨hx, hb, hml, hown, hts⟩ (c_X4_sums l D y t q _ N F G (7 : Int32) r_8 hc_9) (cwV 1 hts gX4_count_X4_sums rfl rfl rfl eX4_sums ⟨Nat.le_of_ble_eq_true rfl, Nat.le_of_ble_eq_true rfl⟩) ⟨q_blind, (va_recv hK hP (ci := 4) (q0 := 0) rfl rfl), (q_pre hP hK hZ hD hA hS [0, 1, 2, 3, 4, 5, 6, 7, 8] rfl (by decide))⟩ rfl rfl hl.1 rfl (lv_room (Nat.le_of_ble_eq_true rfl)) dX4_count_53 ⟨Nat.zero_le _, Nat.zero_le _⟩) hP hD hA hS [0, 1, 2, 3, 4, 5, 6, 7, 8] rfl (by decide) rfl (fun H locs hP hD hS => ?_)
          have hP : va_P D vwCl (wM y q F G) H := hP
          have hD : va_D A (wM y q F G) := hD
          have e9 := Option.some.inj h
          exact q_iret hx hb hr hlocks hK hP hD hS dX4_count_56 (by first | rw [← e9] | rfl) (by first | rw [← e9] | rfl)
        · have h := q_f c_7 h
          have nc_1 := lv_neT c_1 (show ((0 : Int32)).toInt = 0 from by decide)
          have nc_3 := lv_neT c_3 (show ((1 : Int32)).toInt = 1 from by decide)
          have nc_4 := lv_neT c_4 (show ((2 : Int32)).toInt = 2 from by decide)
          have nc_7 := lv_neT c_7 (show ((3 : Int32)).toInt = 3 from by decide)
          refine lv_tableOut (tgt := 57) hx hb dX4_count_1 (by omega) (by decide) ?_
          refine lv_aload_n hx hb dX4_count_57 rfl (lv_at hl 0 rfl) ?_
          refine lv_ldc (v := -1000000001) hx hb hown (hts _ kX4_count_3) dX4_count_58 ?_
          obtain ⟨r_10, F_11, hc_12, h⟩ := q_bd2_ok h
          refine q_ci (r := r_10) (va_runV (As := [.int (-1000000001 : Int32)]) (rest := []) ⟨hx, hb, hml, hown, hts⟩ (c_X4_finds l D y t q _ N F G (-1000000001 : Int32) (r_10, F_11) hc_12) (cwV 1 hts gX4_count_X4_finds rfl rfl rfl eX4_finds ⟨Nat.le_of_ble_eq_true rfl, Nat.le_of_ble_eq_true rfl⟩) ⟨q_blind, (va_recv hK hP (ci := 4) (q0 := 0) rfl rfl), (q_pre hP hK hZ hD hA hS [0, 1, 2, 3, 4, 5, 6, 7, 8] rfl (by decide))⟩ rfl rfl hl.1 rfl (lv_room (Nat.le_of_ble_eq_true rfl)) dX4_count_60 ⟨Nat.zero_le _, Nat.zero_le _⟩) hP hD hA hS [0, 1, 2, 3, 4, 5, 6, 7, 8] rfl (by decide) rfl (fun H locs hP hD hS => ?_)
          have hP : va_P D vwCl (wM y q F_11 G) H := hP
          have hD : va_D A (wM y q F_11 G) := hD
          have e9 := Option.some.inj h
          exact q_iret hx hb hr hlocks hK hP hD hS dX4_count_63 (by first | rw [← e9] | rfl) (by first | rw [← e9] | rfl)
theorem eX4_count : yX4_count.cls = RX4 ∧ yX4_count.cls ≠ "java/lang/invoke/MethodHandle" ∧ yX4_count.cls ≠ "java/lang/invoke/VarHandle" ∧ (parseMethodDescriptor yX4_count.desc).map (fun d => d.parameters.length) = some 1 := by decide +kernel
theorem uX4_status_X4 : ∀ w ∈ u_ws RX4 TX4 15, w ∈ wsX4_status := by decide +kernel
theorem kX4_status_1 : Cond.fieldLink RX4 19 "BeamSeatsModel" "found" "[I" ∈ wsX4_status := List.mem_of_getElem? (i := 2) (by decide +kernel)
theorem kX4_status_2 : Cond.constant RX4 35 (-1000000001) ∈ wsX4_status := List.mem_of_getElem? (i := 1) (by decide +kernel)
def f_X4_status_L22 (N : Nat) (F : Nat → Nat → Int32) (G : Nat → Int64) (v1 : Int32) : Nat → Int32 → Int32 → Option (Int32 × Int32)
  | 0, _, _ => none
  | k + 1, v2, v3 =>
    if (7 : Int32) ≤ v3 then
      some (v2, v3)
    else
      if v1 < 0 then
        q_grd v3 7 (
        q_let (v2 + (F 4 v3.toNatClampNeg)) (fun x_10 =>
        q_let (v3 + 1) (fun x_11 =>
        f_X4_status_L22 N F G v1 k x_10 x_11)))
      else
        if v1 = v3 then
          q_grd v3 7 (
          q_let (v2 + (F 4 v3.toNatClampNeg)) (fun x_16 =>
          q_let (v3 + 1) (fun x_17 =>
          f_X4_status_L22 N F G v1 k x_16 x_17)))
        else
          q_let (v2 + (0 : Int32)) (fun x_13 =>
          q_let (v3 + 1) (fun x_14 =>
          f_X4_status_L22 N F G v1 k x_13 x_14))
def f_X4_status (N : Nat) (F : Nat → Nat → Int32) (G : Nat → Int64) (p1 : Int32) : Option (Int32 × (Nat → Nat → Int32)) :=
  q_bd (f_X4_in N (p1.toInt64) (-1 : Int32) (6 : Int32)) (fun r_1 =>
  if r_1 = 0 then
    q_bd2 (f_X4_finds N F G (-1000000001 : Int32)) (fun r_18 F_19 =>
    some (r_18, F_19))
  else
    q_bd2 (f_X4_status_L22 N F G p1 N (0 : Int32) (0 : Int32)) (fun x_5 x_6 =>
    some (x_5, F)))
set_option maxHeartbeats 4000000 in
set_option maxRecDepth 100000 in
theorem c_X4_status (l : Launch) (D : va_G) (y : Nat → ClassId) (t : Nat → Nat) (q : Nat → Nat) (sz N : Nat) (F : Nat → Nat → Int32) (G : Nat → Int64) (p1 : Int32) (res : Int32 × (Nat → Nat → Int32)) (h : f_X4_status N F G p1 = some res) : Met l yX4_status wsX4_status ({ frames := 1, cells := 0, slots := 0, locals := 23 } : Room) (pPre D y t [.ref (q 0), .int p1] (wM y q F G) sz) (pQi D y (res.1) (wM y q (res.2) G) (va_A (wM y q F G) sz)) 0 0 (va_A (wM y q F G) sz) := by
  refine q_start (Qc := (fun A => pQi D y (res.1) (wM y q (res.2) G) A)) (cc := cX4_status) (maxL := 4) (ret := (some .int)) (by decide) rfl (Nat.le_of_ble_eq_true rfl) ?_
  intro p e s m below meth c A ls hx hb hr hts hown hlocks hmn hml hP hK hZ hD hA hS hl
  have hl : lv_has ls 4 [(0, .ref (q 0)), (1, .int p1)] := hl
  have hown : s.vm.findClass RX4 = some m.cls := hown
  unfold f_X4_status at h
  refine lv_iload_n hx hb dX4_status_0 rfl (lv_at hl 1 rfl) ?_
  refine lv_i2l hx hb dX4_status_1 rfl ?_
  refine lv_iconst (v := -1) hx hb dX4_status_2 (by decide) ?_
  refine lv_bipush (v := 6) hx hb dX4_status_3 (by decide) ?_
  obtain ⟨r_1, hc_2, h⟩ := q_bd_ok h
  refine q_ci (r := r_1) (va_runS (As := [.long (p1.toInt64), .int (-1 : Int32), .int (6 : Int32)]) (rest := []) ⟨hx, hb, hml, hown, hts⟩ (c_X4_in l D y t q _ N (p1.toInt64) (-1 : Int32) (6 : Int32) r_1 hc_2) (va_cwS 3 hts gX4_status_X4_in rfl rfl rfl eX4_in ⟨Nat.le_of_ble_eq_true rfl, Nat.le_of_ble_eq_true rfl⟩) ⟨q_blind, (q_pre hP hK hZ hD hA hS [] rfl (by decide))⟩ rfl rfl hl.1 rfl (lv_room (Nat.le_of_ble_eq_true rfl)) dX4_status_5 ⟨Nat.zero_le _, Nat.zero_le _⟩) hP hD hA hS [] rfl (by decide) rfl (fun H locs hP hD hS => ?_)
  have hP : va_P D vwCl (wM y q F G) H := hP
  have hD : va_D A (wM y q F G) := hD
  refine lv_if_ne (tgt := 18) hx hb dX4_status_8 (by decide) (fun c_3 => ?_) (fun c_3 => ?_)
  · have h := q_f c_3 h
    refine lv_iconst (v := 0) hx hb dX4_status_18 (by decide) ?_
    refine lv_istore_n (lv' := [(2, .int (0 : Int32)), (0, .ref (q 0)), (1, .int p1)]) hx hb dX4_status_19 rfl hl (by decide) rfl (fun ls hl => ?_)
    refine lv_iconst (v := 0) hx hb dX4_status_20 (by decide) ?_
    refine lv_istore_n (lv' := [(3, .int (0 : Int32)), (2, .int (0 : Int32)), (0, .ref (q 0)), (1, .int p1)]) hx hb dX4_status_21 rfl hl (by decide) rfl (fun ls hl => ?_)
    obtain ⟨x_5, x_6, hL4, h⟩ := q_bd2_ok h
    have K22_4 : ∀ (H : Heap) (locs : List Loc) (ls : Array Slot), va_P D vwCl (wM y q F G) H → va_D A (wM y q F G) → va_S A s.heap H locs → lv_has ls 4 [(0, .ref (q 0)), (1, .int p1), (2, .int x_5), (3, .int x_6)] → W p l e ({ frames := 1, cells := 0, slots := 0, locals := 23 } : Room) s m ([.ref (q 0), .int p1] : List Value).toArray below meth c H locs 0 0 (MQ below (pQi D y (res.1) (wM y q (res.2) G) A) ([.ref (q 0), .int p1] : List Value).toArray s 0 0 A) (F0 m 56 ls []) := by
      intro H locs ls hP hD hS hl
      refine lv_iload_n hx hb dX4_status_56 rfl (lv_at hl 2 rfl) ?_
      have e9 := Option.some.inj h
      exact q_iret hx hb hr hlocks hK hP hD hS dX4_status_57 (by first | rw [← e9] | rfl) (by first | rw [← e9] | rfl)
    have L22_4 : ∀ (F : Nat → Nat → Int32) (G : Nat → Int64) (v1 : Int32) (k : Nat) (v2 : Int32) (v3 : Int32), (∀ (H : Heap) (locs : List Loc) (ls : Array Slot), va_P D vwCl (wM y q F G) H → va_D A (wM y q F G) → va_S A s.heap H locs → lv_has ls 4 [(0, .ref (q 0)), (1, .int v1), (2, .int x_5), (3, .int x_6)] → W p l e ({ frames := 1, cells := 0, slots := 0, locals := 23 } : Room) s m ([.ref (q 0), .int p1] : List Value).toArray below meth c H locs 0 0 (MQ below (pQi D y (res.1) (wM y q (res.2) G) A) ([.ref (q 0), .int p1] : List Value).toArray s 0 0 A) (F0 m 56 ls [])) → ∀ (H : Heap) (locs : List Loc) (ls : Array Slot), va_P D vwCl (wM y q F G) H → va_D A (wM y q F G) → va_S A s.heap H locs → lv_has ls 4 [(0, .ref (q 0)), (1, .int v1), (2, .int v2), (3, .int v3)] → f_X4_status_L22 N F G v1 k v2 v3 = some (x_5, x_6) → W p l e ({ frames := 1, cells := 0, slots := 0, locals := 23 } : Room) s m ([.ref (q 0), .int p1] : List Value).toArray below meth c H locs 0 0 (MQ below (pQi D y (res.1) (wM y q (res.2) G) A) ([.ref (q 0), .int p1] : List Value).toArray s 0 0 A) (F0 m 22 ls []) := by
      intro F G v1 k
      induction k with
      | zero =>
        intro v2 v3 K22_4 H locs ls hP hD hS hl h
        have h : (none : Option (Int32 × Int32)) = some _ := h
        cases h
      | succ k ih22_4 =>
        intro v2 v3 K22_4 H locs ls hP hD hS hl h
        rw [f_X4_status_L22] at h
        refine lv_iload_n hx hb dX4_status_22 rfl (lv_at hl 3 rfl) ?_
        refine lv_bipush (v := 7) hx hb dX4_status_23 (by decide) ?_
        refine lv_icmp_ge (tgt := 56) hx hb dX4_status_25 (by decide) (fun c_7 => ?_) (fun c_7 => ?_)
        · have h := q_t c_7 h
          cases h
          exact K22_4 _ _ _ hP hD hS (lv_sub hl [0, 1, 2, 3] rfl)
        · have h := q_f c_7 h
          refine lv_iload_n hx hb dX4_status_28 rfl (lv_at hl 2 rfl) ?_
          refine lv_iload_n hx hb dX4_status_29 rfl (lv_at hl 1 rfl) ?_
          refine lv_if_lt (tgt := 38) hx hb dX4_status_30 (by decide) (fun c_8 => ?_) (fun c_8 => ?_)
          · have h := q_t c_8 h
            refine lv_aload_n hx hb dX4_status_38 rfl (lv_at hl 0 rfl) ?_
            refine va_get (D := D) (ci := 4) (v := .ref (q 4)) (C := RX4) (T := TX4) (N := 15) hx hb hts uX4_status_X4 hown hK hP 0 rfl rfl 4 (by decide) (hts _ kX4_status_1) (fun _ h9 => h9) rfl dX4_status_39 ?_
            refine lv_iload_n hx hb dX4_status_42 rfl (lv_at hl 3 rfl) ?_
            obtain ⟨z_9, h⟩ := q_grd_ok h
            refine va_iald hx hb hK hP 4 0 rfl rfl z_9 dX4_status_43 ?_
            refine lv_goto (tgt := 48) hx hb dX4_status_44 (by decide) ?_
            refine lv_iadd hx hb dX4_status_48 ?_
            refine lv_topi (fun x_10 ex_10 => ?_)
            have h := q_let_at ex_10 h
            refine lv_istore_n (lv' := [(2, .int x_10), (0, .ref (q 0)), (1, .int v1), (3, .int v3)]) hx hb dX4_status_49 rfl hl (by decide) rfl (fun ls hl => ?_)
            obtain ⟨x_11, ex_11, h⟩ := q_let_ok h
            refine lv_iinc (v := x_11) (lv' := [(3, .int x_11), (2, .int x_10), (0, .ref (q 0)), (1, .int v1)]) hx hb dX4_status_50 hl (k := 3) rfl (by rw [ex_11]; rfl) (by decide) rfl (fun ls hl => ?_)
            refine lv_goto (tgt := 22) hx hb dX4_status_53 (by decide) ?_
            exact ih22_4 x_10 x_11 K22_4 _ _ _ hP hD hS (lv_sub hl [2, 3, 1, 0] rfl) h
          · have h := q_f c_8 h
            refine lv_iload_n hx hb dX4_status_33 rfl (lv_at hl 1 rfl) ?_
            refine lv_iload_n hx hb dX4_status_34 rfl (lv_at hl 3 rfl) ?_
            refine lv_icmp_ne (tgt := 47) hx hb dX4_status_35 (by decide) (fun c_12 => ?_) (fun c_12 => ?_)
            · have h := q_f c_12 h
              refine lv_iconst (v := 0) hx hb dX4_status_47 (by decide) ?_
              refine lv_iadd hx hb dX4_status_48 ?_
              refine lv_topi (fun x_13 ex_13 => ?_)
              have h := q_let_at ex_13 h
              refine lv_istore_n (lv' := [(2, .int x_13), (0, .ref (q 0)), (1, .int v1), (3, .int v3)]) hx hb dX4_status_49 rfl hl (by decide) rfl (fun ls hl => ?_)
              obtain ⟨x_14, ex_14, h⟩ := q_let_ok h
              refine lv_iinc (v := x_14) (lv' := [(3, .int x_14), (2, .int x_13), (0, .ref (q 0)), (1, .int v1)]) hx hb dX4_status_50 hl (k := 3) rfl (by rw [ex_14]; rfl) (by decide) rfl (fun ls hl => ?_)
              refine lv_goto (tgt := 22) hx hb dX4_status_53 (by decide) ?_
              exact ih22_4 x_13 x_14 K22_4 _ _ _ hP hD hS (lv_sub hl [2, 3, 1, 0] rfl) h
            · have h := q_t c_12 h
              refine lv_aload_n hx hb dX4_status_38 rfl (lv_at hl 0 rfl) ?_
              refine va_get (D := D) (ci := 4) (v := .ref (q 4)) (C := RX4) (T := TX4) (N := 15) hx hb hts uX4_status_X4 hown hK hP 0 rfl rfl 4 (by decide) (hts _ kX4_status_1) (fun _ h9 => h9) rfl dX4_status_39 ?_
              refine lv_iload_n hx hb dX4_status_42 rfl (lv_at hl 3 rfl) ?_
              obtain ⟨z_15, h⟩ := q_grd_ok h
              refine va_iald hx hb hK hP 4 0 rfl rfl z_15 dX4_status_43 ?_
              refine lv_goto (tgt := 48) hx hb dX4_status_44 (by decide) ?_
              refine lv_iadd hx hb dX4_status_48 ?_
              refine lv_topi (fun x_16 ex_16 => ?_)
              have h := q_let_at ex_16 h
              refine lv_istore_n (lv' := [(2, .int x_16), (0, .ref (q 0)), (1, .int v1), (3, .int v3)]) hx hb dX4_status_49 rfl hl (by decide) rfl (fun ls hl => ?_)
              obtain ⟨x_17, ex_17, h⟩ := q_let_ok h
              refine lv_iinc (v := x_17) (lv' := [(3, .int x_17), (2, .int x_16), (0, .ref (q 0)), (1, .int v1)]) hx hb dX4_status_50 hl (k := 3) rfl (by rw [ex_17]; rfl) (by decide) rfl (fun ls hl => ?_)
              refine lv_goto (tgt := 22) hx hb dX4_status_53 (by decide) ?_
              exact ih22_4 x_16 x_17 K22_4 _ _ _ hP hD hS (lv_sub hl [2, 3, 1, 0] rfl) h
    exact L22_4 F G p1 N (0 : Int32) (0 : Int32) K22_4 _ _ _ hP hD hS (lv_sub hl [2, 3, 1, 0] rfl) hL4
  · have h := q_t c_3 h
    refine lv_aload_n hx hb dX4_status_11 rfl (lv_at hl 0 rfl) ?_
    refine lv_ldc (v := -1000000001) hx hb hown (hts _ kX4_status_2) dX4_status_12 ?_
    obtain ⟨r_18, F_19, hc_20, h⟩ := q_bd2_ok h
    refine q_ci (r := r_18) (va_runV (As := [.int (-1000000001 : Int32)]) (rest := []) ⟨hx, hb, hml, hown, hts⟩ (c_X4_finds l D y t q _ N F G (-1000000001 : Int32) (r_18, F_19) hc_20) (cwV 1 hts gX4_status_X4_finds rfl rfl rfl eX4_finds ⟨Nat.le_of_ble_eq_true rfl, Nat.le_of_ble_eq_true rfl⟩) ⟨q_blind, (va_recv hK hP (ci := 4) (q0 := 0) rfl rfl), (q_pre hP hK hZ hD hA hS [0, 1, 2, 3, 4, 5, 6, 7, 8] rfl (by decide))⟩ rfl rfl hl.1 rfl (lv_room (Nat.le_of_ble_eq_true rfl)) dX4_status_14 ⟨Nat.zero_le _, Nat.zero_le _⟩) hP hD hA hS [0, 1, 2, 3, 4, 5, 6, 7, 8] rfl (by decide) rfl (fun H locs hP hD hS => ?_)
    have hP : va_P D vwCl (wM y q F_19 G) H := hP
    have hD : va_D A (wM y q F_19 G) := hD
    have e9 := Option.some.inj h
    exact q_iret hx hb hr hlocks hK hP hD hS dX4_status_17 (by first | rw [← e9] | rfl) (by first | rw [← e9] | rfl)
theorem eX4_status : yX4_status.cls = RX4 ∧ yX4_status.cls ≠ "java/lang/invoke/MethodHandle" ∧ yX4_status.cls ≠ "java/lang/invoke/VarHandle" ∧ (parseMethodDescriptor yX4_status.desc).map (fun d => d.parameters.length) = some 1 := by decide +kernel
