theorem kX3_found_0 : Cond.constant RX3 58 (-1000000001) ∈ wsX3_found := List.mem_of_getElem? (i := 1) (by decide +kernel)
theorem uX3_found_X3 : ∀ w ∈ u_ws RX3 TX3 7, w ∈ wsX3_found := by decide +kernel
theorem kX3_found_2 : Cond.fieldLink RX3 39 "BeamSeats" "findings" "[I" ∈ wsX3_found := List.mem_of_getElem? (i := 2) (by decide +kernel)
def f_X3_found (N : Nat) (b : Nat → Nat → Int32) (R : Nat → Nat → Int32) (T : Nat → Nat → Int32) (K : Nat → Nat → Int32) (P : Nat → Nat → Int32) (B : Nat → Nat → Int32) (L : Nat → Nat → Int64) (p1 : Int32) : Option (Int32 × (Nat → Nat → Int32)) :=
  q_let ((-1000000001 : Int32) - p1) (fun x_1 =>
  q_bd (f_X3_within N x_1 (0 : Int32) (6 : Int32)) (fun r_2 =>
  if r_2 = 0 then
    some (p1, b)
  else
    q_grd x_1 7 (
    q_grd x_1 7 (
    q_let (q_up b 1 x_1.toNatClampNeg ((b 1 x_1.toNatClampNeg) + (1 : Int32))) (fun b_7 =>
    some (p1, b_7))))))
set_option maxHeartbeats 4000000 in
set_option maxRecDepth 100000 in
theorem c_X3_found (l : Launch) (D : va_G) (y : Nat → ClassId) (t : Nat → Nat) (q : Nat → Nat) (sz N : Nat) (b : Nat → Nat → Int32) (R : Nat → Nat → Int32) (T : Nat → Nat → Int32) (K : Nat → Nat → Int32) (P : Nat → Nat → Int32) (B : Nat → Nat → Int32) (L : Nat → Nat → Int64) (p1 : Int32) (res : Int32 × (Nat → Nat → Int32)) (h : f_X3_found N b R T K P B L p1 = some res) : Met l yX3_found wsX3_found ({ frames := 1, cells := 0, slots := 0, locals := 22 } : Room) (pPre D y t [.ref (q 0), .int p1] (wB y q b R T K P B L) sz) (pQi D y (res.1) (wB y q (res.2) R T K P B L) (va_A (wB y q b R T K P B L) sz)) 0 0 (va_A (wB y q b R T K P B L) sz) := by
  refine q_start (Qc := (fun A => pQi D y (res.1) (wB y q (res.2) R T K P B L) A)) (cc := cX3_found) (maxL := 3) (ret := (some .int)) (by decide) rfl (Nat.le_of_ble_eq_true rfl) ?_
  intro p e s m below meth c A ls hx hb hr hts hown hlocks hmn hml hP hK hZ hD hA hS hl
  have hl : lv_has ls 3 [(0, .ref (q 0)), (1, .int p1)] := hl
  have hown : s.vm.findClass RX3 = some m.cls := hown
  unfold f_X3_found at h
  refine lv_ldc (v := -1000000001) hx hb hown (hts _ kX3_found_0) dX3_found_0 ?_
  refine lv_iload_n hx hb dX3_found_2 rfl (lv_at hl 1 rfl) ?_
  refine lv_isub hx hb dX3_found_3 ?_
  refine lv_topi (fun x_1 ex_1 => ?_)
  have h := q_let_at ex_1 h
  refine lv_istore_n (lv' := [(2, .int x_1), (0, .ref (q 0)), (1, .int p1)]) hx hb dX3_found_4 rfl hl (by decide) rfl (fun ls hl => ?_)
  refine lv_iload_n hx hb dX3_found_5 rfl (lv_at hl 0 rfl) ?_
  refine lv_iconst (v := 0) hx hb dX3_found_6 (by decide) ?_
  refine lv_bipush (v := 6) hx hb dX3_found_7 (by decide) ?_
  obtain ⟨r_2, hc_3, h⟩ := q_bd_ok h
  refine q_ci (r := r_2) (va_runS (As := [.int x_1, .int (0 : Int32), .int (6 : Int32)]) (rest := []) ⟨hx, hb, hml, hown, hts⟩ (c_X3_within l D y t q _ N x_1 (0 : Int32) (6 : Int32) r_2 hc_3) (va_cwS 3 hts gX3_found_X3_within rfl rfl rfl eX3_within ⟨Nat.le_of_ble_eq_true rfl, Nat.le_of_ble_eq_true rfl⟩) ⟨q_blind, (q_pre hP hK hZ hD hA hS [] rfl (by decide))⟩ rfl rfl hl.1 rfl (lv_room (Nat.le_of_ble_eq_true rfl)) dX3_found_9 ⟨Nat.zero_le _, Nat.zero_le _⟩) hP hD hA hS [] rfl (by decide) rfl (fun H locs hP hD hS => ?_)
  have hP : va_P D vwCl (wB y q b R T K P B L) H := hP
  have hD : va_D A (wB y q b R T K P B L) := hD
  refine lv_if_eq (tgt := 25) hx hb dX3_found_12 (by decide) (fun c_4 => ?_) (fun c_4 => ?_)
  · have h := q_t c_4 h
    refine lv_iload_n hx hb dX3_found_25 rfl (lv_at hl 2 rfl) ?_
    have e9 := Option.some.inj h
    exact q_iret hx hb hr hlocks hK hP hD hS dX3_found_26 (by first | rw [← e9] | rfl) (by first | rw [← e9] | rfl)
  · have h := q_f c_4 h
    refine lv_aload_n hx hb dX3_found_15 rfl (lv_at hl 1 rfl) ?_
    refine va_get (D := D) (ci := 3) (v := .ref (q 36)) (C := RX3) (T := TX3) (N := 7) hx hb hts uX3_found_X3 hown hK hP 0 rfl rfl 6 (by decide) (hts _ kX3_found_2) (fun _ h9 => h9) rfl dX3_found_16 ?_
    refine lv_iload_n hx hb dX3_found_19 rfl (lv_at hl 0 rfl) ?_
    refine lv_dup2_11 hx hb dX3_found_20 rfl rfl ?_
    obtain ⟨z_5, h⟩ := q_grd_ok h
    refine va_iald hx hb hK hP 36 0 rfl rfl z_5 dX3_found_21 ?_
    refine lv_iconst (v := 1) hx hb dX3_found_22 (by decide) ?_
    refine lv_iadd hx hb dX3_found_23 ?_
    obtain ⟨z_6, h⟩ := q_grd_ok h
    obtain ⟨b_7, eb_7, h⟩ := q_let_ok h
    refine va_iast hx hb hK hP hD hS 36 0 rfl rfl z_6 dX3_found_24 (fun H locs hP hD hS => ?_)
    have hP : va_P D vwCl (wB y q b_7 R T K P B L) H := by rw [eb_7]; exact hP
    have hD : va_D A (wB y q b_7 R T K P B L) := by rw [eb_7]; exact hD
    refine lv_iload_n hx hb dX3_found_25 rfl (lv_at hl 2 rfl) ?_
    have e9 := Option.some.inj h
    exact q_iret hx hb hr hlocks hK hP hD hS dX3_found_26 (by first | rw [← e9] | rfl) (by first | rw [← e9] | rfl)
theorem eX3_found : yX3_found.cls = RX3 ∧ yX3_found.cls ≠ "java/lang/invoke/MethodHandle" ∧ yX3_found.cls ≠ "java/lang/invoke/VarHandle" ∧ (parseMethodDescriptor yX3_found.desc).map (fun d => d.parameters.length) = some 1 := by decide +kernel
theorem kX3_beam_0 : Cond.constant RX3 58 (-1000000001) ∈ wsX3_beam := List.mem_of_getElem? (i := 5) (by decide +kernel)
theorem uX3_beam_X0 : ∀ w ∈ u_ws RX0 TX0 13, w ∈ wsX3_beam := by decide +kernel
theorem kX3_beam_2 : Cond.fieldLink RX3 55 "BeamSeats$Island" "thick" "I" ∈ wsX3_beam := List.mem_of_getElem? (i := 4) (by decide +kernel)
theorem uX3_beam_X3 : ∀ w ∈ u_ws RX3 TX3 7, w ∈ wsX3_beam := by decide +kernel
theorem kX3_beam_4 : Cond.fieldLink RX3 10 "BeamSeats" "real" "LBeamSeats$Island;" ∈ wsX3_beam := List.mem_of_getElem? (i := 1) (by decide +kernel)
theorem kX3_beam_5 : Cond.fieldLink RX3 52 "BeamSeats$Island" "speed" "I" ∈ wsX3_beam := List.mem_of_getElem? (i := 3) (by decide +kernel)
theorem kX3_beam_6 : Cond.fieldLink RX3 48 "BeamSeats$Island" "bearing" "I" ∈ wsX3_beam := List.mem_of_getElem? (i := 2) (by decide +kernel)
def f_X3_beam_B101 (N : Nat) (b : Nat → Nat → Int32) (R : Nat → Nat → Int32) (T : Nat → Nat → Int32) (K : Nat → Nat → Int32) (P : Nat → Nat → Int32) (B : Nat → Nat → Int32) (L : Nat → Nat → Int64) : Option (Int32 × (Nat → Nat → Int32) × (Nat → Nat → Int32)) :=
  q_bd2 (f_X3_found N b R T K P B L (-1000000001 : Int32)) (fun r_4 b_5 =>
  some (r_4, b_5, R))
def f_X3_beam_B67 (N : Nat) (b : Nat → Nat → Int32) (R : Nat → Nat → Int32) (T : Nat → Nat → Int32) (K : Nat → Nat → Int32) (P : Nat → Nat → Int32) (B : Nat → Nat → Int32) (L : Nat → Nat → Int64) (v1 : Int32) (v2 : Int32) : Option (Int32 × (Nat → Nat → Int32) × (Nat → Nat → Int32)) :=
  if v1 = (2 : Int32) then
    q_bd (f_X3_within N v2 (1 : Int32) (40 : Int32)) (fun r_7 =>
    if r_7 = 0 then
      f_X3_beam_B101 N b R T K P B L
    else
      q_let (R 0 3) (fun x_10 =>
      q_let (q_up R 0 3 v2) (fun R_11 =>
      some (x_10, b, R_11))))
  else
    f_X3_beam_B101 N b R T K P B L
def f_X3_beam_B33 (N : Nat) (b : Nat → Nat → Int32) (R : Nat → Nat → Int32) (T : Nat → Nat → Int32) (K : Nat → Nat → Int32) (P : Nat → Nat → Int32) (B : Nat → Nat → Int32) (L : Nat → Nat → Int64) (v1 : Int32) (v2 : Int32) : Option (Int32 × (Nat → Nat → Int32) × (Nat → Nat → Int32)) :=
  if v1 = (1 : Int32) then
    q_bd (f_X3_within N v2 (1 : Int32) (10 : Int32)) (fun r_12 =>
    if r_12 = 0 then
      f_X3_beam_B67 N b R T K P B L v1 v2
    else
      q_let (R 0 2) (fun x_15 =>
      q_let (q_up R 0 2 v2) (fun R_16 =>
      some (x_15, b, R_16))))
  else
    f_X3_beam_B67 N b R T K P B L v1 v2
def f_X3_beam (N : Nat) (b : Nat → Nat → Int32) (R : Nat → Nat → Int32) (T : Nat → Nat → Int32) (K : Nat → Nat → Int32) (P : Nat → Nat → Int32) (B : Nat → Nat → Int32) (L : Nat → Nat → Int64) (p1 : Int32) (p2 : Int32) : Option (Int32 × (Nat → Nat → Int32) × (Nat → Nat → Int32)) :=
  if p1 = 0 then
    q_bd (f_X3_within N p2 (0 : Int32) (59 : Int32)) (fun r_17 =>
    if r_17 = 0 then
      f_X3_beam_B33 N b R T K P B L p1 p2
    else
      q_let (R 0 1) (fun x_20 =>
      q_let (q_up R 0 1 p2) (fun R_21 =>
      some (x_20, b, R_21))))
  else
    f_X3_beam_B33 N b R T K P B L p1 p2
set_option maxHeartbeats 4000000 in
set_option maxRecDepth 100000 in
theorem c_X3_beam (l : Launch) (D : va_G) (y : Nat → ClassId) (t : Nat → Nat) (q : Nat → Nat) (sz N : Nat) (b : Nat → Nat → Int32) (R : Nat → Nat → Int32) (T : Nat → Nat → Int32) (K : Nat → Nat → Int32) (P : Nat → Nat → Int32) (B : Nat → Nat → Int32) (L : Nat → Nat → Int64) (p1 : Int32) (p2 : Int32) (res : Int32 × (Nat → Nat → Int32) × (Nat → Nat → Int32)) (h : f_X3_beam N b R T K P B L p1 p2 = some res) : Met l yX3_beam wsX3_beam ({ frames := 2, cells := 0, slots := 0, locals := 44 } : Room) (pPre D y t [.ref (q 0), .int p1, .int p2] (wB y q b R T K P B L) sz) (pQi D y (res.1) (wB y q (res.2.1) (res.2.2) T K P B L) (va_A (wB y q b R T K P B L) sz)) 0 0 (va_A (wB y q b R T K P B L) sz) := by
  refine q_start (Qc := (fun A => pQi D y (res.1) (wB y q (res.2.1) (res.2.2) T K P B L) A)) (cc := cX3_beam) (maxL := 4) (ret := (some .int)) (by decide) rfl (Nat.le_of_ble_eq_true rfl) ?_
  intro p e s m below meth c A ls hx hb hr hts hown hlocks hmn hml hP hK hZ hD hA hS hl
  have hl : lv_has ls 4 [(0, .ref (q 0)), (1, .int p1), (2, .int p2)] := hl
  have hown : s.vm.findClass RX3 = some m.cls := hown
  have B101 : ∀ (b : Nat → Nat → Int32) (R : Nat → Nat → Int32) (T : Nat → Nat → Int32) (K : Nat → Nat → Int32) (P : Nat → Nat → Int32) (B : Nat → Nat → Int32) (L : Nat → Nat → Int64) (H : Heap) (locs : List Loc) (ls : Array Slot), va_P D vwCl (wB y q b R T K P B L) H → va_D A (wB y q b R T K P B L) → va_S A s.heap H locs → lv_has ls 4 [(0, .ref (q 0))] → f_X3_beam_B101 N b R T K P B L = some res → W p l e ({ frames := 2, cells := 0, slots := 0, locals := 44 } : Room) s m ([.ref (q 0), .int p1, .int p2] : List Value).toArray below meth c H locs 0 0 (MQ below (pQi D y (res.1) (wB y q (res.2.1) (res.2.2) T K P B L) A) ([.ref (q 0), .int p1, .int p2] : List Value).toArray s 0 0 A) (F0 m 101 ls []) := by
    intro b R T K P B L H locs ls hP hD hS hl h
    unfold f_X3_beam_B101 at h
    refine lv_aload_n hx hb dX3_beam_101 rfl (lv_at hl 0 rfl) ?_
    refine lv_ldc (v := -1000000001) hx hb hown (hts _ kX3_beam_0) dX3_beam_102 ?_
    obtain ⟨r_4, b_5, hc_6, h⟩ := q_bd2_ok h
    refine q_ci0 (r := r_4) (va_runV (As := [.int (-1000000001 : Int32)]) (rest := []) ⟨hx, hb, hml, hown, hts⟩ (c_X3_found l D y t q _ N b R T K P B L (-1000000001 : Int32) (r_4, b_5) hc_6) (cwV 1 hts gX3_beam_X3_found rfl rfl rfl eX3_found ⟨Nat.le_of_ble_eq_true rfl, Nat.le_of_ble_eq_true rfl⟩) ⟨q_blind, (va_recv hK hP (ci := 3) (q0 := 0) rfl rfl), (q_pre0 hP hK hZ hD hA hS)⟩ rfl rfl hl.1 rfl (lv_room (Nat.le_of_ble_eq_true rfl)) dX3_beam_104 ⟨Nat.zero_le _, Nat.zero_le _⟩) hD hA hS (fun H locs hP hD hS => ?_)
    have hP : va_P D vwCl (wB y q b_5 R T K P B L) H := hP
    have hD : va_D A (wB y q b_5 R T K P B L) := hD
    have e9 := Option.some.inj h
    exact q_iret hx hb hr hlocks hK hP hD hS dX3_beam_107 (by first | rw [← e9] | rfl) (by first | rw [← e9] | rfl)
  have B67 : ∀ (b : Nat → Nat → Int32) (R : Nat → Nat → Int32) (T : Nat → Nat → Int32) (K : Nat → Nat → Int32) (P : Nat → Nat → Int32) (B : Nat → Nat → Int32) (L : Nat → Nat → Int64) (v1 : Int32) (v2 : Int32) (H : Heap) (locs : List Loc) (ls : Array Slot), va_P D vwCl (wB y q b R T K P B L) H → va_D A (wB y q b R T K P B L) → va_S A s.heap H locs → lv_has ls 4 [(0, .ref (q 0)), (1, .int v1), (2, .int v2)] → f_X3_beam_B67 N b R T K P B L v1 v2 = some res → W p l e ({ frames := 2, cells := 0, slots := 0, locals := 44 } : Room) s m ([.ref (q 0), .int p1, .int p2] : List Value).toArray below meth c H locs 0 0 (MQ below (pQi D y (res.1) (wB y q (res.2.1) (res.2.2) T K P B L) A) ([.ref (q 0), .int p1, .int p2] : List Value).toArray s 0 0 A) (F0 m 67 ls []) := by
    intro b R T K P B L v1 v2 H locs ls hP hD hS hl h
    unfold f_X3_beam_B67 at h
    refine lv_iload_n hx hb dX3_beam_67 rfl (lv_at hl 1 rfl) ?_
    refine lv_iconst (v := 2) hx hb dX3_beam_68 (by decide) ?_
    refine lv_icmp_ne (tgt := 101) hx hb dX3_beam_69 (by decide) (fun c_3 => ?_) (fun c_3 => ?_)
    · have h := q_f c_3 h
      exact B101 b R T K P B L _ _ _ hP hD hS (lv_sub hl [0] rfl) h
    · have h := q_t c_3 h
      refine lv_iload_n hx hb dX3_beam_72 rfl (lv_at hl 2 rfl) ?_
      refine lv_iconst (v := 1) hx hb dX3_beam_73 (by decide) ?_
      refine lv_bipush (v := 40) hx hb dX3_beam_74 (by decide) ?_
      obtain ⟨r_7, hc_8, h⟩ := q_bd_ok h
      refine q_ci (r := r_7) (va_runS (As := [.int v2, .int (1 : Int32), .int (40 : Int32)]) (rest := []) ⟨hx, hb, hml, hown, hts⟩ (c_X3_within l D y t q _ N v2 (1 : Int32) (40 : Int32) r_7 hc_8) (va_cwS 3 hts gX3_beam_X3_within rfl rfl rfl eX3_within ⟨Nat.le_of_ble_eq_true rfl, Nat.le_of_ble_eq_true rfl⟩) ⟨q_blind, (q_pre hP hK hZ hD hA hS [] rfl (by decide))⟩ rfl rfl hl.1 rfl (lv_room (Nat.le_of_ble_eq_true rfl)) dX3_beam_76 ⟨Nat.zero_le _, Nat.zero_le _⟩) hP hD hA hS [] rfl (by decide) rfl (fun H locs hP hD hS => ?_)
      have hP : va_P D vwCl (wB y q b R T K P B L) H := hP
      have hD : va_D A (wB y q b R T K P B L) := hD
      refine lv_if_eq (tgt := 101) hx hb dX3_beam_79 (by decide) (fun c_9 => ?_) (fun c_9 => ?_)
      · have h := q_t c_9 h
        exact B101 b R T K P B L _ _ _ hP hD hS (lv_sub hl [0] rfl) h
      · have h := q_f c_9 h
        refine lv_aload_n hx hb dX3_beam_82 rfl (lv_at hl 0 rfl) ?_
        refine va_get (D := D) (ci := 3) (v := .ref (q 1)) (C := RX3) (T := TX3) (N := 7) hx hb hts uX3_beam_X3 hown hK hP 0 rfl rfl 0 (by decide) (hts _ kX3_beam_4) (fun _ h9 => h9) rfl dX3_beam_83 ?_
        refine va_get (D := D) (ci := 0) (v := .int (R 0 3)) (C := RX0) (T := TX0) (N := 13) hx hb hts uX3_beam_X0 hown hK hP 1 rfl rfl 3 (by decide) (hts _ kX3_beam_2) (fun _ h9 => h9) rfl dX3_beam_86 ?_
        refine lv_topi (fun x_10 ex_10 => ?_)
        have h := q_let_at ex_10 h
        refine lv_istore_n (lv' := [(3, .int x_10), (0, .ref (q 0)), (1, .int v1), (2, .int v2)]) hx hb dX3_beam_89 rfl hl (by decide) rfl (fun ls hl => ?_)
        refine lv_aload_n hx hb dX3_beam_90 rfl (lv_at hl 1 rfl) ?_
        refine va_get (D := D) (ci := 3) (v := .ref (q 1)) (C := RX3) (T := TX3) (N := 7) hx hb hts uX3_beam_X3 hown hK hP 0 rfl rfl 0 (by decide) (hts _ kX3_beam_4) (fun _ h9 => h9) rfl dX3_beam_91 ?_
        refine lv_iload_n hx hb dX3_beam_94 rfl (lv_at hl 3 rfl) ?_
        obtain ⟨R_11, eR_11, h⟩ := q_let_ok h
        refine va_put (D := D) (ci := 0) (v := .int v2) (ty := .int) (C := RX0) (T := TX0) (N := 13) hx hb hts uX3_beam_X0 tyX0 tyX0_ok nmX0 hown hK hP hD hS 1 rfl rfl 3 (by decide) (hts _ kX3_beam_2) (fun _ h9 => h9) rfl (by decide +kernel) rfl rfl (Nat.le_of_ble_eq_true rfl) dX3_beam_95 (fun H locs hP hD hS => ?_)
        have hP : va_P D vwCl (wB y q b R_11 T K P B L) H := by rw [eR_11]; exact hP
        have hD : va_D A (wB y q b R_11 T K P B L) := by rw [eR_11]; exact hD
        refine lv_goto (tgt := 108) hx hb dX3_beam_98 (by decide) ?_
        refine lv_iload_n hx hb dX3_beam_108 rfl (lv_at hl 0 rfl) ?_
        have e9 := Option.some.inj h
        exact q_iret hx hb hr hlocks hK hP hD hS dX3_beam_109 (by first | rw [← e9] | rfl) (by first | rw [← e9] | rfl)
  have B33 : ∀ (b : Nat → Nat → Int32) (R : Nat → Nat → Int32) (T : Nat → Nat → Int32) (K : Nat → Nat → Int32) (P : Nat → Nat → Int32) (B : Nat → Nat → Int32) (L : Nat → Nat → Int64) (v1 : Int32) (v2 : Int32) (H : Heap) (locs : List Loc) (ls : Array Slot), va_P D vwCl (wB y q b R T K P B L) H → va_D A (wB y q b R T K P B L) → va_S A s.heap H locs → lv_has ls 4 [(0, .ref (q 0)), (1, .int v1), (2, .int v2)] → f_X3_beam_B33 N b R T K P B L v1 v2 = some res → W p l e ({ frames := 2, cells := 0, slots := 0, locals := 44 } : Room) s m ([.ref (q 0), .int p1, .int p2] : List Value).toArray below meth c H locs 0 0 (MQ below (pQi D y (res.1) (wB y q (res.2.1) (res.2.2) T K P B L) A) ([.ref (q 0), .int p1, .int p2] : List Value).toArray s 0 0 A) (F0 m 33 ls []) := by
    intro b R T K P B L v1 v2 H locs ls hP hD hS hl h
    unfold f_X3_beam_B33 at h
    refine lv_iload_n hx hb dX3_beam_33 rfl (lv_at hl 1 rfl) ?_
    refine lv_iconst (v := 1) hx hb dX3_beam_34 (by decide) ?_
    refine lv_icmp_ne (tgt := 67) hx hb dX3_beam_35 (by decide) (fun c_2 => ?_) (fun c_2 => ?_)
    · have h := q_f c_2 h
      exact B67 b R T K P B L v1 v2 _ _ _ hP hD hS (lv_sub hl [0, 1, 2] rfl) h
    · have h := q_t c_2 h
      refine lv_iload_n hx hb dX3_beam_38 rfl (lv_at hl 2 rfl) ?_
      refine lv_iconst (v := 1) hx hb dX3_beam_39 (by decide) ?_
      refine lv_bipush (v := 10) hx hb dX3_beam_40 (by decide) ?_
      obtain ⟨r_12, hc_13, h⟩ := q_bd_ok h
      refine q_ci (r := r_12) (va_runS (As := [.int v2, .int (1 : Int32), .int (10 : Int32)]) (rest := []) ⟨hx, hb, hml, hown, hts⟩ (c_X3_within l D y t q _ N v2 (1 : Int32) (10 : Int32) r_12 hc_13) (va_cwS 3 hts gX3_beam_X3_within rfl rfl rfl eX3_within ⟨Nat.le_of_ble_eq_true rfl, Nat.le_of_ble_eq_true rfl⟩) ⟨q_blind, (q_pre hP hK hZ hD hA hS [] rfl (by decide))⟩ rfl rfl hl.1 rfl (lv_room (Nat.le_of_ble_eq_true rfl)) dX3_beam_42 ⟨Nat.zero_le _, Nat.zero_le _⟩) hP hD hA hS [] rfl (by decide) rfl (fun H locs hP hD hS => ?_)
      have hP : va_P D vwCl (wB y q b R T K P B L) H := hP
      have hD : va_D A (wB y q b R T K P B L) := hD
      refine lv_if_eq (tgt := 67) hx hb dX3_beam_45 (by decide) (fun c_14 => ?_) (fun c_14 => ?_)
      · have h := q_t c_14 h
        exact B67 b R T K P B L v1 v2 _ _ _ hP hD hS (lv_sub hl [0, 1, 2] rfl) h
      · have h := q_f c_14 h
        refine lv_aload_n hx hb dX3_beam_48 rfl (lv_at hl 0 rfl) ?_
        refine va_get (D := D) (ci := 3) (v := .ref (q 1)) (C := RX3) (T := TX3) (N := 7) hx hb hts uX3_beam_X3 hown hK hP 0 rfl rfl 0 (by decide) (hts _ kX3_beam_4) (fun _ h9 => h9) rfl dX3_beam_49 ?_
        refine va_get (D := D) (ci := 0) (v := .int (R 0 2)) (C := RX0) (T := TX0) (N := 13) hx hb hts uX3_beam_X0 hown hK hP 1 rfl rfl 2 (by decide) (hts _ kX3_beam_5) (fun _ h9 => h9) rfl dX3_beam_52 ?_
        refine lv_topi (fun x_15 ex_15 => ?_)
        have h := q_let_at ex_15 h
        refine lv_istore_n (lv' := [(3, .int x_15), (0, .ref (q 0)), (1, .int v1), (2, .int v2)]) hx hb dX3_beam_55 rfl hl (by decide) rfl (fun ls hl => ?_)
        refine lv_aload_n hx hb dX3_beam_56 rfl (lv_at hl 1 rfl) ?_
        refine va_get (D := D) (ci := 3) (v := .ref (q 1)) (C := RX3) (T := TX3) (N := 7) hx hb hts uX3_beam_X3 hown hK hP 0 rfl rfl 0 (by decide) (hts _ kX3_beam_4) (fun _ h9 => h9) rfl dX3_beam_57 ?_
        refine lv_iload_n hx hb dX3_beam_60 rfl (lv_at hl 3 rfl) ?_
        obtain ⟨R_16, eR_16, h⟩ := q_let_ok h
        refine va_put (D := D) (ci := 0) (v := .int v2) (ty := .int) (C := RX0) (T := TX0) (N := 13) hx hb hts uX3_beam_X0 tyX0 tyX0_ok nmX0 hown hK hP hD hS 1 rfl rfl 2 (by decide) (hts _ kX3_beam_5) (fun _ h9 => h9) rfl (by decide +kernel) rfl rfl (Nat.le_of_ble_eq_true rfl) dX3_beam_61 (fun H locs hP hD hS => ?_)
        have hP : va_P D vwCl (wB y q b R_16 T K P B L) H := by rw [eR_16]; exact hP
        have hD : va_D A (wB y q b R_16 T K P B L) := by rw [eR_16]; exact hD
        refine lv_goto (tgt := 108) hx hb dX3_beam_64 (by decide) ?_
        refine lv_iload_n hx hb dX3_beam_108 rfl (lv_at hl 0 rfl) ?_
        have e9 := Option.some.inj h
        exact q_iret hx hb hr hlocks hK hP hD hS dX3_beam_109 (by first | rw [← e9] | rfl) (by first | rw [← e9] | rfl)
  unfold f_X3_beam at h
  refine lv_iload_n hx hb dX3_beam_0 rfl (lv_at hl 1 rfl) ?_
  refine lv_if_ne (tgt := 33) hx hb dX3_beam_1 (by decide) (fun c_1 => ?_) (fun c_1 => ?_)
  · have h := q_f c_1 h
    exact B33 b R T K P B L p1 p2 _ _ _ hP hD hS (lv_sub hl [0, 1, 2] rfl) h
  · have h := q_t c_1 h
    refine lv_iload_n hx hb dX3_beam_4 rfl (lv_at hl 2 rfl) ?_
    refine lv_iconst (v := 0) hx hb dX3_beam_5 (by decide) ?_
    refine lv_bipush (v := 59) hx hb dX3_beam_6 (by decide) ?_
    obtain ⟨r_17, hc_18, h⟩ := q_bd_ok h
    refine q_ci (r := r_17) (va_runS (As := [.int p2, .int (0 : Int32), .int (59 : Int32)]) (rest := []) ⟨hx, hb, hml, hown, hts⟩ (c_X3_within l D y t q _ N p2 (0 : Int32) (59 : Int32) r_17 hc_18) (va_cwS 3 hts gX3_beam_X3_within rfl rfl rfl eX3_within ⟨Nat.le_of_ble_eq_true rfl, Nat.le_of_ble_eq_true rfl⟩) ⟨q_blind, (q_pre hP hK hZ hD hA hS [] rfl (by decide))⟩ rfl rfl hl.1 rfl (lv_room (Nat.le_of_ble_eq_true rfl)) dX3_beam_8 ⟨Nat.zero_le _, Nat.zero_le _⟩) hP hD hA hS [] rfl (by decide) rfl (fun H locs hP hD hS => ?_)
    have hP : va_P D vwCl (wB y q b R T K P B L) H := hP
    have hD : va_D A (wB y q b R T K P B L) := hD
    refine lv_if_eq (tgt := 33) hx hb dX3_beam_11 (by decide) (fun c_19 => ?_) (fun c_19 => ?_)
    · have h := q_t c_19 h
      exact B33 b R T K P B L p1 p2 _ _ _ hP hD hS (lv_sub hl [0, 1, 2] rfl) h
    · have h := q_f c_19 h
      refine lv_aload_n hx hb dX3_beam_14 rfl (lv_at hl 0 rfl) ?_
      refine va_get (D := D) (ci := 3) (v := .ref (q 1)) (C := RX3) (T := TX3) (N := 7) hx hb hts uX3_beam_X3 hown hK hP 0 rfl rfl 0 (by decide) (hts _ kX3_beam_4) (fun _ h9 => h9) rfl dX3_beam_15 ?_
      refine va_get (D := D) (ci := 0) (v := .int (R 0 1)) (C := RX0) (T := TX0) (N := 13) hx hb hts uX3_beam_X0 hown hK hP 1 rfl rfl 1 (by decide) (hts _ kX3_beam_6) (fun _ h9 => h9) rfl dX3_beam_18 ?_
      refine lv_topi (fun x_20 ex_20 => ?_)
      have h := q_let_at ex_20 h
      refine lv_istore_n (lv' := [(3, .int x_20), (0, .ref (q 0)), (1, .int p1), (2, .int p2)]) hx hb dX3_beam_21 rfl hl (by decide) rfl (fun ls hl => ?_)
      refine lv_aload_n hx hb dX3_beam_22 rfl (lv_at hl 1 rfl) ?_
      refine va_get (D := D) (ci := 3) (v := .ref (q 1)) (C := RX3) (T := TX3) (N := 7) hx hb hts uX3_beam_X3 hown hK hP 0 rfl rfl 0 (by decide) (hts _ kX3_beam_4) (fun _ h9 => h9) rfl dX3_beam_23 ?_
      refine lv_iload_n hx hb dX3_beam_26 rfl (lv_at hl 3 rfl) ?_
      obtain ⟨R_21, eR_21, h⟩ := q_let_ok h
      refine va_put (D := D) (ci := 0) (v := .int p2) (ty := .int) (C := RX0) (T := TX0) (N := 13) hx hb hts uX3_beam_X0 tyX0 tyX0_ok nmX0 hown hK hP hD hS 1 rfl rfl 1 (by decide) (hts _ kX3_beam_6) (fun _ h9 => h9) rfl (by decide +kernel) rfl rfl (Nat.le_of_ble_eq_true rfl) dX3_beam_27 (fun H locs hP hD hS => ?_)
      have hP : va_P D vwCl (wB y q b R_21 T K P B L) H := by rw [eR_21]; exact hP
      have hD : va_D A (wB y q b R_21 T K P B L) := by rw [eR_21]; exact hD
      refine lv_goto (tgt := 108) hx hb dX3_beam_30 (by decide) ?_
      refine lv_iload_n hx hb dX3_beam_108 rfl (lv_at hl 0 rfl) ?_
      have e9 := Option.some.inj h
      exact q_iret hx hb hr hlocks hK hP hD hS dX3_beam_109 (by first | rw [← e9] | rfl) (by first | rw [← e9] | rfl)
theorem eX3_beam : yX3_beam.cls = RX3 ∧ yX3_beam.cls ≠ "java/lang/invoke/MethodHandle" ∧ yX3_beam.cls ≠ "java/lang/invoke/VarHandle" ∧ (parseMethodDescriptor yX3_beam.desc).map (fun d => d.parameters.length) = some 2 := by decide +kernel
theorem uX3_now_X0 : ∀ w ∈ u_ws RX0 TX0 13, w ∈ wsX3_now := by decide +kernel
theorem kX3_now_1 : Cond.fieldLink RX3 63 "BeamSeats$Island" "second" "I" ∈ wsX3_now := List.mem_of_getElem? (i := 2) (by decide +kernel)
theorem uX3_now_X3 : ∀ w ∈ u_ws RX3 TX3 7, w ∈ wsX3_now := by decide +kernel
theorem kX3_now_3 : Cond.fieldLink RX3 10 "BeamSeats" "real" "LBeamSeats$Island;" ∈ wsX3_now := List.mem_of_getElem? (i := 1) (by decide +kernel)
theorem kX3_now_4 : Cond.fieldLink RX3 48 "BeamSeats$Island" "bearing" "I" ∈ wsX3_now := List.mem_of_getElem? (i := 3) (by decide +kernel)
theorem kX3_now_5 : Cond.fieldLink RX3 52 "BeamSeats$Island" "speed" "I" ∈ wsX3_now := List.mem_of_getElem? (i := 4) (by decide +kernel)
theorem kX3_now_6 : Cond.fieldLink RX3 55 "BeamSeats$Island" "thick" "I" ∈ wsX3_now := List.mem_of_getElem? (i := 5) (by decide +kernel)
theorem kX3_now_7 : Cond.fieldLink RX3 66 "BeamSeats$Island" "onSet" "I" ∈ wsX3_now := List.mem_of_getElem? (i := 6) (by decide +kernel)
theorem kX3_now_8 : Cond.fieldLink RX3 69 "BeamSeats$Island" "lostSet" "I" ∈ wsX3_now := List.mem_of_getElem? (i := 7) (by decide +kernel)
theorem kX3_now_9 : Cond.constant RX3 58 (-1000000001) ∈ wsX3_now := List.mem_of_getElem? (i := 8) (by decide +kernel)
def f_X3_now (N : Nat) (b : Nat → Nat → Int32) (R : Nat → Nat → Int32) (T : Nat → Nat → Int32) (K : Nat → Nat → Int32) (P : Nat → Nat → Int32) (B : Nat → Nat → Int32) (L : Nat → Nat → Int64) (p1 : Int32) : Option (Int32 × (Nat → Nat → Int32)) :=
  if p1 = 0 then
    some ((R 0 0), b)
  else
    if p1 = 1 then
      some ((R 0 1), b)
    else
      if p1 = 2 then
        some ((R 0 2), b)
      else
        if p1 = 3 then
          some ((R 0 3), b)
        else
          if p1 = 4 then
            some ((R 0 5), b)
          else
            if p1 = 5 then
              some ((R 0 6), b)
            else
              if p1 = 6 then
                q_bd (f_X0_weightOfAll N R) (fun r_8 =>
                some (r_8, b))
              else
                q_bd2 (f_X3_found N b R T K P B L (-1000000001 : Int32)) (fun r_10 b_11 =>
                some (r_10, b_11))
set_option maxHeartbeats 4000000 in
set_option maxRecDepth 100000 in
theorem c_X3_now (l : Launch) (D : va_G) (y : Nat → ClassId) (t : Nat → Nat) (q : Nat → Nat) (sz N : Nat) (b : Nat → Nat → Int32) (R : Nat → Nat → Int32) (T : Nat → Nat → Int32) (K : Nat → Nat → Int32) (P : Nat → Nat → Int32) (B : Nat → Nat → Int32) (L : Nat → Nat → Int64) (p1 : Int32) (res : Int32 × (Nat → Nat → Int32)) (h : f_X3_now N b R T K P B L p1 = some res) : Met l yX3_now wsX3_now ({ frames := 2, cells := 0, slots := 0, locals := 44 } : Room) (pPre D y t [.ref (q 0), .int p1] (wB y q b R T K P B L) sz) (pQi D y (res.1) (wB y q (res.2) R T K P B L) (va_A (wB y q b R T K P B L) sz)) 0 0 (va_A (wB y q b R T K P B L) sz) := by
  refine q_start (Qc := (fun A => pQi D y (res.1) (wB y q (res.2) R T K P B L) A)) (cc := cX3_now) (maxL := 2) (ret := (some .int)) (by decide) rfl (Nat.le_of_ble_eq_true rfl) ?_
  intro p e s m below meth c A ls hx hb hr hts hown hlocks hmn hml hP hK hZ hD hA hS hl
  have hl : lv_has ls 2 [(0, .ref (q 0)), (1, .int p1)] := hl
  have hown : s.vm.findClass RX3 = some m.cls := hown
  unfold f_X3_now at h
  refine lv_iload_n hx hb dX3_now_0 rfl (lv_at hl 1 rfl) ?_
  by_cases c_1 : p1 = 0
  · have h := q_t c_1 h
    refine lv_tableIn (tgt := 44) (off := 43) hx hb dX3_now_1 (by rw [c_1]; decide) (by rw [c_1]; decide) (by rw [c_1]; rfl) (by decide) ?_
    refine lv_aload_n hx hb dX3_now_44 rfl (lv_at hl 0 rfl) ?_
    refine va_get (D := D) (ci := 3) (v := .ref (q 1)) (C := RX3) (T := TX3) (N := 7) hx hb hts uX3_now_X3 hown hK hP 0 rfl rfl 0 (by decide) (hts _ kX3_now_3) (fun _ h9 => h9) rfl dX3_now_45 ?_
    refine va_get (D := D) (ci := 0) (v := .int (R 0 0)) (C := RX0) (T := TX0) (N := 13) hx hb hts uX3_now_X0 hown hK hP 1 rfl rfl 0 (by decide) (hts _ kX3_now_1) (fun _ h9 => h9) rfl dX3_now_48 ?_
    have e9 := Option.some.inj h
    exact q_iret hx hb hr hlocks hK hP hD hS dX3_now_51 (by first | rw [← e9] | rfl) (by first | rw [← e9] | rfl)
  · have h := q_f c_1 h
    by_cases c_2 : p1 = 1
    · have h := q_t c_2 h
      refine lv_tableIn (tgt := 52) (off := 51) hx hb dX3_now_1 (by rw [c_2]; decide) (by rw [c_2]; decide) (by rw [c_2]; rfl) (by decide) ?_
      refine lv_aload_n hx hb dX3_now_52 rfl (lv_at hl 0 rfl) ?_
      refine va_get (D := D) (ci := 3) (v := .ref (q 1)) (C := RX3) (T := TX3) (N := 7) hx hb hts uX3_now_X3 hown hK hP 0 rfl rfl 0 (by decide) (hts _ kX3_now_3) (fun _ h9 => h9) rfl dX3_now_53 ?_
      refine va_get (D := D) (ci := 0) (v := .int (R 0 1)) (C := RX0) (T := TX0) (N := 13) hx hb hts uX3_now_X0 hown hK hP 1 rfl rfl 1 (by decide) (hts _ kX3_now_4) (fun _ h9 => h9) rfl dX3_now_56 ?_
      have e9 := Option.some.inj h
      exact q_iret hx hb hr hlocks hK hP hD hS dX3_now_59 (by first | rw [← e9] | rfl) (by first | rw [← e9] | rfl)
    · have h := q_f c_2 h
      by_cases c_3 : p1 = 2
      · have h := q_t c_3 h
        refine lv_tableIn (tgt := 60) (off := 59) hx hb dX3_now_1 (by rw [c_3]; decide) (by rw [c_3]; decide) (by rw [c_3]; rfl) (by decide) ?_
        refine lv_aload_n hx hb dX3_now_60 rfl (lv_at hl 0 rfl) ?_
        refine va_get (D := D) (ci := 3) (v := .ref (q 1)) (C := RX3) (T := TX3) (N := 7) hx hb hts uX3_now_X3 hown hK hP 0 rfl rfl 0 (by decide) (hts _ kX3_now_3) (fun _ h9 => h9) rfl dX3_now_61 ?_
        refine va_get (D := D) (ci := 0) (v := .int (R 0 2)) (C := RX0) (T := TX0) (N := 13) hx hb hts uX3_now_X0 hown hK hP 1 rfl rfl 2 (by decide) (hts _ kX3_now_5) (fun _ h9 => h9) rfl dX3_now_64 ?_
        have e9 := Option.some.inj h
        exact q_iret hx hb hr hlocks hK hP hD hS dX3_now_67 (by first | rw [← e9] | rfl) (by first | rw [← e9] | rfl)
      · have h := q_f c_3 h
        by_cases c_4 : p1 = 3
        · have h := q_t c_4 h
          refine lv_tableIn (tgt := 68) (off := 67) hx hb dX3_now_1 (by rw [c_4]; decide) (by rw [c_4]; decide) (by rw [c_4]; rfl) (by decide) ?_
          refine lv_aload_n hx hb dX3_now_68 rfl (lv_at hl 0 rfl) ?_
          refine va_get (D := D) (ci := 3) (v := .ref (q 1)) (C := RX3) (T := TX3) (N := 7) hx hb hts uX3_now_X3 hown hK hP 0 rfl rfl 0 (by decide) (hts _ kX3_now_3) (fun _ h9 => h9) rfl dX3_now_69 ?_
          refine va_get (D := D) (ci := 0) (v := .int (R 0 3)) (C := RX0) (T := TX0) (N := 13) hx hb hts uX3_now_X0 hown hK hP 1 rfl rfl 3 (by decide) (hts _ kX3_now_6) (fun _ h9 => h9) rfl dX3_now_72 ?_
          have e9 := Option.some.inj h
          exact q_iret hx hb hr hlocks hK hP hD hS dX3_now_75 (by first | rw [← e9] | rfl) (by first | rw [← e9] | rfl)
        · have h := q_f c_4 h
          by_cases c_5 : p1 = 4
          · have h := q_t c_5 h
            refine lv_tableIn (tgt := 76) (off := 75) hx hb dX3_now_1 (by rw [c_5]; decide) (by rw [c_5]; decide) (by rw [c_5]; rfl) (by decide) ?_
            refine lv_aload_n hx hb dX3_now_76 rfl (lv_at hl 0 rfl) ?_
            refine va_get (D := D) (ci := 3) (v := .ref (q 1)) (C := RX3) (T := TX3) (N := 7) hx hb hts uX3_now_X3 hown hK hP 0 rfl rfl 0 (by decide) (hts _ kX3_now_3) (fun _ h9 => h9) rfl dX3_now_77 ?_
            refine va_get (D := D) (ci := 0) (v := .int (R 0 5)) (C := RX0) (T := TX0) (N := 13) hx hb hts uX3_now_X0 hown hK hP 1 rfl rfl 5 (by decide) (hts _ kX3_now_7) (fun _ h9 => h9) rfl dX3_now_80 ?_
            have e9 := Option.some.inj h
            exact q_iret hx hb hr hlocks hK hP hD hS dX3_now_83 (by first | rw [← e9] | rfl) (by first | rw [← e9] | rfl)
          · have h := q_f c_5 h
            by_cases c_6 : p1 = 5
            · have h := q_t c_6 h
              refine lv_tableIn (tgt := 84) (off := 83) hx hb dX3_now_1 (by rw [c_6]; decide) (by rw [c_6]; decide) (by rw [c_6]; rfl) (by decide) ?_
              refine lv_aload_n hx hb dX3_now_84 rfl (lv_at hl 0 rfl) ?_
              refine va_get (D := D) (ci := 3) (v := .ref (q 1)) (C := RX3) (T := TX3) (N := 7) hx hb hts uX3_now_X3 hown hK hP 0 rfl rfl 0 (by decide) (hts _ kX3_now_3) (fun _ h9 => h9) rfl dX3_now_85 ?_
              refine va_get (D := D) (ci := 0) (v := .int (R 0 6)) (C := RX0) (T := TX0) (N := 13) hx hb hts uX3_now_X0 hown hK hP 1 rfl rfl 6 (by decide) (hts _ kX3_now_8) (fun _ h9 => h9) rfl dX3_now_88 ?_
              have e9 := Option.some.inj h
              exact q_iret hx hb hr hlocks hK hP hD hS dX3_now_91 (by first | rw [← e9] | rfl) (by first | rw [← e9] | rfl)
            · have h := q_f c_6 h
              by_cases c_7 : p1 = 6
              · have h := q_t c_7 h
                refine lv_tableIn (tgt := 92) (off := 91) hx hb dX3_now_1 (by rw [c_7]; decide) (by rw [c_7]; decide) (by rw [c_7]; rfl) (by decide) ?_
                refine lv_aload_n hx hb dX3_now_92 rfl (lv_at hl 0 rfl) ?_
                refine va_get (D := D) (ci := 3) (v := .ref (q 1)) (C := RX3) (T := TX3) (N := 7) hx hb hts uX3_now_X3 hown hK hP 0 rfl rfl 0 (by decide) (hts _ kX3_now_3) (fun _ h9 => h9) rfl dX3_now_93 ?_
                obtain ⟨r_8, hc_9, h⟩ := q_bd_ok h
                refine q_ci (r := r_8) (va_runV (As := []) (rest := []) ⟨hx, hb, hml, hown, hts⟩ (c_X0_weightOfAll l D y t (fun k => q (k + 1)) _ N R r_8 hc_9) (cwV 0 hts gX3_now_X0_weightOfAll rfl rfl rfl eX0_weightOfAll ⟨Nat.le_of_ble_eq_true rfl, Nat.le_of_ble_eq_true rfl⟩) ⟨q_blind, (va_recv hK hP (ci := 0) (q0 := 1) rfl rfl), (q_pre hP hK hZ hD hA hS [1, 2, 3, 4, 5, 6, 7] rfl (by decide))⟩ rfl rfl hl.1 rfl (lv_room (Nat.le_of_ble_eq_true rfl)) dX3_now_96 ⟨Nat.zero_le _, Nat.zero_le _⟩) hP hD hA hS [1, 2, 3, 4, 5, 6, 7] rfl (by decide) rfl (fun H locs hP hD hS => ?_)
                have hP : va_P D vwCl (wB y q b R T K P B L) H := hP
                have hD : va_D A (wB y q b R T K P B L) := hD
                have e9 := Option.some.inj h
                exact q_iret hx hb hr hlocks hK hP hD hS dX3_now_99 (by first | rw [← e9] | rfl) (by first | rw [← e9] | rfl)
              · have h := q_f c_7 h
                have nc_1 := lv_neT c_1 (show ((0 : Int32)).toInt = 0 from by decide)
                have nc_2 := lv_neT c_2 (show ((1 : Int32)).toInt = 1 from by decide)
                have nc_3 := lv_neT c_3 (show ((2 : Int32)).toInt = 2 from by decide)
                have nc_4 := lv_neT c_4 (show ((3 : Int32)).toInt = 3 from by decide)
                have nc_5 := lv_neT c_5 (show ((4 : Int32)).toInt = 4 from by decide)
                have nc_6 := lv_neT c_6 (show ((5 : Int32)).toInt = 5 from by decide)
                have nc_7 := lv_neT c_7 (show ((6 : Int32)).toInt = 6 from by decide)
                refine lv_tableOut (tgt := 100) hx hb dX3_now_1 (by omega) (by decide) ?_
                refine lv_aload_n hx hb dX3_now_100 rfl (lv_at hl 0 rfl) ?_
                refine lv_ldc (v := -1000000001) hx hb hown (hts _ kX3_now_9) dX3_now_101 ?_
                obtain ⟨r_10, b_11, hc_12, h⟩ := q_bd2_ok h
                refine q_ci0 (r := r_10) (va_runV (As := [.int (-1000000001 : Int32)]) (rest := []) ⟨hx, hb, hml, hown, hts⟩ (c_X3_found l D y t q _ N b R T K P B L (-1000000001 : Int32) (r_10, b_11) hc_12) (cwV 1 hts gX3_now_X3_found rfl rfl rfl eX3_found ⟨Nat.le_of_ble_eq_true rfl, Nat.le_of_ble_eq_true rfl⟩) ⟨q_blind, (va_recv hK hP (ci := 3) (q0 := 0) rfl rfl), (q_pre0 hP hK hZ hD hA hS)⟩ rfl rfl hl.1 rfl (lv_room (Nat.le_of_ble_eq_true rfl)) dX3_now_103 ⟨Nat.zero_le _, Nat.zero_le _⟩) hD hA hS (fun H locs hP hD hS => ?_)
                have hP : va_P D vwCl (wB y q b_11 R T K P B L) H := hP
                have hD : va_D A (wB y q b_11 R T K P B L) := hD
                have e9 := Option.some.inj h
                exact q_iret hx hb hr hlocks hK hP hD hS dX3_now_106 (by first | rw [← e9] | rfl) (by first | rw [← e9] | rfl)
theorem eX3_now : yX3_now.cls = RX3 ∧ yX3_now.cls ≠ "java/lang/invoke/MethodHandle" ∧ yX3_now.cls ≠ "java/lang/invoke/VarHandle" ∧ (parseMethodDescriptor yX3_now.desc).map (fun d => d.parameters.length) = some 1 := by decide +kernel
theorem kX3_load_0 : Cond.constant RX3 58 (-1000000001) ∈ wsX3_load := List.mem_of_getElem? (i := 1) (by decide +kernel)
theorem uX3_load_X3 : ∀ w ∈ u_ws RX3 TX3 7, w ∈ wsX3_load := by decide +kernel
theorem kX3_load_2 : Cond.fieldLink RX3 10 "BeamSeats" "real" "LBeamSeats$Island;" ∈ wsX3_load := List.mem_of_getElem? (i := 2) (by decide +kernel)
def f_X3_load_B19 (N : Nat) (b : Nat → Nat → Int32) (R : Nat → Nat → Int32) (T : Nat → Nat → Int32) (K : Nat → Nat → Int32) (P : Nat → Nat → Int32) (B : Nat → Nat → Int32) (L : Nat → Nat → Int64) : Option (Int32 × (Nat → Nat → Int32)) :=
  q_bd2 (f_X3_found N b R T K P B L (-1000000001 : Int32)) (fun r_4 b_5 =>
  some (r_4, b_5))
def f_X3_load (N : Nat) (b : Nat → Nat → Int32) (R : Nat → Nat → Int32) (T : Nat → Nat → Int32) (K : Nat → Nat → Int32) (P : Nat → Nat → Int32) (B : Nat → Nat → Int32) (L : Nat → Nat → Int64) (p1 : Int32) (p2 : Int32) : Option (Int32 × (Nat → Nat → Int32)) :=
  q_bd (f_X3_within N p1 (0 : Int32) (9 : Int32)) (fun r_1 =>
  if r_1 = 0 then
    f_X3_load_B19 N b R T K P B L
  else
    q_bd (f_X3_within N p2 (0 : Int32) (1 : Int32)) (fun r_7 =>
    if r_7 = 0 then
      f_X3_load_B19 N b R T K P B L
    else
      if p2 = 0 then
        q_bd (f_X0_bears N R p1) (fun r_13 =>
        some (r_13, b))
      else
        q_bd (f_X0_weightAt N R p1) (fun r_11 =>
        some (r_11, b))))
set_option maxHeartbeats 4000000 in
set_option maxRecDepth 100000 in
theorem c_X3_load (l : Launch) (D : va_G) (y : Nat → ClassId) (t : Nat → Nat) (q : Nat → Nat) (sz N : Nat) (b : Nat → Nat → Int32) (R : Nat → Nat → Int32) (T : Nat → Nat → Int32) (K : Nat → Nat → Int32) (P : Nat → Nat → Int32) (B : Nat → Nat → Int32) (L : Nat → Nat → Int64) (p1 : Int32) (p2 : Int32) (res : Int32 × (Nat → Nat → Int32)) (h : f_X3_load N b R T K P B L p1 p2 = some res) : Met l yX3_load wsX3_load ({ frames := 2, cells := 0, slots := 0, locals := 45 } : Room) (pPre D y t [.ref (q 0), .int p1, .int p2] (wB y q b R T K P B L) sz) (pQi D y (res.1) (wB y q (res.2) R T K P B L) (va_A (wB y q b R T K P B L) sz)) 0 0 (va_A (wB y q b R T K P B L) sz) := by
  refine q_start (Qc := (fun A => pQi D y (res.1) (wB y q (res.2) R T K P B L) A)) (cc := cX3_load) (maxL := 3) (ret := (some .int)) (by decide) rfl (Nat.le_of_ble_eq_true rfl) ?_
  intro p e s m below meth c A ls hx hb hr hts hown hlocks hmn hml hP hK hZ hD hA hS hl
  have hl : lv_has ls 3 [(0, .ref (q 0)), (1, .int p1), (2, .int p2)] := hl
  have hown : s.vm.findClass RX3 = some m.cls := hown
  have B19 : ∀ (b : Nat → Nat → Int32) (R : Nat → Nat → Int32) (T : Nat → Nat → Int32) (K : Nat → Nat → Int32) (P : Nat → Nat → Int32) (B : Nat → Nat → Int32) (L : Nat → Nat → Int64) (H : Heap) (locs : List Loc) (ls : Array Slot), va_P D vwCl (wB y q b R T K P B L) H → va_D A (wB y q b R T K P B L) → va_S A s.heap H locs → lv_has ls 3 [(0, .ref (q 0))] → f_X3_load_B19 N b R T K P B L = some res → W p l e ({ frames := 2, cells := 0, slots := 0, locals := 45 } : Room) s m ([.ref (q 0), .int p1, .int p2] : List Value).toArray below meth c H locs 0 0 (MQ below (pQi D y (res.1) (wB y q (res.2) R T K P B L) A) ([.ref (q 0), .int p1, .int p2] : List Value).toArray s 0 0 A) (F0 m 19 ls []) := by
    intro b R T K P B L H locs ls hP hD hS hl h
    unfold f_X3_load_B19 at h
    refine lv_aload_n hx hb dX3_load_19 rfl (lv_at hl 0 rfl) ?_
    refine lv_ldc (v := -1000000001) hx hb hown (hts _ kX3_load_0) dX3_load_20 ?_
    obtain ⟨r_4, b_5, hc_6, h⟩ := q_bd2_ok h
    refine q_ci0 (r := r_4) (va_runV (As := [.int (-1000000001 : Int32)]) (rest := []) ⟨hx, hb, hml, hown, hts⟩ (c_X3_found l D y t q _ N b R T K P B L (-1000000001 : Int32) (r_4, b_5) hc_6) (cwV 1 hts gX3_load_X3_found rfl rfl rfl eX3_found ⟨Nat.le_of_ble_eq_true rfl, Nat.le_of_ble_eq_true rfl⟩) ⟨q_blind, (va_recv hK hP (ci := 3) (q0 := 0) rfl rfl), (q_pre0 hP hK hZ hD hA hS)⟩ rfl rfl hl.1 rfl (lv_room (Nat.le_of_ble_eq_true rfl)) dX3_load_22 ⟨Nat.zero_le _, Nat.zero_le _⟩) hD hA hS (fun H locs hP hD hS => ?_)
    have hP : va_P D vwCl (wB y q b_5 R T K P B L) H := hP
    have hD : va_D A (wB y q b_5 R T K P B L) := hD
    have e9 := Option.some.inj h
    exact q_iret hx hb hr hlocks hK hP hD hS dX3_load_25 (by first | rw [← e9] | rfl) (by first | rw [← e9] | rfl)
  unfold f_X3_load at h
  refine lv_iload_n hx hb dX3_load_0 rfl (lv_at hl 1 rfl) ?_
  refine lv_iconst (v := 0) hx hb dX3_load_1 (by decide) ?_
  refine lv_bipush (v := 9) hx hb dX3_load_2 (by decide) ?_
  obtain ⟨r_1, hc_2, h⟩ := q_bd_ok h
  refine q_ci (r := r_1) (va_runS (As := [.int p1, .int (0 : Int32), .int (9 : Int32)]) (rest := []) ⟨hx, hb, hml, hown, hts⟩ (c_X3_within l D y t q _ N p1 (0 : Int32) (9 : Int32) r_1 hc_2) (va_cwS 3 hts gX3_load_X3_within rfl rfl rfl eX3_within ⟨Nat.le_of_ble_eq_true rfl, Nat.le_of_ble_eq_true rfl⟩) ⟨q_blind, (q_pre hP hK hZ hD hA hS [] rfl (by decide))⟩ rfl rfl hl.1 rfl (lv_room (Nat.le_of_ble_eq_true rfl)) dX3_load_4 ⟨Nat.zero_le _, Nat.zero_le _⟩) hP hD hA hS [] rfl (by decide) rfl (fun H locs hP hD hS => ?_)
  have hP : va_P D vwCl (wB y q b R T K P B L) H := hP
  have hD : va_D A (wB y q b R T K P B L) := hD
  refine lv_if_eq (tgt := 19) hx hb dX3_load_7 (by decide) (fun c_3 => ?_) (fun c_3 => ?_)
  · have h := q_t c_3 h
    exact B19 b R T K P B L _ _ _ hP hD hS (lv_sub hl [0] rfl) h
  · have h := q_f c_3 h
    refine lv_iload_n hx hb dX3_load_10 rfl (lv_at hl 2 rfl) ?_
    refine lv_iconst (v := 0) hx hb dX3_load_11 (by decide) ?_
    refine lv_iconst (v := 1) hx hb dX3_load_12 (by decide) ?_
    obtain ⟨r_7, hc_8, h⟩ := q_bd_ok h
    refine q_ci (r := r_7) (va_runS (As := [.int p2, .int (0 : Int32), .int (1 : Int32)]) (rest := []) ⟨hx, hb, hml, hown, hts⟩ (c_X3_within l D y t q _ N p2 (0 : Int32) (1 : Int32) r_7 hc_8) (va_cwS 3 hts gX3_load_X3_within rfl rfl rfl eX3_within ⟨Nat.le_of_ble_eq_true rfl, Nat.le_of_ble_eq_true rfl⟩) ⟨q_blind, (q_pre hP hK hZ hD hA hS [] rfl (by decide))⟩ rfl rfl hl.1 rfl (lv_room (Nat.le_of_ble_eq_true rfl)) dX3_load_13 ⟨Nat.zero_le _, Nat.zero_le _⟩) hP hD hA hS [] rfl (by decide) rfl (fun H locs hP hD hS => ?_)
    have hP : va_P D vwCl (wB y q b R T K P B L) H := hP
    have hD : va_D A (wB y q b R T K P B L) := hD
    refine lv_if_ne (tgt := 26) hx hb dX3_load_16 (by decide) (fun c_9 => ?_) (fun c_9 => ?_)
    · have h := q_f c_9 h
      refine lv_iload_n hx hb dX3_load_26 rfl (lv_at hl 2 rfl) ?_
      refine lv_if_ne (tgt := 41) hx hb dX3_load_27 (by decide) (fun c_10 => ?_) (fun c_10 => ?_)
      · have h := q_f c_10 h
        refine lv_aload_n hx hb dX3_load_41 rfl (lv_at hl 0 rfl) ?_
        refine va_get (D := D) (ci := 3) (v := .ref (q 1)) (C := RX3) (T := TX3) (N := 7) hx hb hts uX3_load_X3 hown hK hP 0 rfl rfl 0 (by decide) (hts _ kX3_load_2) (fun _ h9 => h9) rfl dX3_load_42 ?_
        refine lv_iload_n hx hb dX3_load_45 rfl (lv_at hl 1 rfl) ?_
        obtain ⟨r_11, hc_12, h⟩ := q_bd_ok h
        refine q_ci (r := r_11) (va_runV (As := [.int p1]) (rest := []) ⟨hx, hb, hml, hown, hts⟩ (c_X0_weightAt l D y t (fun k => q (k + 1)) _ N R p1 r_11 hc_12) (cwV 1 hts gX3_load_X0_weightAt rfl rfl rfl eX0_weightAt ⟨Nat.le_of_ble_eq_true rfl, Nat.le_of_ble_eq_true rfl⟩) ⟨q_blind, (va_recv hK hP (ci := 0) (q0 := 1) rfl rfl), (q_pre hP hK hZ hD hA hS [1, 2, 3, 4, 5, 6, 7] rfl (by decide))⟩ rfl rfl hl.1 rfl (lv_room (Nat.le_of_ble_eq_true rfl)) dX3_load_46 ⟨Nat.zero_le _, Nat.zero_le _⟩) hP hD hA hS [1, 2, 3, 4, 5, 6, 7] rfl (by decide) rfl (fun H locs hP hD hS => ?_)
        have hP : va_P D vwCl (wB y q b R T K P B L) H := hP
        have hD : va_D A (wB y q b R T K P B L) := hD
        have e9 := Option.some.inj h
        exact q_iret hx hb hr hlocks hK hP hD hS dX3_load_49 (by first | rw [← e9] | rfl) (by first | rw [← e9] | rfl)
      · have h := q_t c_10 h
        refine lv_aload_n hx hb dX3_load_30 rfl (lv_at hl 0 rfl) ?_
        refine va_get (D := D) (ci := 3) (v := .ref (q 1)) (C := RX3) (T := TX3) (N := 7) hx hb hts uX3_load_X3 hown hK hP 0 rfl rfl 0 (by decide) (hts _ kX3_load_2) (fun _ h9 => h9) rfl dX3_load_31 ?_
        refine lv_iload_n hx hb dX3_load_34 rfl (lv_at hl 1 rfl) ?_
        obtain ⟨r_13, hc_14, h⟩ := q_bd_ok h
        refine q_ci (r := r_13) (va_runV (As := [.int p1]) (rest := []) ⟨hx, hb, hml, hown, hts⟩ (c_X0_bears l D y t (fun k => q (k + 1)) _ N R p1 r_13 hc_14) (cwV 1 hts gX3_load_X0_bears rfl rfl rfl eX0_bears ⟨Nat.le_of_ble_eq_true rfl, Nat.le_of_ble_eq_true rfl⟩) ⟨q_blind, (va_recv hK hP (ci := 0) (q0 := 1) rfl rfl), (q_pre hP hK hZ hD hA hS [1, 2, 3, 4, 5, 6, 7] rfl (by decide))⟩ rfl rfl hl.1 rfl (lv_room (Nat.le_of_ble_eq_true rfl)) dX3_load_35 ⟨Nat.zero_le _, Nat.zero_le _⟩) hP hD hA hS [1, 2, 3, 4, 5, 6, 7] rfl (by decide) rfl (fun H locs hP hD hS => ?_)
        have hP : va_P D vwCl (wB y q b R T K P B L) H := hP
        have hD : va_D A (wB y q b R T K P B L) := hD
        refine lv_goto (tgt := 49) hx hb dX3_load_38 (by decide) ?_
        have e9 := Option.some.inj h
        exact q_iret hx hb hr hlocks hK hP hD hS dX3_load_49 (by first | rw [← e9] | rfl) (by first | rw [← e9] | rfl)
    · have h := q_t c_9 h
      exact B19 b R T K P B L _ _ _ hP hD hS (lv_sub hl [0] rfl) h
theorem eX3_load : yX3_load.cls = RX3 ∧ yX3_load.cls ≠ "java/lang/invoke/MethodHandle" ∧ yX3_load.cls ≠ "java/lang/invoke/VarHandle" ∧ (parseMethodDescriptor yX3_load.desc).map (fun d => d.parameters.length) = some 2 := by decide +kernel
theorem kX3_thing_0 : Cond.constant RX3 58 (-1000000001) ∈ wsX3_thing := List.mem_of_getElem? (i := 1) (by decide +kernel)
theorem uX3_thing_X3 : ∀ w ∈ u_ws RX3 TX3 7, w ∈ wsX3_thing := by decide +kernel
theorem kX3_thing_2 : Cond.fieldLink RX3 10 "BeamSeats" "real" "LBeamSeats$Island;" ∈ wsX3_thing := List.mem_of_getElem? (i := 2) (by decide +kernel)
theorem kX3_thing_3 : Cond.constant RX3 85 (-1000000002) ∈ wsX3_thing := List.mem_of_getElem? (i := 4) (by decide +kernel)
theorem uX3_thing_X0 : ∀ w ∈ u_ws RX0 TX0 13, w ∈ wsX3_thing := by decide +kernel
theorem kX3_thing_5 : Cond.fieldLink RX3 82 "BeamSeats$Island" "size" "I" ∈ wsX3_thing := List.mem_of_getElem? (i := 3) (by decide +kernel)
def f_X3_thing_B19 (N : Nat) (b : Nat → Nat → Int32) (R : Nat → Nat → Int32) (T : Nat → Nat → Int32) (K : Nat → Nat → Int32) (P : Nat → Nat → Int32) (B : Nat → Nat → Int32) (L : Nat → Nat → Int64) : Option (Int32 × (Nat → Nat → Int32) × (Nat → Nat → Int32)) :=
  q_bd2 (f_X3_found N b R T K P B L (-1000000001 : Int32)) (fun r_4 b_5 =>
  some (r_4, b_5, R))
def f_X3_thing (N : Nat) (b : Nat → Nat → Int32) (R : Nat → Nat → Int32) (T : Nat → Nat → Int32) (K : Nat → Nat → Int32) (P : Nat → Nat → Int32) (B : Nat → Nat → Int32) (L : Nat → Nat → Int64) (p1 : Int32) (p2 : Int32) : Option (Int32 × (Nat → Nat → Int32) × (Nat → Nat → Int32)) :=
  q_bd (f_X3_within N p1 (0 : Int32) (5 : Int32)) (fun r_1 =>
  if r_1 = 0 then
    f_X3_thing_B19 N b R T K P B L
  else
    q_bd (f_X3_within N p2 (0 : Int32) (59 : Int32)) (fun r_7 =>
    if r_7 = 0 then
      f_X3_thing_B19 N b R T K P B L
    else
      if (R 0 4) < (8 : Int32) then
        q_bd2 (f_X0_add N R p1 p2) (fun r_11 R_12 =>
        some (r_11, b, R_12))
      else
        q_bd2 (f_X3_found N b R T K P B L (-1000000002 : Int32)) (fun r_14 b_15 =>
        some (r_14, b_15, R))))
set_option maxHeartbeats 4000000 in
set_option maxRecDepth 100000 in
theorem c_X3_thing (l : Launch) (D : va_G) (y : Nat → ClassId) (t : Nat → Nat) (q : Nat → Nat) (sz N : Nat) (b : Nat → Nat → Int32) (R : Nat → Nat → Int32) (T : Nat → Nat → Int32) (K : Nat → Nat → Int32) (P : Nat → Nat → Int32) (B : Nat → Nat → Int32) (L : Nat → Nat → Int64) (p1 : Int32) (p2 : Int32) (res : Int32 × (Nat → Nat → Int32) × (Nat → Nat → Int32)) (h : f_X3_thing N b R T K P B L p1 p2 = some res) : Met l yX3_thing wsX3_thing ({ frames := 2, cells := 0, slots := 0, locals := 44 } : Room) (pPre D y t [.ref (q 0), .int p1, .int p2] (wB y q b R T K P B L) sz) (pQi D y (res.1) (wB y q (res.2.1) (res.2.2) T K P B L) (va_A (wB y q b R T K P B L) sz)) 0 0 (va_A (wB y q b R T K P B L) sz) := by
  refine q_start (Qc := (fun A => pQi D y (res.1) (wB y q (res.2.1) (res.2.2) T K P B L) A)) (cc := cX3_thing) (maxL := 3) (ret := (some .int)) (by decide) rfl (Nat.le_of_ble_eq_true rfl) ?_
  intro p e s m below meth c A ls hx hb hr hts hown hlocks hmn hml hP hK hZ hD hA hS hl
  have hl : lv_has ls 3 [(0, .ref (q 0)), (1, .int p1), (2, .int p2)] := hl
  have hown : s.vm.findClass RX3 = some m.cls := hown
  have B19 : ∀ (b : Nat → Nat → Int32) (R : Nat → Nat → Int32) (T : Nat → Nat → Int32) (K : Nat → Nat → Int32) (P : Nat → Nat → Int32) (B : Nat → Nat → Int32) (L : Nat → Nat → Int64) (H : Heap) (locs : List Loc) (ls : Array Slot), va_P D vwCl (wB y q b R T K P B L) H → va_D A (wB y q b R T K P B L) → va_S A s.heap H locs → lv_has ls 3 [(0, .ref (q 0))] → f_X3_thing_B19 N b R T K P B L = some res → W p l e ({ frames := 2, cells := 0, slots := 0, locals := 44 } : Room) s m ([.ref (q 0), .int p1, .int p2] : List Value).toArray below meth c H locs 0 0 (MQ below (pQi D y (res.1) (wB y q (res.2.1) (res.2.2) T K P B L) A) ([.ref (q 0), .int p1, .int p2] : List Value).toArray s 0 0 A) (F0 m 19 ls []) := by
    intro b R T K P B L H locs ls hP hD hS hl h
    unfold f_X3_thing_B19 at h
    refine lv_aload_n hx hb dX3_thing_19 rfl (lv_at hl 0 rfl) ?_
    refine lv_ldc (v := -1000000001) hx hb hown (hts _ kX3_thing_0) dX3_thing_20 ?_
    obtain ⟨r_4, b_5, hc_6, h⟩ := q_bd2_ok h
    refine q_ci0 (r := r_4) (va_runV (As := [.int (-1000000001 : Int32)]) (rest := []) ⟨hx, hb, hml, hown, hts⟩ (c_X3_found l D y t q _ N b R T K P B L (-1000000001 : Int32) (r_4, b_5) hc_6) (cwV 1 hts gX3_thing_X3_found rfl rfl rfl eX3_found ⟨Nat.le_of_ble_eq_true rfl, Nat.le_of_ble_eq_true rfl⟩) ⟨q_blind, (va_recv hK hP (ci := 3) (q0 := 0) rfl rfl), (q_pre0 hP hK hZ hD hA hS)⟩ rfl rfl hl.1 rfl (lv_room (Nat.le_of_ble_eq_true rfl)) dX3_thing_22 ⟨Nat.zero_le _, Nat.zero_le _⟩) hD hA hS (fun H locs hP hD hS => ?_)
    have hP : va_P D vwCl (wB y q b_5 R T K P B L) H := hP
    have hD : va_D A (wB y q b_5 R T K P B L) := hD
    have e9 := Option.some.inj h
    exact q_iret hx hb hr hlocks hK hP hD hS dX3_thing_25 (by first | rw [← e9] | rfl) (by first | rw [← e9] | rfl)
  unfold f_X3_thing at h
  refine lv_iload_n hx hb dX3_thing_0 rfl (lv_at hl 1 rfl) ?_
  refine lv_iconst (v := 0) hx hb dX3_thing_1 (by decide) ?_
  refine lv_iconst (v := 5) hx hb dX3_thing_2 (by decide) ?_
  obtain ⟨r_1, hc_2, h⟩ := q_bd_ok h
  refine q_ci (r := r_1) (va_runS (As := [.int p1, .int (0 : Int32), .int (5 : Int32)]) (rest := []) ⟨hx, hb, hml, hown, hts⟩ (c_X3_within l D y t q _ N p1 (0 : Int32) (5 : Int32) r_1 hc_2) (va_cwS 3 hts gX3_thing_X3_within rfl rfl rfl eX3_within ⟨Nat.le_of_ble_eq_true rfl, Nat.le_of_ble_eq_true rfl⟩) ⟨q_blind, (q_pre hP hK hZ hD hA hS [] rfl (by decide))⟩ rfl rfl hl.1 rfl (lv_room (Nat.le_of_ble_eq_true rfl)) dX3_thing_3 ⟨Nat.zero_le _, Nat.zero_le _⟩) hP hD hA hS [] rfl (by decide) rfl (fun H locs hP hD hS => ?_)
  have hP : va_P D vwCl (wB y q b R T K P B L) H := hP
  have hD : va_D A (wB y q b R T K P B L) := hD
  refine lv_if_eq (tgt := 19) hx hb dX3_thing_6 (by decide) (fun c_3 => ?_) (fun c_3 => ?_)
  · have h := q_t c_3 h
    exact B19 b R T K P B L _ _ _ hP hD hS (lv_sub hl [0] rfl) h
  · have h := q_f c_3 h
    refine lv_iload_n hx hb dX3_thing_9 rfl (lv_at hl 2 rfl) ?_
    refine lv_iconst (v := 0) hx hb dX3_thing_10 (by decide) ?_
    refine lv_bipush (v := 59) hx hb dX3_thing_11 (by decide) ?_
    obtain ⟨r_7, hc_8, h⟩ := q_bd_ok h
    refine q_ci (r := r_7) (va_runS (As := [.int p2, .int (0 : Int32), .int (59 : Int32)]) (rest := []) ⟨hx, hb, hml, hown, hts⟩ (c_X3_within l D y t q _ N p2 (0 : Int32) (59 : Int32) r_7 hc_8) (va_cwS 3 hts gX3_thing_X3_within rfl rfl rfl eX3_within ⟨Nat.le_of_ble_eq_true rfl, Nat.le_of_ble_eq_true rfl⟩) ⟨q_blind, (q_pre hP hK hZ hD hA hS [] rfl (by decide))⟩ rfl rfl hl.1 rfl (lv_room (Nat.le_of_ble_eq_true rfl)) dX3_thing_13 ⟨Nat.zero_le _, Nat.zero_le _⟩) hP hD hA hS [] rfl (by decide) rfl (fun H locs hP hD hS => ?_)
    have hP : va_P D vwCl (wB y q b R T K P B L) H := hP
    have hD : va_D A (wB y q b R T K P B L) := hD
    refine lv_if_ne (tgt := 26) hx hb dX3_thing_16 (by decide) (fun c_9 => ?_) (fun c_9 => ?_)
    · have h := q_f c_9 h
      refine lv_aload_n hx hb dX3_thing_26 rfl (lv_at hl 0 rfl) ?_
      refine va_get (D := D) (ci := 3) (v := .ref (q 1)) (C := RX3) (T := TX3) (N := 7) hx hb hts uX3_thing_X3 hown hK hP 0 rfl rfl 0 (by decide) (hts _ kX3_thing_2) (fun _ h9 => h9) rfl dX3_thing_27 ?_
      refine va_get (D := D) (ci := 0) (v := .int (R 0 4)) (C := RX0) (T := TX0) (N := 13) hx hb hts uX3_thing_X0 hown hK hP 1 rfl rfl 4 (by decide) (hts _ kX3_thing_5) (fun _ h9 => h9) rfl dX3_thing_30 ?_
      refine lv_bipush (v := 8) hx hb dX3_thing_33 (by decide) ?_
      refine lv_icmp_lt (tgt := 45) hx hb dX3_thing_35 (by decide) (fun c_10 => ?_) (fun c_10 => ?_)
      · have h := q_t c_10 h
        refine lv_aload_n hx hb dX3_thing_45 rfl (lv_at hl 0 rfl) ?_
        refine va_get (D := D) (ci := 3) (v := .ref (q 1)) (C := RX3) (T := TX3) (N := 7) hx hb hts uX3_thing_X3 hown hK hP 0 rfl rfl 0 (by decide) (hts _ kX3_thing_2) (fun _ h9 => h9) rfl dX3_thing_46 ?_
        refine lv_iload_n hx hb dX3_thing_49 rfl (lv_at hl 1 rfl) ?_
        refine lv_iload_n hx hb dX3_thing_50 rfl (lv_at hl 2 rfl) ?_
        obtain ⟨r_11, R_12, hc_13, h⟩ := q_bd2_ok h
        refine q_ci (r := r_11) (va_runV (As := [.int p1, .int p2]) (rest := []) ⟨hx, hb, hml, hown, hts⟩ (c_X0_add l D y t (fun k => q (k + 1)) _ N R p1 p2 (r_11, R_12) hc_13) (cwV 2 hts gX3_thing_X0_add rfl rfl rfl eX0_add ⟨Nat.le_of_ble_eq_true rfl, Nat.le_of_ble_eq_true rfl⟩) ⟨q_blind, (va_recv hK hP (ci := 0) (q0 := 1) rfl rfl), (q_pre hP hK hZ hD hA hS [1, 2, 3, 4, 5, 6, 7] rfl (by decide))⟩ rfl rfl hl.1 rfl (lv_room (Nat.le_of_ble_eq_true rfl)) dX3_thing_51 ⟨Nat.zero_le _, Nat.zero_le _⟩) hP hD hA hS [1, 2, 3, 4, 5, 6, 7] rfl (by decide) rfl (fun H locs hP hD hS => ?_)
        have hP : va_P D vwCl (wB y q b R_12 T K P B L) H := hP
        have hD : va_D A (wB y q b R_12 T K P B L) := hD
        have e9 := Option.some.inj h
        exact q_iret hx hb hr hlocks hK hP hD hS dX3_thing_54 (by first | rw [← e9] | rfl) (by first | rw [← e9] | rfl)
      · have h := q_f c_10 h
        refine lv_aload_n hx hb dX3_thing_38 rfl (lv_at hl 0 rfl) ?_
        refine lv_ldc (v := -1000000002) hx hb hown (hts _ kX3_thing_3) dX3_thing_39 ?_
        obtain ⟨r_14, b_15, hc_16, h⟩ := q_bd2_ok h
        refine q_ci0 (r := r_14) (va_runV (As := [.int (-1000000002 : Int32)]) (rest := []) ⟨hx, hb, hml, hown, hts⟩ (c_X3_found l D y t q _ N b R T K P B L (-1000000002 : Int32) (r_14, b_15) hc_16) (cwV 1 hts gX3_thing_X3_found rfl rfl rfl eX3_found ⟨Nat.le_of_ble_eq_true rfl, Nat.le_of_ble_eq_true rfl⟩) ⟨q_blind, (va_recv hK hP (ci := 3) (q0 := 0) rfl rfl), (q_pre0 hP hK hZ hD hA hS)⟩ rfl rfl hl.1 rfl (lv_room (Nat.le_of_ble_eq_true rfl)) dX3_thing_41 ⟨Nat.zero_le _, Nat.zero_le _⟩) hD hA hS (fun H locs hP hD hS => ?_)
        have hP : va_P D vwCl (wB y q b_15 R T K P B L) H := hP
        have hD : va_D A (wB y q b_15 R T K P B L) := hD
        have e9 := Option.some.inj h
        exact q_iret hx hb hr hlocks hK hP hD hS dX3_thing_44 (by first | rw [← e9] | rfl) (by first | rw [← e9] | rfl)
    · have h := q_t c_9 h
      exact B19 b R T K P B L _ _ _ hP hD hS (lv_sub hl [0] rfl) h
theorem eX3_thing : yX3_thing.cls = RX3 ∧ yX3_thing.cls ≠ "java/lang/invoke/MethodHandle" ∧ yX3_thing.cls ≠ "java/lang/invoke/VarHandle" ∧ (parseMethodDescriptor yX3_thing.desc).map (fun d => d.parameters.length) = some 2 := by decide +kernel
theorem uX3_of_X0 : ∀ w ∈ u_ws RX0 TX0 13, w ∈ wsX3_of := by decide +kernel
theorem kX3_of_1 : Cond.fieldLink RX3 94 "BeamSeats$Island" "kinds" "[I" ∈ wsX3_of := List.mem_of_getElem? (i := 3) (by decide +kernel)
theorem uX3_of_X3 : ∀ w ∈ u_ws RX3 TX3 7, w ∈ wsX3_of := by decide +kernel
theorem kX3_of_3 : Cond.fieldLink RX3 10 "BeamSeats" "real" "LBeamSeats$Island;" ∈ wsX3_of := List.mem_of_getElem? (i := 1) (by decide +kernel)
theorem kX3_of_4 : Cond.fieldLink RX3 97 "BeamSeats$Island" "places" "[I" ∈ wsX3_of := List.mem_of_getElem? (i := 4) (by decide +kernel)
theorem kX3_of_5 : Cond.fieldLink RX3 100 "BeamSeats$Island" "outs" "[I" ∈ wsX3_of := List.mem_of_getElem? (i := 5) (by decide +kernel)
theorem kX3_of_6 : Cond.fieldLink RX3 106 "BeamSeats$Island" "wets" "[I" ∈ wsX3_of := List.mem_of_getElem? (i := 6) (by decide +kernel)
theorem kX3_of_7 : Cond.fieldLink RX3 109 "BeamSeats$Island" "goals" "[I" ∈ wsX3_of := List.mem_of_getElem? (i := 7) (by decide +kernel)
theorem kX3_of_8 : Cond.fieldLink RX3 115 "BeamSeats$Island" "times" "[I" ∈ wsX3_of := List.mem_of_getElem? (i := 8) (by decide +kernel)
theorem kX3_of_9 : Cond.constant RX3 58 (-1000000001) ∈ wsX3_of := List.mem_of_getElem? (i := 2) (by decide +kernel)
def f_X3_of (N : Nat) (b : Nat → Nat → Int32) (R : Nat → Nat → Int32) (T : Nat → Nat → Int32) (K : Nat → Nat → Int32) (P : Nat → Nat → Int32) (B : Nat → Nat → Int32) (L : Nat → Nat → Int64) (p1 : Int32) (p2 : Int32) : Option (Int32 × (Nat → Nat → Int32)) :=
  q_bd (f_X0_has N R p1) (fun r_1 =>
  if r_1 = 0 then
    q_bd2 (f_X3_found N b R T K P B L (-1000000001 : Int32)) (fun r_33 b_34 =>
    some (r_33, b_34))
  else
    if p2 = 0 then
      q_grd p1 8 (
      some ((R 1 p1.toNatClampNeg), b))
    else
      if p2 = 1 then
        q_grd p1 8 (
        some ((R 2 p1.toNatClampNeg), b))
      else
        if p2 = 2 then
          q_grd p1 8 (
          some ((R 3 p1.toNatClampNeg), b))
        else
          if p2 = 3 then
            q_bd (f_X0_isOn N R p1) (fun r_11 =>
            if r_11 = 0 then
              some ((0 : Int32), b)
            else
              some ((1 : Int32), b))
          else
            if p2 = 4 then
              q_grd p1 8 (
              some ((R 4 p1.toNatClampNeg), b))
            else
              if p2 = 5 then
                q_grd p1 8 (
                some ((R 5 p1.toNatClampNeg), b))
              else
                if p2 = 6 then
                  q_bd (f_X0_isLost N R p1) (fun r_19 =>
                  if r_19 = 0 then
                    some ((0 : Int32), b)
                  else
                    some ((1 : Int32), b))
                else
                  if p2 = 7 then
                    q_grd p1 8 (
                    some ((R 6 p1.toNatClampNeg), b))
                  else
                    if p2 = 8 then
                      q_bd (f_X0_weightOf N R p1) (fun r_25 =>
                      some (r_25, b))
                    else
                      if p2 = 9 then
                        q_bd (f_X0_dries N R p1) (fun r_28 =>
                        some (r_28, b))
                      else
                        q_bd2 (f_X3_found N b R T K P B L (-1000000001 : Int32)) (fun r_30 b_31 =>
                        some (r_30, b_31)))
set_option maxHeartbeats 4000000 in
set_option maxRecDepth 100000 in
theorem c_X3_of (l : Launch) (D : va_G) (y : Nat → ClassId) (t : Nat → Nat) (q : Nat → Nat) (sz N : Nat) (b : Nat → Nat → Int32) (R : Nat → Nat → Int32) (T : Nat → Nat → Int32) (K : Nat → Nat → Int32) (P : Nat → Nat → Int32) (B : Nat → Nat → Int32) (L : Nat → Nat → Int64) (p1 : Int32) (p2 : Int32) (res : Int32 × (Nat → Nat → Int32)) (h : f_X3_of N b R T K P B L p1 p2 = some res) : Met l yX3_of wsX3_of ({ frames := 2, cells := 0, slots := 0, locals := 44 } : Room) (pPre D y t [.ref (q 0), .int p1, .int p2] (wB y q b R T K P B L) sz) (pQi D y (res.1) (wB y q (res.2) R T K P B L) (va_A (wB y q b R T K P B L) sz)) 0 0 (va_A (wB y q b R T K P B L) sz) := by
  refine q_start (Qc := (fun A => pQi D y (res.1) (wB y q (res.2) R T K P B L) A)) (cc := cX3_of) (maxL := 3) (ret := (some .int)) (by decide) rfl (Nat.le_of_ble_eq_true rfl) ?_
  intro p e s m below meth c A ls hx hb hr hts hown hlocks hmn hml hP hK hZ hD hA hS hl
  have hl : lv_has ls 3 [(0, .ref (q 0)), (1, .int p1), (2, .int p2)] := hl
  have hown : s.vm.findClass RX3 = some m.cls := hown
  unfold f_X3_of at h
  refine lv_aload_n hx hb dX3_of_0 rfl (lv_at hl 0 rfl) ?_
  refine va_get (D := D) (ci := 3) (v := .ref (q 1)) (C := RX3) (T := TX3) (N := 7) hx hb hts uX3_of_X3 hown hK hP 0 rfl rfl 0 (by decide) (hts _ kX3_of_3) (fun _ h9 => h9) rfl dX3_of_1 ?_
  refine lv_iload_n hx hb dX3_of_4 rfl (lv_at hl 1 rfl) ?_
  obtain ⟨r_1, hc_2, h⟩ := q_bd_ok h
  refine q_ci (r := r_1) (va_runV (As := [.int p1]) (rest := []) ⟨hx, hb, hml, hown, hts⟩ (c_X0_has l D y t (fun k => q (k + 1)) _ N R p1 r_1 hc_2) (cwV 1 hts gX3_of_X0_has rfl rfl rfl eX0_has ⟨Nat.le_of_ble_eq_true rfl, Nat.le_of_ble_eq_true rfl⟩) ⟨q_blind, (va_recv hK hP (ci := 0) (q0 := 1) rfl rfl), (q_pre hP hK hZ hD hA hS [1, 2, 3, 4, 5, 6, 7] rfl (by decide))⟩ rfl rfl hl.1 rfl (lv_room (Nat.le_of_ble_eq_true rfl)) dX3_of_5 ⟨Nat.zero_le _, Nat.zero_le _⟩) hP hD hA hS [1, 2, 3, 4, 5, 6, 7] rfl (by decide) rfl (fun H locs hP hD hS => ?_)
  have hP : va_P D vwCl (wB y q b R T K P B L) H := hP
  have hD : va_D A (wB y q b R T K P B L) := hD
  refine lv_if_ne (tgt := 18) hx hb dX3_of_8 (by decide) (fun c_3 => ?_) (fun c_3 => ?_)
  · have h := q_f c_3 h
    refine lv_iload_n hx hb dX3_of_18 rfl (lv_at hl 2 rfl) ?_
    by_cases c_4 : p2 = 0
    · have h := q_t c_4 h
      refine lv_tableIn (tgt := 72) (off := 53) hx hb dX3_of_19 (by rw [c_4]; decide) (by rw [c_4]; decide) (by rw [c_4]; rfl) (by decide) ?_
      refine lv_aload_n hx hb dX3_of_72 rfl (lv_at hl 0 rfl) ?_
      refine va_get (D := D) (ci := 3) (v := .ref (q 1)) (C := RX3) (T := TX3) (N := 7) hx hb hts uX3_of_X3 hown hK hP 0 rfl rfl 0 (by decide) (hts _ kX3_of_3) (fun _ h9 => h9) rfl dX3_of_73 ?_
      refine va_get (D := D) (ci := 0) (v := .ref (q 2)) (C := RX0) (T := TX0) (N := 13) hx hb hts uX3_of_X0 hown hK hP 1 rfl rfl 7 (by decide) (hts _ kX3_of_1) (fun _ h9 => h9) rfl dX3_of_76 ?_
      refine lv_iload_n hx hb dX3_of_79 rfl (lv_at hl 1 rfl) ?_
      obtain ⟨z_5, h⟩ := q_grd_ok h
      refine va_iald hx hb hK hP 2 0 rfl rfl z_5 dX3_of_80 ?_
      have e9 := Option.some.inj h
      exact q_iret hx hb hr hlocks hK hP hD hS dX3_of_81 (by first | rw [← e9] | rfl) (by first | rw [← e9] | rfl)
    · have h := q_f c_4 h
      by_cases c_6 : p2 = 1
      · have h := q_t c_6 h
        refine lv_tableIn (tgt := 82) (off := 63) hx hb dX3_of_19 (by rw [c_6]; decide) (by rw [c_6]; decide) (by rw [c_6]; rfl) (by decide) ?_
        refine lv_aload_n hx hb dX3_of_82 rfl (lv_at hl 0 rfl) ?_
        refine va_get (D := D) (ci := 3) (v := .ref (q 1)) (C := RX3) (T := TX3) (N := 7) hx hb hts uX3_of_X3 hown hK hP 0 rfl rfl 0 (by decide) (hts _ kX3_of_3) (fun _ h9 => h9) rfl dX3_of_83 ?_
        refine va_get (D := D) (ci := 0) (v := .ref (q 3)) (C := RX0) (T := TX0) (N := 13) hx hb hts uX3_of_X0 hown hK hP 1 rfl rfl 8 (by decide) (hts _ kX3_of_4) (fun _ h9 => h9) rfl dX3_of_86 ?_
        refine lv_iload_n hx hb dX3_of_89 rfl (lv_at hl 1 rfl) ?_
        obtain ⟨z_7, h⟩ := q_grd_ok h
        refine va_iald hx hb hK hP 3 0 rfl rfl z_7 dX3_of_90 ?_
        have e9 := Option.some.inj h
        exact q_iret hx hb hr hlocks hK hP hD hS dX3_of_91 (by first | rw [← e9] | rfl) (by first | rw [← e9] | rfl)
      · have h := q_f c_6 h
        by_cases c_8 : p2 = 2
        · have h := q_t c_8 h
          refine lv_tableIn (tgt := 92) (off := 73) hx hb dX3_of_19 (by rw [c_8]; decide) (by rw [c_8]; decide) (by rw [c_8]; rfl) (by decide) ?_
          refine lv_aload_n hx hb dX3_of_92 rfl (lv_at hl 0 rfl) ?_
          refine va_get (D := D) (ci := 3) (v := .ref (q 1)) (C := RX3) (T := TX3) (N := 7) hx hb hts uX3_of_X3 hown hK hP 0 rfl rfl 0 (by decide) (hts _ kX3_of_3) (fun _ h9 => h9) rfl dX3_of_93 ?_
          refine va_get (D := D) (ci := 0) (v := .ref (q 4)) (C := RX0) (T := TX0) (N := 13) hx hb hts uX3_of_X0 hown hK hP 1 rfl rfl 9 (by decide) (hts _ kX3_of_5) (fun _ h9 => h9) rfl dX3_of_96 ?_
          refine lv_iload_n hx hb dX3_of_99 rfl (lv_at hl 1 rfl) ?_
          obtain ⟨z_9, h⟩ := q_grd_ok h
          refine va_iald hx hb hK hP 4 0 rfl rfl z_9 dX3_of_100 ?_
          have e9 := Option.some.inj h
          exact q_iret hx hb hr hlocks hK hP hD hS dX3_of_101 (by first | rw [← e9] | rfl) (by first | rw [← e9] | rfl)
        · have h := q_f c_8 h
          by_cases c_10 : p2 = 3
          · have h := q_t c_10 h
            refine lv_tableIn (tgt := 102) (off := 83) hx hb dX3_of_19 (by rw [c_10]; decide) (by rw [c_10]; decide) (by rw [c_10]; rfl) (by decide) ?_
            refine lv_aload_n hx hb dX3_of_102 rfl (lv_at hl 0 rfl) ?_
            refine va_get (D := D) (ci := 3) (v := .ref (q 1)) (C := RX3) (T := TX3) (N := 7) hx hb hts uX3_of_X3 hown hK hP 0 rfl rfl 0 (by decide) (hts _ kX3_of_3) (fun _ h9 => h9) rfl dX3_of_103 ?_
            refine lv_iload_n hx hb dX3_of_106 rfl (lv_at hl 1 rfl) ?_
            obtain ⟨r_11, hc_12, h⟩ := q_bd_ok h
            refine q_ci (r := r_11) (va_runV (As := [.int p1]) (rest := []) ⟨hx, hb, hml, hown, hts⟩ (c_X0_isOn l D y t (fun k => q (k + 1)) _ N R p1 r_11 hc_12) (cwV 1 hts gX3_of_X0_isOn rfl rfl rfl eX0_isOn ⟨Nat.le_of_ble_eq_true rfl, Nat.le_of_ble_eq_true rfl⟩) ⟨q_blind, (va_recv hK hP (ci := 0) (q0 := 1) rfl rfl), (q_pre hP hK hZ hD hA hS [1, 2, 3, 4, 5, 6, 7] rfl (by decide))⟩ rfl rfl hl.1 rfl (lv_room (Nat.le_of_ble_eq_true rfl)) dX3_of_107 ⟨Nat.zero_le _, Nat.zero_le _⟩) hP hD hA hS [1, 2, 3, 4, 5, 6, 7] rfl (by decide) rfl (fun H locs hP hD hS => ?_)
            have hP : va_P D vwCl (wB y q b R T K P B L) H := hP
            have hD : va_D A (wB y q b R T K P B L) := hD
            refine lv_if_eq (tgt := 117) hx hb dX3_of_110 (by decide) (fun c_13 => ?_) (fun c_13 => ?_)
            · have h := q_t c_13 h
              refine lv_iconst (v := 0) hx hb dX3_of_117 (by decide) ?_
              have e9 := Option.some.inj h
              exact q_iret hx hb hr hlocks hK hP hD hS dX3_of_118 (by first | rw [← e9] | rfl) (by first | rw [← e9] | rfl)
            · have h := q_f c_13 h
              refine lv_iconst (v := 1) hx hb dX3_of_113 (by decide) ?_
              refine lv_goto (tgt := 118) hx hb dX3_of_114 (by decide) ?_
              have e9 := Option.some.inj h
              exact q_iret hx hb hr hlocks hK hP hD hS dX3_of_118 (by first | rw [← e9] | rfl) (by first | rw [← e9] | rfl)
          · have h := q_f c_10 h
            by_cases c_14 : p2 = 4
            · have h := q_t c_14 h
              refine lv_tableIn (tgt := 119) (off := 100) hx hb dX3_of_19 (by rw [c_14]; decide) (by rw [c_14]; decide) (by rw [c_14]; rfl) (by decide) ?_
              refine lv_aload_n hx hb dX3_of_119 rfl (lv_at hl 0 rfl) ?_
              refine va_get (D := D) (ci := 3) (v := .ref (q 1)) (C := RX3) (T := TX3) (N := 7) hx hb hts uX3_of_X3 hown hK hP 0 rfl rfl 0 (by decide) (hts _ kX3_of_3) (fun _ h9 => h9) rfl dX3_of_120 ?_
              refine va_get (D := D) (ci := 0) (v := .ref (q 5)) (C := RX0) (T := TX0) (N := 13) hx hb hts uX3_of_X0 hown hK hP 1 rfl rfl 10 (by decide) (hts _ kX3_of_6) (fun _ h9 => h9) rfl dX3_of_123 ?_
              refine lv_iload_n hx hb dX3_of_126 rfl (lv_at hl 1 rfl) ?_
              obtain ⟨z_15, h⟩ := q_grd_ok h
              refine va_iald hx hb hK hP 5 0 rfl rfl z_15 dX3_of_127 ?_
              have e9 := Option.some.inj h
              exact q_iret hx hb hr hlocks hK hP hD hS dX3_of_128 (by first | rw [← e9] | rfl) (by first | rw [← e9] | rfl)
            · have h := q_f c_14 h
              by_cases c_16 : p2 = 5
              · have h := q_t c_16 h
                refine lv_tableIn (tgt := 129) (off := 110) hx hb dX3_of_19 (by rw [c_16]; decide) (by rw [c_16]; decide) (by rw [c_16]; rfl) (by decide) ?_
                refine lv_aload_n hx hb dX3_of_129 rfl (lv_at hl 0 rfl) ?_
                refine va_get (D := D) (ci := 3) (v := .ref (q 1)) (C := RX3) (T := TX3) (N := 7) hx hb hts uX3_of_X3 hown hK hP 0 rfl rfl 0 (by decide) (hts _ kX3_of_3) (fun _ h9 => h9) rfl dX3_of_130 ?_
                refine va_get (D := D) (ci := 0) (v := .ref (q 6)) (C := RX0) (T := TX0) (N := 13) hx hb hts uX3_of_X0 hown hK hP 1 rfl rfl 11 (by decide) (hts _ kX3_of_7) (fun _ h9 => h9) rfl dX3_of_133 ?_
                refine lv_iload_n hx hb dX3_of_136 rfl (lv_at hl 1 rfl) ?_
                obtain ⟨z_17, h⟩ := q_grd_ok h
                refine va_iald hx hb hK hP 6 0 rfl rfl z_17 dX3_of_137 ?_
                have e9 := Option.some.inj h
                exact q_iret hx hb hr hlocks hK hP hD hS dX3_of_138 (by first | rw [← e9] | rfl) (by first | rw [← e9] | rfl)
              · have h := q_f c_16 h
                by_cases c_18 : p2 = 6
                · have h := q_t c_18 h
                  refine lv_tableIn (tgt := 139) (off := 120) hx hb dX3_of_19 (by rw [c_18]; decide) (by rw [c_18]; decide) (by rw [c_18]; rfl) (by decide) ?_
                  refine lv_aload_n hx hb dX3_of_139 rfl (lv_at hl 0 rfl) ?_
                  refine va_get (D := D) (ci := 3) (v := .ref (q 1)) (C := RX3) (T := TX3) (N := 7) hx hb hts uX3_of_X3 hown hK hP 0 rfl rfl 0 (by decide) (hts _ kX3_of_3) (fun _ h9 => h9) rfl dX3_of_140 ?_
                  refine lv_iload_n hx hb dX3_of_143 rfl (lv_at hl 1 rfl) ?_
                  obtain ⟨r_19, hc_20, h⟩ := q_bd_ok h
                  refine q_ci (r := r_19) (va_runV (As := [.int p1]) (rest := []) ⟨hx, hb, hml, hown, hts⟩ (c_X0_isLost l D y t (fun k => q (k + 1)) _ N R p1 r_19 hc_20) (cwV 1 hts gX3_of_X0_isLost rfl rfl rfl eX0_isLost ⟨Nat.le_of_ble_eq_true rfl, Nat.le_of_ble_eq_true rfl⟩) ⟨q_blind, (va_recv hK hP (ci := 0) (q0 := 1) rfl rfl), (q_pre hP hK hZ hD hA hS [1, 2, 3, 4, 5, 6, 7] rfl (by decide))⟩ rfl rfl hl.1 rfl (lv_room (Nat.le_of_ble_eq_true rfl)) dX3_of_144 ⟨Nat.zero_le _, Nat.zero_le _⟩) hP hD hA hS [1, 2, 3, 4, 5, 6, 7] rfl (by decide) rfl (fun H locs hP hD hS => ?_)
                  have hP : va_P D vwCl (wB y q b R T K P B L) H := hP
                  have hD : va_D A (wB y q b R T K P B L) := hD
                  refine lv_if_eq (tgt := 154) hx hb dX3_of_147 (by decide) (fun c_21 => ?_) (fun c_21 => ?_)
                  · have h := q_t c_21 h
                    refine lv_iconst (v := 0) hx hb dX3_of_154 (by decide) ?_
                    have e9 := Option.some.inj h
                    exact q_iret hx hb hr hlocks hK hP hD hS dX3_of_155 (by first | rw [← e9] | rfl) (by first | rw [← e9] | rfl)
                  · have h := q_f c_21 h
                    refine lv_iconst (v := 1) hx hb dX3_of_150 (by decide) ?_
                    refine lv_goto (tgt := 155) hx hb dX3_of_151 (by decide) ?_
                    have e9 := Option.some.inj h
                    exact q_iret hx hb hr hlocks hK hP hD hS dX3_of_155 (by first | rw [← e9] | rfl) (by first | rw [← e9] | rfl)
                · have h := q_f c_18 h
                  by_cases c_22 : p2 = 7
                  · have h := q_t c_22 h
                    refine lv_tableIn (tgt := 156) (off := 137) hx hb dX3_of_19 (by rw [c_22]; decide) (by rw [c_22]; decide) (by rw [c_22]; rfl) (by decide) ?_
                    refine lv_aload_n hx hb dX3_of_156 rfl (lv_at hl 0 rfl) ?_
                    refine va_get (D := D) (ci := 3) (v := .ref (q 1)) (C := RX3) (T := TX3) (N := 7) hx hb hts uX3_of_X3 hown hK hP 0 rfl rfl 0 (by decide) (hts _ kX3_of_3) (fun _ h9 => h9) rfl dX3_of_157 ?_
                    refine va_get (D := D) (ci := 0) (v := .ref (q 7)) (C := RX0) (T := TX0) (N := 13) hx hb hts uX3_of_X0 hown hK hP 1 rfl rfl 12 (by decide) (hts _ kX3_of_8) (fun _ h9 => h9) rfl dX3_of_160 ?_
                    refine lv_iload_n hx hb dX3_of_163 rfl (lv_at hl 1 rfl) ?_
                    obtain ⟨z_23, h⟩ := q_grd_ok h
                    refine va_iald hx hb hK hP 7 0 rfl rfl z_23 dX3_of_164 ?_
                    have e9 := Option.some.inj h
                    exact q_iret hx hb hr hlocks hK hP hD hS dX3_of_165 (by first | rw [← e9] | rfl) (by first | rw [← e9] | rfl)
                  · have h := q_f c_22 h
                    by_cases c_24 : p2 = 8
                    · have h := q_t c_24 h
                      refine lv_tableIn (tgt := 166) (off := 147) hx hb dX3_of_19 (by rw [c_24]; decide) (by rw [c_24]; decide) (by rw [c_24]; rfl) (by decide) ?_
                      refine lv_aload_n hx hb dX3_of_166 rfl (lv_at hl 0 rfl) ?_
                      refine va_get (D := D) (ci := 3) (v := .ref (q 1)) (C := RX3) (T := TX3) (N := 7) hx hb hts uX3_of_X3 hown hK hP 0 rfl rfl 0 (by decide) (hts _ kX3_of_3) (fun _ h9 => h9) rfl dX3_of_167 ?_
                      refine lv_iload_n hx hb dX3_of_170 rfl (lv_at hl 1 rfl) ?_
                      obtain ⟨r_25, hc_26, h⟩ := q_bd_ok h
                      refine q_ci (r := r_25) (va_runV (As := [.int p1]) (rest := []) ⟨hx, hb, hml, hown, hts⟩ (c_X0_weightOf l D y t (fun k => q (k + 1)) _ N R p1 r_25 hc_26) (cwV 1 hts gX3_of_X0_weightOf rfl rfl rfl eX0_weightOf ⟨Nat.le_of_ble_eq_true rfl, Nat.le_of_ble_eq_true rfl⟩) ⟨q_blind, (va_recv hK hP (ci := 0) (q0 := 1) rfl rfl), (q_pre hP hK hZ hD hA hS [1, 2, 3, 4, 5, 6, 7] rfl (by decide))⟩ rfl rfl hl.1 rfl (lv_room (Nat.le_of_ble_eq_true rfl)) dX3_of_171 ⟨Nat.zero_le _, Nat.zero_le _⟩) hP hD hA hS [1, 2, 3, 4, 5, 6, 7] rfl (by decide) rfl (fun H locs hP hD hS => ?_)
                      have hP : va_P D vwCl (wB y q b R T K P B L) H := hP
                      have hD : va_D A (wB y q b R T K P B L) := hD
                      have e9 := Option.some.inj h
                      exact q_iret hx hb hr hlocks hK hP hD hS dX3_of_174 (by first | rw [← e9] | rfl) (by first | rw [← e9] | rfl)
                    · have h := q_f c_24 h
                      by_cases c_27 : p2 = 9
                      · have h := q_t c_27 h
                        refine lv_tableIn (tgt := 175) (off := 156) hx hb dX3_of_19 (by rw [c_27]; decide) (by rw [c_27]; decide) (by rw [c_27]; rfl) (by decide) ?_
                        refine lv_aload_n hx hb dX3_of_175 rfl (lv_at hl 0 rfl) ?_
                        refine va_get (D := D) (ci := 3) (v := .ref (q 1)) (C := RX3) (T := TX3) (N := 7) hx hb hts uX3_of_X3 hown hK hP 0 rfl rfl 0 (by decide) (hts _ kX3_of_3) (fun _ h9 => h9) rfl dX3_of_176 ?_
                        refine lv_iload_n hx hb dX3_of_179 rfl (lv_at hl 1 rfl) ?_
                        obtain ⟨r_28, hc_29, h⟩ := q_bd_ok h
                        refine q_ci (r := r_28) (va_runV (As := [.int p1]) (rest := []) ⟨hx, hb, hml, hown, hts⟩ (c_X0_dries l D y t (fun k => q (k + 1)) _ N R p1 r_28 hc_29) (cwV 1 hts gX3_of_X0_dries rfl rfl rfl eX0_dries ⟨Nat.le_of_ble_eq_true rfl, Nat.le_of_ble_eq_true rfl⟩) ⟨q_blind, (va_recv hK hP (ci := 0) (q0 := 1) rfl rfl), (q_pre hP hK hZ hD hA hS [1, 2, 3, 4, 5, 6, 7] rfl (by decide))⟩ rfl rfl hl.1 rfl (lv_room (Nat.le_of_ble_eq_true rfl)) dX3_of_180 ⟨Nat.zero_le _, Nat.zero_le _⟩) hP hD hA hS [1, 2, 3, 4, 5, 6, 7] rfl (by decide) rfl (fun H locs hP hD hS => ?_)
                        have hP : va_P D vwCl (wB y q b R T K P B L) H := hP
                        have hD : va_D A (wB y q b R T K P B L) := hD
                        have e9 := Option.some.inj h
                        exact q_iret hx hb hr hlocks hK hP hD hS dX3_of_183 (by first | rw [← e9] | rfl) (by first | rw [← e9] | rfl)
                      · have h := q_f c_27 h
                        have nc_4 := lv_neT c_4 (show ((0 : Int32)).toInt = 0 from by decide)
                        have nc_6 := lv_neT c_6 (show ((1 : Int32)).toInt = 1 from by decide)
                        have nc_8 := lv_neT c_8 (show ((2 : Int32)).toInt = 2 from by decide)
                        have nc_10 := lv_neT c_10 (show ((3 : Int32)).toInt = 3 from by decide)
                        have nc_14 := lv_neT c_14 (show ((4 : Int32)).toInt = 4 from by decide)
                        have nc_16 := lv_neT c_16 (show ((5 : Int32)).toInt = 5 from by decide)
                        have nc_18 := lv_neT c_18 (show ((6 : Int32)).toInt = 6 from by decide)
                        have nc_22 := lv_neT c_22 (show ((7 : Int32)).toInt = 7 from by decide)
                        have nc_24 := lv_neT c_24 (show ((8 : Int32)).toInt = 8 from by decide)
                        have nc_27 := lv_neT c_27 (show ((9 : Int32)).toInt = 9 from by decide)
                        refine lv_tableOut (tgt := 184) hx hb dX3_of_19 (by omega) (by decide) ?_
                        refine lv_aload_n hx hb dX3_of_184 rfl (lv_at hl 0 rfl) ?_
                        refine lv_ldc (v := -1000000001) hx hb hown (hts _ kX3_of_9) dX3_of_185 ?_
                        obtain ⟨r_30, b_31, hc_32, h⟩ := q_bd2_ok h
                        refine q_ci0 (r := r_30) (va_runV (As := [.int (-1000000001 : Int32)]) (rest := []) ⟨hx, hb, hml, hown, hts⟩ (c_X3_found l D y t q _ N b R T K P B L (-1000000001 : Int32) (r_30, b_31) hc_32) (cwV 1 hts gX3_of_X3_found rfl rfl rfl eX3_found ⟨Nat.le_of_ble_eq_true rfl, Nat.le_of_ble_eq_true rfl⟩) ⟨q_blind, (va_recv hK hP (ci := 3) (q0 := 0) rfl rfl), (q_pre0 hP hK hZ hD hA hS)⟩ rfl rfl hl.1 rfl (lv_room (Nat.le_of_ble_eq_true rfl)) dX3_of_187 ⟨Nat.zero_le _, Nat.zero_le _⟩) hD hA hS (fun H locs hP hD hS => ?_)
                        have hP : va_P D vwCl (wB y q b_31 R T K P B L) H := hP
                        have hD : va_D A (wB y q b_31 R T K P B L) := hD
                        have e9 := Option.some.inj h
                        exact q_iret hx hb hr hlocks hK hP hD hS dX3_of_190 (by first | rw [← e9] | rfl) (by first | rw [← e9] | rfl)
  · have h := q_t c_3 h
    refine lv_aload_n hx hb dX3_of_11 rfl (lv_at hl 0 rfl) ?_
    refine lv_ldc (v := -1000000001) hx hb hown (hts _ kX3_of_9) dX3_of_12 ?_
    obtain ⟨r_33, b_34, hc_35, h⟩ := q_bd2_ok h
    refine q_ci0 (r := r_33) (va_runV (As := [.int (-1000000001 : Int32)]) (rest := []) ⟨hx, hb, hml, hown, hts⟩ (c_X3_found l D y t q _ N b R T K P B L (-1000000001 : Int32) (r_33, b_34) hc_35) (cwV 1 hts gX3_of_X3_found rfl rfl rfl eX3_found ⟨Nat.le_of_ble_eq_true rfl, Nat.le_of_ble_eq_true rfl⟩) ⟨q_blind, (va_recv hK hP (ci := 3) (q0 := 0) rfl rfl), (q_pre0 hP hK hZ hD hA hS)⟩ rfl rfl hl.1 rfl (lv_room (Nat.le_of_ble_eq_true rfl)) dX3_of_14 ⟨Nat.zero_le _, Nat.zero_le _⟩) hD hA hS (fun H locs hP hD hS => ?_)
    have hP : va_P D vwCl (wB y q b_34 R T K P B L) H := hP
    have hD : va_D A (wB y q b_34 R T K P B L) := hD
    have e9 := Option.some.inj h
    exact q_iret hx hb hr hlocks hK hP hD hS dX3_of_17 (by first | rw [← e9] | rfl) (by first | rw [← e9] | rfl)
theorem eX3_of : yX3_of.cls = RX3 ∧ yX3_of.cls ≠ "java/lang/invoke/MethodHandle" ∧ yX3_of.cls ≠ "java/lang/invoke/VarHandle" ∧ (parseMethodDescriptor yX3_of.desc).map (fun d => d.parameters.length) = some 2 := by decide +kernel
theorem uX3_rowToSet_X0 : ∀ w ∈ u_ws RX0 TX0 13, w ∈ wsX3_rowToSet := by decide +kernel
theorem kX3_rowToSet_1 : Cond.fieldLink RX3 100 "BeamSeats$Island" "outs" "[I" ∈ wsX3_rowToSet := List.mem_of_getElem? (i := 2) (by decide +kernel)
theorem uX3_rowToSet_X3 : ∀ w ∈ u_ws RX3 TX3 7, w ∈ wsX3_rowToSet := by decide +kernel
theorem kX3_rowToSet_3 : Cond.fieldLink RX3 10 "BeamSeats" "real" "LBeamSeats$Island;" ∈ wsX3_rowToSet := List.mem_of_getElem? (i := 1) (by decide +kernel)
theorem kX3_rowToSet_4 : Cond.fieldLink RX3 106 "BeamSeats$Island" "wets" "[I" ∈ wsX3_rowToSet := List.mem_of_getElem? (i := 3) (by decide +kernel)
theorem kX3_rowToSet_5 : Cond.fieldLink RX3 109 "BeamSeats$Island" "goals" "[I" ∈ wsX3_rowToSet := List.mem_of_getElem? (i := 4) (by decide +kernel)
theorem kX3_rowToSet_6 : Cond.fieldLink RX3 115 "BeamSeats$Island" "times" "[I" ∈ wsX3_rowToSet := List.mem_of_getElem? (i := 5) (by decide +kernel)
def f_X3_rowToSet (N : Nat) (q : Nat → Nat) (b : Nat → Nat → Int32) (R : Nat → Nat → Int32) (T : Nat → Nat → Int32) (K : Nat → Nat → Int32) (P : Nat → Nat → Int32) (B : Nat → Nat → Int32) (L : Nat → Nat → Int64) (p1 : Int32) : Option (Option Nat) :=
  if p1 = 2 then
    some (some (q 4))
  else
    if p1 = 3 then
      some none
    else
      if p1 = 4 then
        some (some (q 5))
      else
        if p1 = 5 then
          some (some (q 6))
        else
          if p1 = 6 then
            some none
          else
            if p1 = 7 then
              some (some (q 7))
            else
              some none
set_option maxHeartbeats 4000000 in
set_option maxRecDepth 100000 in
theorem c_X3_rowToSet (l : Launch) (D : va_G) (y : Nat → ClassId) (t : Nat → Nat) (q : Nat → Nat) (sz N : Nat) (b : Nat → Nat → Int32) (R : Nat → Nat → Int32) (T : Nat → Nat → Int32) (K : Nat → Nat → Int32) (P : Nat → Nat → Int32) (B : Nat → Nat → Int32) (L : Nat → Nat → Int64) (p1 : Int32) (res : Option Nat) (h : f_X3_rowToSet N q b R T K P B L p1 = some res) : Met l yX3_rowToSet wsX3_rowToSet ({ frames := 0, cells := 0, slots := 0, locals := 0 } : Room) (pPre D y t [.ref (q 0), .int p1] (wB y q b R T K P B L) sz) (pQq D y res (wB y q b R T K P B L) (va_A (wB y q b R T K P B L) sz)) 0 0 (va_A (wB y q b R T K P B L) sz) := by
  refine q_start (Qc := (fun A => pQq D y res (wB y q b R T K P B L) A)) (cc := cX3_rowToSet) (maxL := 2) (ret := (some (.array .int))) (by decide) rfl (Nat.le_of_ble_eq_true rfl) ?_
  intro p e s m below meth c A ls hx hb hr hts hown hlocks hmn hml hP hK hZ hD hA hS hl
  have hl : lv_has ls 2 [(0, .ref (q 0)), (1, .int p1)] := hl
  have hown : s.vm.findClass RX3 = some m.cls := hown
  unfold f_X3_rowToSet at h
  refine lv_iload_n hx hb dX3_rowToSet_0 rfl (lv_at hl 1 rfl) ?_
  by_cases c_1 : p1 = 2
  · have h := q_t c_1 h
    refine lv_tableIn (tgt := 40) (off := 39) hx hb dX3_rowToSet_1 (by rw [c_1]; decide) (by rw [c_1]; decide) (by rw [c_1]; rfl) (by decide) ?_
    refine lv_aload_n hx hb dX3_rowToSet_40 rfl (lv_at hl 0 rfl) ?_
    refine va_get (D := D) (ci := 3) (v := .ref (q 1)) (C := RX3) (T := TX3) (N := 7) hx hb hts uX3_rowToSet_X3 hown hK hP 0 rfl rfl 0 (by decide) (hts _ kX3_rowToSet_3) (fun _ h9 => h9) rfl dX3_rowToSet_41 ?_
    refine va_get (D := D) (ci := 0) (v := .ref (q 4)) (C := RX0) (T := TX0) (N := 13) hx hb hts uX3_rowToSet_X0 hown hK hP 1 rfl rfl 9 (by decide) (hts _ kX3_rowToSet_1) (fun _ h9 => h9) rfl dX3_rowToSet_44 ?_
    have e9 := Option.some.inj h
    exact q_aret (v := some (q 4)) hx hb hr (by first | exact Or.inl ⟨_, rfl⟩ | exact Or.inr ⟨_, rfl⟩) hlocks hK hP hD hS dX3_rowToSet_47 (by first | rw [← e9] | rfl) (by first | rw [← e9] | rfl)
  · have h := q_f c_1 h
    by_cases c_2 : p1 = 3
    · have h := q_t c_2 h
      refine lv_tableIn (tgt := 72) (off := 71) hx hb dX3_rowToSet_1 (by rw [c_2]; decide) (by rw [c_2]; decide) (by rw [c_2]; rfl) (by decide) ?_
      refine lv_null hx hb dX3_rowToSet_72 ?_
      have e9 := Option.some.inj h
      exact q_aret (v := none) hx hb hr (by first | exact Or.inl ⟨_, rfl⟩ | exact Or.inr ⟨_, rfl⟩) hlocks hK hP hD hS dX3_rowToSet_73 (by first | rw [← e9] | rfl) (by first | rw [← e9] | rfl)
    · have h := q_f c_2 h
      by_cases c_3 : p1 = 4
      · have h := q_t c_3 h
        refine lv_tableIn (tgt := 48) (off := 47) hx hb dX3_rowToSet_1 (by rw [c_3]; decide) (by rw [c_3]; decide) (by rw [c_3]; rfl) (by decide) ?_
        refine lv_aload_n hx hb dX3_rowToSet_48 rfl (lv_at hl 0 rfl) ?_
        refine va_get (D := D) (ci := 3) (v := .ref (q 1)) (C := RX3) (T := TX3) (N := 7) hx hb hts uX3_rowToSet_X3 hown hK hP 0 rfl rfl 0 (by decide) (hts _ kX3_rowToSet_3) (fun _ h9 => h9) rfl dX3_rowToSet_49 ?_
        refine va_get (D := D) (ci := 0) (v := .ref (q 5)) (C := RX0) (T := TX0) (N := 13) hx hb hts uX3_rowToSet_X0 hown hK hP 1 rfl rfl 10 (by decide) (hts _ kX3_rowToSet_4) (fun _ h9 => h9) rfl dX3_rowToSet_52 ?_
        have e9 := Option.some.inj h
        exact q_aret (v := some (q 5)) hx hb hr (by first | exact Or.inl ⟨_, rfl⟩ | exact Or.inr ⟨_, rfl⟩) hlocks hK hP hD hS dX3_rowToSet_55 (by first | rw [← e9] | rfl) (by first | rw [← e9] | rfl)
      · have h := q_f c_3 h
        by_cases c_4 : p1 = 5
        · have h := q_t c_4 h
          refine lv_tableIn (tgt := 56) (off := 55) hx hb dX3_rowToSet_1 (by rw [c_4]; decide) (by rw [c_4]; decide) (by rw [c_4]; rfl) (by decide) ?_
          refine lv_aload_n hx hb dX3_rowToSet_56 rfl (lv_at hl 0 rfl) ?_
          refine va_get (D := D) (ci := 3) (v := .ref (q 1)) (C := RX3) (T := TX3) (N := 7) hx hb hts uX3_rowToSet_X3 hown hK hP 0 rfl rfl 0 (by decide) (hts _ kX3_rowToSet_3) (fun _ h9 => h9) rfl dX3_rowToSet_57 ?_
          refine va_get (D := D) (ci := 0) (v := .ref (q 6)) (C := RX0) (T := TX0) (N := 13) hx hb hts uX3_rowToSet_X0 hown hK hP 1 rfl rfl 11 (by decide) (hts _ kX3_rowToSet_5) (fun _ h9 => h9) rfl dX3_rowToSet_60 ?_
          have e9 := Option.some.inj h
          exact q_aret (v := some (q 6)) hx hb hr (by first | exact Or.inl ⟨_, rfl⟩ | exact Or.inr ⟨_, rfl⟩) hlocks hK hP hD hS dX3_rowToSet_63 (by first | rw [← e9] | rfl) (by first | rw [← e9] | rfl)
        · have h := q_f c_4 h
          by_cases c_5 : p1 = 6
          · have h := q_t c_5 h
            refine lv_tableIn (tgt := 72) (off := 71) hx hb dX3_rowToSet_1 (by rw [c_5]; decide) (by rw [c_5]; decide) (by rw [c_5]; rfl) (by decide) ?_
            refine lv_null hx hb dX3_rowToSet_72 ?_
            have e9 := Option.some.inj h
            exact q_aret (v := none) hx hb hr (by first | exact Or.inl ⟨_, rfl⟩ | exact Or.inr ⟨_, rfl⟩) hlocks hK hP hD hS dX3_rowToSet_73 (by first | rw [← e9] | rfl) (by first | rw [← e9] | rfl)
          · have h := q_f c_5 h
            by_cases c_6 : p1 = 7
            · have h := q_t c_6 h
              refine lv_tableIn (tgt := 64) (off := 63) hx hb dX3_rowToSet_1 (by rw [c_6]; decide) (by rw [c_6]; decide) (by rw [c_6]; rfl) (by decide) ?_
              refine lv_aload_n hx hb dX3_rowToSet_64 rfl (lv_at hl 0 rfl) ?_
              refine va_get (D := D) (ci := 3) (v := .ref (q 1)) (C := RX3) (T := TX3) (N := 7) hx hb hts uX3_rowToSet_X3 hown hK hP 0 rfl rfl 0 (by decide) (hts _ kX3_rowToSet_3) (fun _ h9 => h9) rfl dX3_rowToSet_65 ?_
              refine va_get (D := D) (ci := 0) (v := .ref (q 7)) (C := RX0) (T := TX0) (N := 13) hx hb hts uX3_rowToSet_X0 hown hK hP 1 rfl rfl 12 (by decide) (hts _ kX3_rowToSet_6) (fun _ h9 => h9) rfl dX3_rowToSet_68 ?_
              have e9 := Option.some.inj h
              exact q_aret (v := some (q 7)) hx hb hr (by first | exact Or.inl ⟨_, rfl⟩ | exact Or.inr ⟨_, rfl⟩) hlocks hK hP hD hS dX3_rowToSet_71 (by first | rw [← e9] | rfl) (by first | rw [← e9] | rfl)
            · have h := q_f c_6 h
              have nc_1 := lv_neT c_1 (show ((2 : Int32)).toInt = 2 from by decide)
              have nc_2 := lv_neT c_2 (show ((3 : Int32)).toInt = 3 from by decide)
              have nc_3 := lv_neT c_3 (show ((4 : Int32)).toInt = 4 from by decide)
              have nc_4 := lv_neT c_4 (show ((5 : Int32)).toInt = 5 from by decide)
              have nc_5 := lv_neT c_5 (show ((6 : Int32)).toInt = 6 from by decide)
              have nc_6 := lv_neT c_6 (show ((7 : Int32)).toInt = 7 from by decide)
              refine lv_tableOut (tgt := 72) hx hb dX3_rowToSet_1 (by omega) (by decide) ?_
              refine lv_null hx hb dX3_rowToSet_72 ?_
              have e9 := Option.some.inj h
              exact q_aret (v := none) hx hb hr (by first | exact Or.inl ⟨_, rfl⟩ | exact Or.inr ⟨_, rfl⟩) hlocks hK hP hD hS dX3_rowToSet_73 (by first | rw [← e9] | rfl) (by first | rw [← e9] | rfl)
theorem eX3_rowToSet : yX3_rowToSet.cls = RX3 ∧ yX3_rowToSet.cls ≠ "java/lang/invoke/MethodHandle" ∧ yX3_rowToSet.cls ≠ "java/lang/invoke/VarHandle" ∧ (parseMethodDescriptor yX3_rowToSet.desc).map (fun d => d.parameters.length) = some 1 := by decide +kernel
def f_X3_mostToSet (N : Nat) (p1 : Int32) : Option (Int32) :=
  if p1 = 2 then
    some (9 : Int32)
  else
    if p1 = 3 then
      some (-1 : Int32)
    else
      if p1 = 4 then
        some (99 : Int32)
      else
        if p1 = 5 then
          some (59 : Int32)
        else
          if p1 = 6 then
            some (-1 : Int32)
          else
            if p1 = 7 then
              some (9999 : Int32)
            else
              some (-1 : Int32)
set_option maxHeartbeats 4000000 in
set_option maxRecDepth 100000 in
theorem c_X3_mostToSet (l : Launch) (D : va_G) (y : Nat → ClassId) (t : Nat → Nat) (q : Nat → Nat) (sz N : Nat) (p1 : Int32) (res : Int32) (h : f_X3_mostToSet N p1 = some res) : Met l yX3_mostToSet wsX3_mostToSet ({ frames := 0, cells := 0, slots := 0, locals := 0 } : Room) (pPre D y t [.int p1] (([] : va_W)) sz) (pQi D y res (([] : va_W)) (va_A (([] : va_W)) sz)) 0 0 (va_A (([] : va_W)) sz) := by
  refine q_start (Qc := (fun A => pQi D y res (([] : va_W)) A)) (cc := cX3_mostToSet) (maxL := 1) (ret := (some .int)) (by decide) rfl (Nat.le_of_ble_eq_true rfl) ?_
  intro p e s m below meth c A ls hx hb hr hts hown hlocks hmn hml hP hK hZ hD hA hS hl
  have hl : lv_has ls 1 [(0, .int p1)] := hl
  have hown : s.vm.findClass RX3 = some m.cls := hown
  unfold f_X3_mostToSet at h
  refine lv_iload_n hx hb dX3_mostToSet_0 rfl (lv_at hl 0 rfl) ?_
  by_cases c_1 : p1 = 2
  · have h := q_t c_1 h
    refine lv_tableIn (tgt := 40) (off := 39) hx hb dX3_mostToSet_1 (by rw [c_1]; decide) (by rw [c_1]; decide) (by rw [c_1]; rfl) (by decide) ?_
    refine lv_bipush (v := 9) hx hb dX3_mostToSet_40 (by decide) ?_
    have e9 := Option.some.inj h
    exact q_iret hx hb hr hlocks hK hP hD hS dX3_mostToSet_42 (by first | rw [← e9] | rfl) (by first | rw [← e9] | rfl)
  · have h := q_f c_1 h
    by_cases c_2 : p1 = 3
    · have h := q_t c_2 h
      refine lv_tableIn (tgt := 53) (off := 52) hx hb dX3_mostToSet_1 (by rw [c_2]; decide) (by rw [c_2]; decide) (by rw [c_2]; rfl) (by decide) ?_
      refine lv_iconst (v := -1) hx hb dX3_mostToSet_53 (by decide) ?_
      have e9 := Option.some.inj h
      exact q_iret hx hb hr hlocks hK hP hD hS dX3_mostToSet_54 (by first | rw [← e9] | rfl) (by first | rw [← e9] | rfl)
    · have h := q_f c_2 h
      by_cases c_3 : p1 = 4
      · have h := q_t c_3 h
        refine lv_tableIn (tgt := 43) (off := 42) hx hb dX3_mostToSet_1 (by rw [c_3]; decide) (by rw [c_3]; decide) (by rw [c_3]; rfl) (by decide) ?_
        refine lv_bipush (v := 99) hx hb dX3_mostToSet_43 (by decide) ?_
        have e9 := Option.some.inj h
        exact q_iret hx hb hr hlocks hK hP hD hS dX3_mostToSet_45 (by first | rw [← e9] | rfl) (by first | rw [← e9] | rfl)
      · have h := q_f c_3 h
        by_cases c_4 : p1 = 5
        · have h := q_t c_4 h
          refine lv_tableIn (tgt := 46) (off := 45) hx hb dX3_mostToSet_1 (by rw [c_4]; decide) (by rw [c_4]; decide) (by rw [c_4]; rfl) (by decide) ?_
          refine lv_bipush (v := 59) hx hb dX3_mostToSet_46 (by decide) ?_
          have e9 := Option.some.inj h
          exact q_iret hx hb hr hlocks hK hP hD hS dX3_mostToSet_48 (by first | rw [← e9] | rfl) (by first | rw [← e9] | rfl)
        · have h := q_f c_4 h
          by_cases c_5 : p1 = 6
          · have h := q_t c_5 h
            refine lv_tableIn (tgt := 53) (off := 52) hx hb dX3_mostToSet_1 (by rw [c_5]; decide) (by rw [c_5]; decide) (by rw [c_5]; rfl) (by decide) ?_
            refine lv_iconst (v := -1) hx hb dX3_mostToSet_53 (by decide) ?_
            have e9 := Option.some.inj h
            exact q_iret hx hb hr hlocks hK hP hD hS dX3_mostToSet_54 (by first | rw [← e9] | rfl) (by first | rw [← e9] | rfl)
          · have h := q_f c_5 h
            by_cases c_6 : p1 = 7
            · have h := q_t c_6 h
              refine lv_tableIn (tgt := 49) (off := 48) hx hb dX3_mostToSet_1 (by rw [c_6]; decide) (by rw [c_6]; decide) (by rw [c_6]; rfl) (by decide) ?_
              refine lv_sipush (v := 9999) hx hb dX3_mostToSet_49 (by decide) ?_
              have e9 := Option.some.inj h
              exact q_iret hx hb hr hlocks hK hP hD hS dX3_mostToSet_52 (by first | rw [← e9] | rfl) (by first | rw [← e9] | rfl)
            · have h := q_f c_6 h
              have nc_1 := lv_neT c_1 (show ((2 : Int32)).toInt = 2 from by decide)
              have nc_2 := lv_neT c_2 (show ((3 : Int32)).toInt = 3 from by decide)
              have nc_3 := lv_neT c_3 (show ((4 : Int32)).toInt = 4 from by decide)
              have nc_4 := lv_neT c_4 (show ((5 : Int32)).toInt = 5 from by decide)
              have nc_5 := lv_neT c_5 (show ((6 : Int32)).toInt = 6 from by decide)
              have nc_6 := lv_neT c_6 (show ((7 : Int32)).toInt = 7 from by decide)
              refine lv_tableOut (tgt := 53) hx hb dX3_mostToSet_1 (by omega) (by decide) ?_
              refine lv_iconst (v := -1) hx hb dX3_mostToSet_53 (by decide) ?_
              have e9 := Option.some.inj h
              exact q_iret hx hb hr hlocks hK hP hD hS dX3_mostToSet_54 (by first | rw [← e9] | rfl) (by first | rw [← e9] | rfl)
theorem eX3_mostToSet : yX3_mostToSet.cls ≠ "java/lang/invoke/MethodHandle" ∧ yX3_mostToSet.cls ≠ "java/lang/invoke/VarHandle" ∧ (parseMethodDescriptor yX3_mostToSet.desc).map (fun d => d.parameters.length) = some 1 := by decide +kernel
theorem kX3_set_0 : Cond.constant RX3 58 (-1000000001) ∈ wsX3_set := List.mem_of_getElem? (i := 2) (by decide +kernel)
theorem uX3_set_X3 : ∀ w ∈ u_ws RX3 TX3 7, w ∈ wsX3_set := by decide +kernel
theorem kX3_set_2 : Cond.fieldLink RX3 10 "BeamSeats" "real" "LBeamSeats$Island;" ∈ wsX3_set := List.mem_of_getElem? (i := 1) (by decide +kernel)
def f_X3_set_B35 (N : Nat) (b : Nat → Nat → Int32) (R : Nat → Nat → Int32) (T : Nat → Nat → Int32) (K : Nat → Nat → Int32) (P : Nat → Nat → Int32) (B : Nat → Nat → Int32) (L : Nat → Nat → Int64) : Option (Int32 × (Nat → Nat → Int32) × (Nat → Nat → Int32)) :=
  q_bd2 (f_X3_found N b R T K P B L (-1000000001 : Int32)) (fun r_5 b_6 =>
  some (r_5, b_6, R))
def f_X3_set (N : Nat) (b : Nat → Nat → Int32) (R : Nat → Nat → Int32) (T : Nat → Nat → Int32) (K : Nat → Nat → Int32) (P : Nat → Nat → Int32) (B : Nat → Nat → Int32) (L : Nat → Nat → Int64) (p1 : Int32) (p2 : Int32) (p3 : Int32) : Option (Int32 × (Nat → Nat → Int32) × (Nat → Nat → Int32)) :=
  if p2 = 2 then
    q_bd (f_X0_has N R p1) (fun r_2 =>
    if r_2 = 0 then
      f_X3_set_B35 N b R T K P B L
    else
      q_bd (f_X3_mostToSet N p2) (fun r_8 =>
      q_bd (f_X3_within N p3 (0 : Int32) r_8) (fun r_10 =>
      if r_10 = 0 then
        f_X3_set_B35 N b R T K P B L
      else
        q_grd p1 8 (
        q_let (R 3 p1.toNatClampNeg) (fun x_14 =>
        q_grd p1 8 (
        q_let (q_up R 3 p1.toNatClampNeg p3) (fun R_16 =>
        some (x_14, b, R_16))))))))
  else
    if p2 = 4 then
      q_bd (f_X0_has N R p1) (fun r_19 =>
      if r_19 = 0 then
        f_X3_set_B35 N b R T K P B L
      else
        q_bd (f_X3_mostToSet N p2) (fun r_22 =>
        q_bd (f_X3_within N p3 (0 : Int32) r_22) (fun r_24 =>
        if r_24 = 0 then
          f_X3_set_B35 N b R T K P B L
        else
          q_grd p1 8 (
          q_let (R 4 p1.toNatClampNeg) (fun x_28 =>
          q_grd p1 8 (
          q_let (q_up R 4 p1.toNatClampNeg p3) (fun R_30 =>
          some (x_28, b, R_30))))))))
    else
      if p2 = 5 then
        q_bd (f_X0_has N R p1) (fun r_33 =>
        if r_33 = 0 then
          f_X3_set_B35 N b R T K P B L
        else
          q_bd (f_X3_mostToSet N p2) (fun r_36 =>
          q_bd (f_X3_within N p3 (0 : Int32) r_36) (fun r_38 =>
          if r_38 = 0 then
            f_X3_set_B35 N b R T K P B L
          else
            q_grd p1 8 (
            q_let (R 5 p1.toNatClampNeg) (fun x_42 =>
            q_grd p1 8 (
            q_let (q_up R 5 p1.toNatClampNeg p3) (fun R_44 =>
            some (x_42, b, R_44))))))))
      else
        if p2 = 7 then
          q_bd (f_X0_has N R p1) (fun r_47 =>
          if r_47 = 0 then
            f_X3_set_B35 N b R T K P B L
          else
            q_bd (f_X3_mostToSet N p2) (fun r_50 =>
            q_bd (f_X3_within N p3 (0 : Int32) r_50) (fun r_52 =>
            if r_52 = 0 then
              f_X3_set_B35 N b R T K P B L
            else
              q_grd p1 8 (
              q_let (R 6 p1.toNatClampNeg) (fun x_56 =>
              q_grd p1 8 (
              q_let (q_up R 6 p1.toNatClampNeg p3) (fun R_58 =>
              some (x_56, b, R_58))))))))
        else
          q_bd (f_X0_has N R p1) (fun r_60 =>
          if r_60 = 0 then
            f_X3_set_B35 N b R T K P B L
          else
            f_X3_set_B35 N b R T K P B L)
set_option maxHeartbeats 4000000 in
set_option maxRecDepth 100000 in
theorem c_X3_set (l : Launch) (D : va_G) (y : Nat → ClassId) (t : Nat → Nat) (q : Nat → Nat) (sz N : Nat) (b : Nat → Nat → Int32) (R : Nat → Nat → Int32) (T : Nat → Nat → Int32) (K : Nat → Nat → Int32) (P : Nat → Nat → Int32) (B : Nat → Nat → Int32) (L : Nat → Nat → Int64) (p1 : Int32) (p2 : Int32) (p3 : Int32) (res : Int32 × (Nat → Nat → Int32) × (Nat → Nat → Int32)) (h : f_X3_set N b R T K P B L p1 p2 p3 = some res) : Met l yX3_set wsX3_set ({ frames := 2, cells := 0, slots := 0, locals := 44 } : Room) (pPre D y t [.ref (q 0), .int p1, .int p2, .int p3] (wB y q b R T K P B L) sz) (pQi D y (res.1) (wB y q (res.2.1) (res.2.2) T K P B L) (va_A (wB y q b R T K P B L) sz)) 0 0 (va_A (wB y q b R T K P B L) sz) := by
  refine q_start (Qc := (fun A => pQi D y (res.1) (wB y q (res.2.1) (res.2.2) T K P B L) A)) (cc := cX3_set) (maxL := 6) (ret := (some .int)) (by decide) rfl (Nat.le_of_ble_eq_true rfl) ?_
  intro p e s m below meth c A ls hx hb hr hts hown hlocks hmn hml hP hK hZ hD hA hS hl
  have hl : lv_has ls 6 [(0, .ref (q 0)), (1, .int p1), (2, .int p2), (3, .int p3)] := hl
  have hown : s.vm.findClass RX3 = some m.cls := hown
  have B35 : ∀ (b : Nat → Nat → Int32) (R : Nat → Nat → Int32) (T : Nat → Nat → Int32) (K : Nat → Nat → Int32) (P : Nat → Nat → Int32) (B : Nat → Nat → Int32) (L : Nat → Nat → Int64) (H : Heap) (locs : List Loc) (ls : Array Slot), va_P D vwCl (wB y q b R T K P B L) H → va_D A (wB y q b R T K P B L) → va_S A s.heap H locs → lv_has ls 6 [(0, .ref (q 0))] → f_X3_set_B35 N b R T K P B L = some res → W p l e ({ frames := 2, cells := 0, slots := 0, locals := 44 } : Room) s m ([.ref (q 0), .int p1, .int p2, .int p3] : List Value).toArray below meth c H locs 0 0 (MQ below (pQi D y (res.1) (wB y q (res.2.1) (res.2.2) T K P B L) A) ([.ref (q 0), .int p1, .int p2, .int p3] : List Value).toArray s 0 0 A) (F0 m 35 ls []) := by
    intro b R T K P B L H locs ls hP hD hS hl h
    unfold f_X3_set_B35 at h
    refine lv_aload_n hx hb dX3_set_35 rfl (lv_at hl 0 rfl) ?_
    refine lv_ldc (v := -1000000001) hx hb hown (hts _ kX3_set_0) dX3_set_36 ?_
    obtain ⟨r_5, b_6, hc_7, h⟩ := q_bd2_ok h
    refine q_ci0 (r := r_5) (va_runV (As := [.int (-1000000001 : Int32)]) (rest := []) ⟨hx, hb, hml, hown, hts⟩ (c_X3_found l D y t q _ N b R T K P B L (-1000000001 : Int32) (r_5, b_6) hc_7) (cwV 1 hts gX3_set_X3_found rfl rfl rfl eX3_found ⟨Nat.le_of_ble_eq_true rfl, Nat.le_of_ble_eq_true rfl⟩) ⟨q_blind, (va_recv hK hP (ci := 3) (q0 := 0) rfl rfl), (q_pre0 hP hK hZ hD hA hS)⟩ rfl rfl hl.1 rfl (lv_room (Nat.le_of_ble_eq_true rfl)) dX3_set_38 ⟨Nat.zero_le _, Nat.zero_le _⟩) hD hA hS (fun H locs hP hD hS => ?_)
    have hP : va_P D vwCl (wB y q b_6 R T K P B L) H := hP
    have hD : va_D A (wB y q b_6 R T K P B L) := hD
    have e9 := Option.some.inj h
    exact q_iret hx hb hr hlocks hK hP hD hS dX3_set_41 (by first | rw [← e9] | rfl) (by first | rw [← e9] | rfl)
  unfold f_X3_set at h
  refine lv_aload_n hx hb dX3_set_0 rfl (lv_at hl 0 rfl) ?_
  refine lv_iload_n hx hb dX3_set_1 rfl (lv_at hl 2 rfl) ?_
  by_cases c_1 : p2 = 2
  · have h := q_t c_1 h
    have hc_17 : f_X3_rowToSet N q b R T K P B L p2 = some (some (q 4)) := by simp [f_X3_rowToSet, c_1]
    refine q_cq0 (r := some (q 4)) (va_runV (As := [.int p2]) (rest := []) ⟨hx, hb, hml, hown, hts⟩ (c_X3_rowToSet l D y t q _ N b R T K P B L p2 (some (q 4)) hc_17) (cwV 1 hts gX3_set_X3_rowToSet rfl rfl rfl eX3_rowToSet ⟨Nat.le_of_ble_eq_true rfl, Nat.le_of_ble_eq_true rfl⟩) ⟨q_blind, va_recv hK hP (ci := 3) (q0 := 0) rfl rfl, (q_pre0 hP hK hZ hD hA hS)⟩ rfl rfl hl.1 rfl (lv_room (Nat.le_of_ble_eq_true rfl)) dX3_set_2 ⟨Nat.zero_le _, Nat.zero_le _⟩) hD hA hS (fun H locs hP hD hS => ?_)
    refine W.eq (g2 := F0 m 5 ls [.ref (q 4)]) rfl ?_
    have hP : va_P D vwCl (wB y q b R T K P B L) H := hP
    have hD : va_D A (wB y q b R T K P B L) := hD
    refine lv_astore (lv' := [(4, .ref (q 4)), (0, .ref (q 0)), (1, .int p1), (2, .int p2), (3, .int p3)]) hx hb dX3_set_5 hl (by decide) rfl (fun ls hl => ?_)
    refine lv_aload_n hx hb dX3_set_7 rfl (lv_at hl 1 rfl) ?_
    refine va_get (D := D) (ci := 3) (v := .ref (q 1)) (C := RX3) (T := TX3) (N := 7) hx hb hts uX3_set_X3 hown hK hP 0 rfl rfl 0 (by decide) (hts _ kX3_set_2) (fun _ h9 => h9) rfl dX3_set_8 ?_
    refine lv_iload_n hx hb dX3_set_11 rfl (lv_at hl 2 rfl) ?_
    obtain ⟨r_2, hc_3, h⟩ := q_bd_ok h
    refine q_ci (r := r_2) (va_runV (As := [.int p1]) (rest := []) ⟨hx, hb, hml, hown, hts⟩ (c_X0_has l D y t (fun k => q (k + 1)) _ N R p1 r_2 hc_3) (cwV 1 hts gX3_set_X0_has rfl rfl rfl eX0_has ⟨Nat.le_of_ble_eq_true rfl, Nat.le_of_ble_eq_true rfl⟩) ⟨q_blind, (va_recv hK hP (ci := 0) (q0 := 1) rfl rfl), (q_pre hP hK hZ hD hA hS [1, 2, 3, 4, 5, 6, 7] rfl (by decide))⟩ rfl rfl hl.1 rfl (lv_room (Nat.le_of_ble_eq_true rfl)) dX3_set_12 ⟨Nat.zero_le _, Nat.zero_le _⟩) hP hD hA hS [1, 2, 3, 4, 5, 6, 7] rfl (by decide) rfl (fun H locs hP hD hS => ?_)
    have hP : va_P D vwCl (wB y q b R T K P B L) H := hP
    have hD : va_D A (wB y q b R T K P B L) := hD
    refine lv_if_eq (tgt := 35) hx hb dX3_set_15 (by decide) (fun c_4 => ?_) (fun c_4 => ?_)
    · have h := q_t c_4 h
      exact B35 b R T K P B L _ _ _ hP hD hS (lv_sub hl [1] rfl) h
    · have h := q_f c_4 h
      refine lv_aload hx hb dX3_set_18 (lv_at hl 0 rfl) ?_
      refine lv_ifnull hx hb dX3_set_20 ?_
      refine lv_iload_n hx hb dX3_set_23 rfl (lv_at hl 4 rfl) ?_
      refine lv_iconst (v := 0) hx hb dX3_set_24 (by decide) ?_
      refine lv_iload_n hx hb dX3_set_25 rfl (lv_at hl 3 rfl) ?_
      obtain ⟨r_8, hc_9, h⟩ := q_bd_ok h
      refine q_ci (r := r_8) (va_runS (As := [.int p2]) (rest := [.int (0 : Int32), .int p3]) ⟨hx, hb, hml, hown, hts⟩ (c_X3_mostToSet l D y t q _ N p2 r_8 hc_9) (va_cwS 1 hts gX3_set_X3_mostToSet rfl rfl rfl eX3_mostToSet ⟨Nat.le_of_ble_eq_true rfl, Nat.le_of_ble_eq_true rfl⟩) ⟨q_blind, (q_pre hP hK hZ hD hA hS [] rfl (by decide))⟩ rfl rfl hl.1 rfl (lv_room (Nat.le_of_ble_eq_true rfl)) dX3_set_26 ⟨Nat.zero_le _, Nat.zero_le _⟩) hP hD hA hS [] rfl (by decide) rfl (fun H locs hP hD hS => ?_)
      have hP : va_P D vwCl (wB y q b R T K P B L) H := hP
      have hD : va_D A (wB y q b R T K P B L) := hD
      obtain ⟨r_10, hc_11, h⟩ := q_bd_ok h
      refine q_ci (r := r_10) (va_runS (As := [.int p3, .int (0 : Int32), .int r_8]) (rest := []) ⟨hx, hb, hml, hown, hts⟩ (c_X3_within l D y t q _ N p3 (0 : Int32) r_8 r_10 hc_11) (va_cwS 3 hts gX3_set_X3_within rfl rfl rfl eX3_within ⟨Nat.le_of_ble_eq_true rfl, Nat.le_of_ble_eq_true rfl⟩) ⟨q_blind, (q_pre hP hK hZ hD hA hS [] rfl (by decide))⟩ rfl rfl hl.1 rfl (lv_room (Nat.le_of_ble_eq_true rfl)) dX3_set_29 ⟨Nat.zero_le _, Nat.zero_le _⟩) hP hD hA hS [] rfl (by decide) rfl (fun H locs hP hD hS => ?_)
      have hP : va_P D vwCl (wB y q b R T K P B L) H := hP
      have hD : va_D A (wB y q b R T K P B L) := hD
      refine lv_if_ne (tgt := 42) hx hb dX3_set_32 (by decide) (fun c_12 => ?_) (fun c_12 => ?_)
      · have h := q_f c_12 h
        refine lv_aload hx hb dX3_set_42 (lv_at hl 0 rfl) ?_
        refine lv_iload_n hx hb dX3_set_44 rfl (lv_at hl 2 rfl) ?_
        obtain ⟨z_13, h⟩ := q_grd_ok h
        refine va_iald hx hb hK hP 4 0 rfl rfl z_13 dX3_set_45 ?_
        refine lv_topi (fun x_14 ex_14 => ?_)
        have h := q_let_at ex_14 h
        refine lv_istore (lv' := [(5, .int x_14), (4, .ref (q 4)), (0, .ref (q 0)), (1, .int p1), (2, .int p2), (3, .int p3)]) hx hb dX3_set_46 hl (by decide) rfl (fun ls hl => ?_)
        refine lv_aload hx hb dX3_set_48 (lv_at hl 1 rfl) ?_
        refine lv_iload_n hx hb dX3_set_50 rfl (lv_at hl 3 rfl) ?_
        refine lv_iload_n hx hb dX3_set_51 rfl (lv_at hl 5 rfl) ?_
        obtain ⟨z_15, h⟩ := q_grd_ok h
        obtain ⟨R_16, eR_16, h⟩ := q_let_ok h
        refine va_iast hx hb hK hP hD hS 4 0 rfl rfl z_15 dX3_set_52 (fun H locs hP hD hS => ?_)
        have hP : va_P D vwCl (wB y q b R_16 T K P B L) H := by rw [eR_16]; exact hP
        have hD : va_D A (wB y q b R_16 T K P B L) := by rw [eR_16]; exact hD
        refine lv_iload hx hb dX3_set_53 (lv_at hl 0 rfl) ?_
        have e9 := Option.some.inj h
        exact q_iret hx hb hr hlocks hK hP hD hS dX3_set_55 (by first | rw [← e9] | rfl) (by first | rw [← e9] | rfl)
      · have h := q_t c_12 h
        exact B35 b R T K P B L _ _ _ hP hD hS (lv_sub hl [1] rfl) h
  · have h := q_f c_1 h
    by_cases c_18 : p2 = 4
    · have h := q_t c_18 h
      have hc_31 : f_X3_rowToSet N q b R T K P B L p2 = some (some (q 5)) := by simp [f_X3_rowToSet, c_1, c_18]
      refine q_cq0 (r := some (q 5)) (va_runV (As := [.int p2]) (rest := []) ⟨hx, hb, hml, hown, hts⟩ (c_X3_rowToSet l D y t q _ N b R T K P B L p2 (some (q 5)) hc_31) (cwV 1 hts gX3_set_X3_rowToSet rfl rfl rfl eX3_rowToSet ⟨Nat.le_of_ble_eq_true rfl, Nat.le_of_ble_eq_true rfl⟩) ⟨q_blind, va_recv hK hP (ci := 3) (q0 := 0) rfl rfl, (q_pre0 hP hK hZ hD hA hS)⟩ rfl rfl hl.1 rfl (lv_room (Nat.le_of_ble_eq_true rfl)) dX3_set_2 ⟨Nat.zero_le _, Nat.zero_le _⟩) hD hA hS (fun H locs hP hD hS => ?_)
      refine W.eq (g2 := F0 m 5 ls [.ref (q 5)]) rfl ?_
      have hP : va_P D vwCl (wB y q b R T K P B L) H := hP
      have hD : va_D A (wB y q b R T K P B L) := hD
      refine lv_astore (lv' := [(4, .ref (q 5)), (0, .ref (q 0)), (1, .int p1), (2, .int p2), (3, .int p3)]) hx hb dX3_set_5 hl (by decide) rfl (fun ls hl => ?_)
      refine lv_aload_n hx hb dX3_set_7 rfl (lv_at hl 1 rfl) ?_
      refine va_get (D := D) (ci := 3) (v := .ref (q 1)) (C := RX3) (T := TX3) (N := 7) hx hb hts uX3_set_X3 hown hK hP 0 rfl rfl 0 (by decide) (hts _ kX3_set_2) (fun _ h9 => h9) rfl dX3_set_8 ?_
      refine lv_iload_n hx hb dX3_set_11 rfl (lv_at hl 2 rfl) ?_
      obtain ⟨r_19, hc_20, h⟩ := q_bd_ok h
      refine q_ci (r := r_19) (va_runV (As := [.int p1]) (rest := []) ⟨hx, hb, hml, hown, hts⟩ (c_X0_has l D y t (fun k => q (k + 1)) _ N R p1 r_19 hc_20) (cwV 1 hts gX3_set_X0_has rfl rfl rfl eX0_has ⟨Nat.le_of_ble_eq_true rfl, Nat.le_of_ble_eq_true rfl⟩) ⟨q_blind, (va_recv hK hP (ci := 0) (q0 := 1) rfl rfl), (q_pre hP hK hZ hD hA hS [1, 2, 3, 4, 5, 6, 7] rfl (by decide))⟩ rfl rfl hl.1 rfl (lv_room (Nat.le_of_ble_eq_true rfl)) dX3_set_12 ⟨Nat.zero_le _, Nat.zero_le _⟩) hP hD hA hS [1, 2, 3, 4, 5, 6, 7] rfl (by decide) rfl (fun H locs hP hD hS => ?_)
      have hP : va_P D vwCl (wB y q b R T K P B L) H := hP
      have hD : va_D A (wB y q b R T K P B L) := hD
      refine lv_if_eq (tgt := 35) hx hb dX3_set_15 (by decide) (fun c_21 => ?_) (fun c_21 => ?_)
      · have h := q_t c_21 h
        exact B35 b R T K P B L _ _ _ hP hD hS (lv_sub hl [1] rfl) h
      · have h := q_f c_21 h
        refine lv_aload hx hb dX3_set_18 (lv_at hl 0 rfl) ?_
        refine lv_ifnull hx hb dX3_set_20 ?_
        refine lv_iload_n hx hb dX3_set_23 rfl (lv_at hl 4 rfl) ?_
        refine lv_iconst (v := 0) hx hb dX3_set_24 (by decide) ?_
        refine lv_iload_n hx hb dX3_set_25 rfl (lv_at hl 3 rfl) ?_
        obtain ⟨r_22, hc_23, h⟩ := q_bd_ok h
        refine q_ci (r := r_22) (va_runS (As := [.int p2]) (rest := [.int (0 : Int32), .int p3]) ⟨hx, hb, hml, hown, hts⟩ (c_X3_mostToSet l D y t q _ N p2 r_22 hc_23) (va_cwS 1 hts gX3_set_X3_mostToSet rfl rfl rfl eX3_mostToSet ⟨Nat.le_of_ble_eq_true rfl, Nat.le_of_ble_eq_true rfl⟩) ⟨q_blind, (q_pre hP hK hZ hD hA hS [] rfl (by decide))⟩ rfl rfl hl.1 rfl (lv_room (Nat.le_of_ble_eq_true rfl)) dX3_set_26 ⟨Nat.zero_le _, Nat.zero_le _⟩) hP hD hA hS [] rfl (by decide) rfl (fun H locs hP hD hS => ?_)
        have hP : va_P D vwCl (wB y q b R T K P B L) H := hP
        have hD : va_D A (wB y q b R T K P B L) := hD
        obtain ⟨r_24, hc_25, h⟩ := q_bd_ok h
        refine q_ci (r := r_24) (va_runS (As := [.int p3, .int (0 : Int32), .int r_22]) (rest := []) ⟨hx, hb, hml, hown, hts⟩ (c_X3_within l D y t q _ N p3 (0 : Int32) r_22 r_24 hc_25) (va_cwS 3 hts gX3_set_X3_within rfl rfl rfl eX3_within ⟨Nat.le_of_ble_eq_true rfl, Nat.le_of_ble_eq_true rfl⟩) ⟨q_blind, (q_pre hP hK hZ hD hA hS [] rfl (by decide))⟩ rfl rfl hl.1 rfl (lv_room (Nat.le_of_ble_eq_true rfl)) dX3_set_29 ⟨Nat.zero_le _, Nat.zero_le _⟩) hP hD hA hS [] rfl (by decide) rfl (fun H locs hP hD hS => ?_)
        have hP : va_P D vwCl (wB y q b R T K P B L) H := hP
        have hD : va_D A (wB y q b R T K P B L) := hD
        refine lv_if_ne (tgt := 42) hx hb dX3_set_32 (by decide) (fun c_26 => ?_) (fun c_26 => ?_)
        · have h := q_f c_26 h
          refine lv_aload hx hb dX3_set_42 (lv_at hl 0 rfl) ?_
          refine lv_iload_n hx hb dX3_set_44 rfl (lv_at hl 2 rfl) ?_
          obtain ⟨z_27, h⟩ := q_grd_ok h
          refine va_iald hx hb hK hP 5 0 rfl rfl z_27 dX3_set_45 ?_
          refine lv_topi (fun x_28 ex_28 => ?_)
          have h := q_let_at ex_28 h
          refine lv_istore (lv' := [(5, .int x_28), (4, .ref (q 5)), (0, .ref (q 0)), (1, .int p1), (2, .int p2), (3, .int p3)]) hx hb dX3_set_46 hl (by decide) rfl (fun ls hl => ?_)
          refine lv_aload hx hb dX3_set_48 (lv_at hl 1 rfl) ?_
          refine lv_iload_n hx hb dX3_set_50 rfl (lv_at hl 3 rfl) ?_
          refine lv_iload_n hx hb dX3_set_51 rfl (lv_at hl 5 rfl) ?_
          obtain ⟨z_29, h⟩ := q_grd_ok h
          obtain ⟨R_30, eR_30, h⟩ := q_let_ok h
          refine va_iast hx hb hK hP hD hS 5 0 rfl rfl z_29 dX3_set_52 (fun H locs hP hD hS => ?_)
          have hP : va_P D vwCl (wB y q b R_30 T K P B L) H := by rw [eR_30]; exact hP
          have hD : va_D A (wB y q b R_30 T K P B L) := by rw [eR_30]; exact hD
          refine lv_iload hx hb dX3_set_53 (lv_at hl 0 rfl) ?_
          have e9 := Option.some.inj h
          exact q_iret hx hb hr hlocks hK hP hD hS dX3_set_55 (by first | rw [← e9] | rfl) (by first | rw [← e9] | rfl)
        · have h := q_t c_26 h
          exact B35 b R T K P B L _ _ _ hP hD hS (lv_sub hl [1] rfl) h
    · have h := q_f c_18 h
      by_cases c_32 : p2 = 5
      · have h := q_t c_32 h
        have hc_45 : f_X3_rowToSet N q b R T K P B L p2 = some (some (q 6)) := by simp [f_X3_rowToSet, c_1, c_18, c_32]
        refine q_cq0 (r := some (q 6)) (va_runV (As := [.int p2]) (rest := []) ⟨hx, hb, hml, hown, hts⟩ (c_X3_rowToSet l D y t q _ N b R T K P B L p2 (some (q 6)) hc_45) (cwV 1 hts gX3_set_X3_rowToSet rfl rfl rfl eX3_rowToSet ⟨Nat.le_of_ble_eq_true rfl, Nat.le_of_ble_eq_true rfl⟩) ⟨q_blind, va_recv hK hP (ci := 3) (q0 := 0) rfl rfl, (q_pre0 hP hK hZ hD hA hS)⟩ rfl rfl hl.1 rfl (lv_room (Nat.le_of_ble_eq_true rfl)) dX3_set_2 ⟨Nat.zero_le _, Nat.zero_le _⟩) hD hA hS (fun H locs hP hD hS => ?_)
        refine W.eq (g2 := F0 m 5 ls [.ref (q 6)]) rfl ?_
        have hP : va_P D vwCl (wB y q b R T K P B L) H := hP
        have hD : va_D A (wB y q b R T K P B L) := hD
        refine lv_astore (lv' := [(4, .ref (q 6)), (0, .ref (q 0)), (1, .int p1), (2, .int p2), (3, .int p3)]) hx hb dX3_set_5 hl (by decide) rfl (fun ls hl => ?_)
        refine lv_aload_n hx hb dX3_set_7 rfl (lv_at hl 1 rfl) ?_
        refine va_get (D := D) (ci := 3) (v := .ref (q 1)) (C := RX3) (T := TX3) (N := 7) hx hb hts uX3_set_X3 hown hK hP 0 rfl rfl 0 (by decide) (hts _ kX3_set_2) (fun _ h9 => h9) rfl dX3_set_8 ?_
        refine lv_iload_n hx hb dX3_set_11 rfl (lv_at hl 2 rfl) ?_
        obtain ⟨r_33, hc_34, h⟩ := q_bd_ok h
        refine q_ci (r := r_33) (va_runV (As := [.int p1]) (rest := []) ⟨hx, hb, hml, hown, hts⟩ (c_X0_has l D y t (fun k => q (k + 1)) _ N R p1 r_33 hc_34) (cwV 1 hts gX3_set_X0_has rfl rfl rfl eX0_has ⟨Nat.le_of_ble_eq_true rfl, Nat.le_of_ble_eq_true rfl⟩) ⟨q_blind, (va_recv hK hP (ci := 0) (q0 := 1) rfl rfl), (q_pre hP hK hZ hD hA hS [1, 2, 3, 4, 5, 6, 7] rfl (by decide))⟩ rfl rfl hl.1 rfl (lv_room (Nat.le_of_ble_eq_true rfl)) dX3_set_12 ⟨Nat.zero_le _, Nat.zero_le _⟩) hP hD hA hS [1, 2, 3, 4, 5, 6, 7] rfl (by decide) rfl (fun H locs hP hD hS => ?_)
        have hP : va_P D vwCl (wB y q b R T K P B L) H := hP
        have hD : va_D A (wB y q b R T K P B L) := hD
        refine lv_if_eq (tgt := 35) hx hb dX3_set_15 (by decide) (fun c_35 => ?_) (fun c_35 => ?_)
        · have h := q_t c_35 h
          exact B35 b R T K P B L _ _ _ hP hD hS (lv_sub hl [1] rfl) h
        · have h := q_f c_35 h
          refine lv_aload hx hb dX3_set_18 (lv_at hl 0 rfl) ?_
          refine lv_ifnull hx hb dX3_set_20 ?_
          refine lv_iload_n hx hb dX3_set_23 rfl (lv_at hl 4 rfl) ?_
          refine lv_iconst (v := 0) hx hb dX3_set_24 (by decide) ?_
          refine lv_iload_n hx hb dX3_set_25 rfl (lv_at hl 3 rfl) ?_
          obtain ⟨r_36, hc_37, h⟩ := q_bd_ok h
          refine q_ci (r := r_36) (va_runS (As := [.int p2]) (rest := [.int (0 : Int32), .int p3]) ⟨hx, hb, hml, hown, hts⟩ (c_X3_mostToSet l D y t q _ N p2 r_36 hc_37) (va_cwS 1 hts gX3_set_X3_mostToSet rfl rfl rfl eX3_mostToSet ⟨Nat.le_of_ble_eq_true rfl, Nat.le_of_ble_eq_true rfl⟩) ⟨q_blind, (q_pre hP hK hZ hD hA hS [] rfl (by decide))⟩ rfl rfl hl.1 rfl (lv_room (Nat.le_of_ble_eq_true rfl)) dX3_set_26 ⟨Nat.zero_le _, Nat.zero_le _⟩) hP hD hA hS [] rfl (by decide) rfl (fun H locs hP hD hS => ?_)
          have hP : va_P D vwCl (wB y q b R T K P B L) H := hP
          have hD : va_D A (wB y q b R T K P B L) := hD
          obtain ⟨r_38, hc_39, h⟩ := q_bd_ok h
          refine q_ci (r := r_38) (va_runS (As := [.int p3, .int (0 : Int32), .int r_36]) (rest := []) ⟨hx, hb, hml, hown, hts⟩ (c_X3_within l D y t q _ N p3 (0 : Int32) r_36 r_38 hc_39) (va_cwS 3 hts gX3_set_X3_within rfl rfl rfl eX3_within ⟨Nat.le_of_ble_eq_true rfl, Nat.le_of_ble_eq_true rfl⟩) ⟨q_blind, (q_pre hP hK hZ hD hA hS [] rfl (by decide))⟩ rfl rfl hl.1 rfl (lv_room (Nat.le_of_ble_eq_true rfl)) dX3_set_29 ⟨Nat.zero_le _, Nat.zero_le _⟩) hP hD hA hS [] rfl (by decide) rfl (fun H locs hP hD hS => ?_)
          have hP : va_P D vwCl (wB y q b R T K P B L) H := hP
          have hD : va_D A (wB y q b R T K P B L) := hD
          refine lv_if_ne (tgt := 42) hx hb dX3_set_32 (by decide) (fun c_40 => ?_) (fun c_40 => ?_)
          · have h := q_f c_40 h
            refine lv_aload hx hb dX3_set_42 (lv_at hl 0 rfl) ?_
            refine lv_iload_n hx hb dX3_set_44 rfl (lv_at hl 2 rfl) ?_
            obtain ⟨z_41, h⟩ := q_grd_ok h
            refine va_iald hx hb hK hP 6 0 rfl rfl z_41 dX3_set_45 ?_
            refine lv_topi (fun x_42 ex_42 => ?_)
            have h := q_let_at ex_42 h
            refine lv_istore (lv' := [(5, .int x_42), (4, .ref (q 6)), (0, .ref (q 0)), (1, .int p1), (2, .int p2), (3, .int p3)]) hx hb dX3_set_46 hl (by decide) rfl (fun ls hl => ?_)
            refine lv_aload hx hb dX3_set_48 (lv_at hl 1 rfl) ?_
            refine lv_iload_n hx hb dX3_set_50 rfl (lv_at hl 3 rfl) ?_
            refine lv_iload_n hx hb dX3_set_51 rfl (lv_at hl 5 rfl) ?_
            obtain ⟨z_43, h⟩ := q_grd_ok h
            obtain ⟨R_44, eR_44, h⟩ := q_let_ok h
            refine va_iast hx hb hK hP hD hS 6 0 rfl rfl z_43 dX3_set_52 (fun H locs hP hD hS => ?_)
            have hP : va_P D vwCl (wB y q b R_44 T K P B L) H := by rw [eR_44]; exact hP
            have hD : va_D A (wB y q b R_44 T K P B L) := by rw [eR_44]; exact hD
            refine lv_iload hx hb dX3_set_53 (lv_at hl 0 rfl) ?_
            have e9 := Option.some.inj h
            exact q_iret hx hb hr hlocks hK hP hD hS dX3_set_55 (by first | rw [← e9] | rfl) (by first | rw [← e9] | rfl)
          · have h := q_t c_40 h
            exact B35 b R T K P B L _ _ _ hP hD hS (lv_sub hl [1] rfl) h
      · have h := q_f c_32 h
        by_cases c_46 : p2 = 7
        · have h := q_t c_46 h
          have hc_59 : f_X3_rowToSet N q b R T K P B L p2 = some (some (q 7)) := by simp [f_X3_rowToSet, c_1, c_18, c_32, c_46]
          refine q_cq0 (r := some (q 7)) (va_runV (As := [.int p2]) (rest := []) ⟨hx, hb, hml, hown, hts⟩ (c_X3_rowToSet l D y t q _ N b R T K P B L p2 (some (q 7)) hc_59) (cwV 1 hts gX3_set_X3_rowToSet rfl rfl rfl eX3_rowToSet ⟨Nat.le_of_ble_eq_true rfl, Nat.le_of_ble_eq_true rfl⟩) ⟨q_blind, va_recv hK hP (ci := 3) (q0 := 0) rfl rfl, (q_pre0 hP hK hZ hD hA hS)⟩ rfl rfl hl.1 rfl (lv_room (Nat.le_of_ble_eq_true rfl)) dX3_set_2 ⟨Nat.zero_le _, Nat.zero_le _⟩) hD hA hS (fun H locs hP hD hS => ?_)
          refine W.eq (g2 := F0 m 5 ls [.ref (q 7)]) rfl ?_
          have hP : va_P D vwCl (wB y q b R T K P B L) H := hP
          have hD : va_D A (wB y q b R T K P B L) := hD
          refine lv_astore (lv' := [(4, .ref (q 7)), (0, .ref (q 0)), (1, .int p1), (2, .int p2), (3, .int p3)]) hx hb dX3_set_5 hl (by decide) rfl (fun ls hl => ?_)
          refine lv_aload_n hx hb dX3_set_7 rfl (lv_at hl 1 rfl) ?_
          refine va_get (D := D) (ci := 3) (v := .ref (q 1)) (C := RX3) (T := TX3) (N := 7) hx hb hts uX3_set_X3 hown hK hP 0 rfl rfl 0 (by decide) (hts _ kX3_set_2) (fun _ h9 => h9) rfl dX3_set_8 ?_
          refine lv_iload_n hx hb dX3_set_11 rfl (lv_at hl 2 rfl) ?_
          obtain ⟨r_47, hc_48, h⟩ := q_bd_ok h
          refine q_ci (r := r_47) (va_runV (As := [.int p1]) (rest := []) ⟨hx, hb, hml, hown, hts⟩ (c_X0_has l D y t (fun k => q (k + 1)) _ N R p1 r_47 hc_48) (cwV 1 hts gX3_set_X0_has rfl rfl rfl eX0_has ⟨Nat.le_of_ble_eq_true rfl, Nat.le_of_ble_eq_true rfl⟩) ⟨q_blind, (va_recv hK hP (ci := 0) (q0 := 1) rfl rfl), (q_pre hP hK hZ hD hA hS [1, 2, 3, 4, 5, 6, 7] rfl (by decide))⟩ rfl rfl hl.1 rfl (lv_room (Nat.le_of_ble_eq_true rfl)) dX3_set_12 ⟨Nat.zero_le _, Nat.zero_le _⟩) hP hD hA hS [1, 2, 3, 4, 5, 6, 7] rfl (by decide) rfl (fun H locs hP hD hS => ?_)
          have hP : va_P D vwCl (wB y q b R T K P B L) H := hP
          have hD : va_D A (wB y q b R T K P B L) := hD
          refine lv_if_eq (tgt := 35) hx hb dX3_set_15 (by decide) (fun c_49 => ?_) (fun c_49 => ?_)
          · have h := q_t c_49 h
            exact B35 b R T K P B L _ _ _ hP hD hS (lv_sub hl [1] rfl) h
          · have h := q_f c_49 h
            refine lv_aload hx hb dX3_set_18 (lv_at hl 0 rfl) ?_
            refine lv_ifnull hx hb dX3_set_20 ?_
            refine lv_iload_n hx hb dX3_set_23 rfl (lv_at hl 4 rfl) ?_
            refine lv_iconst (v := 0) hx hb dX3_set_24 (by decide) ?_
            refine lv_iload_n hx hb dX3_set_25 rfl (lv_at hl 3 rfl) ?_
            obtain ⟨r_50, hc_51, h⟩ := q_bd_ok h
            refine q_ci (r := r_50) (va_runS (As := [.int p2]) (rest := [.int (0 : Int32), .int p3]) ⟨hx, hb, hml, hown, hts⟩ (c_X3_mostToSet l D y t q _ N p2 r_50 hc_51) (va_cwS 1 hts gX3_set_X3_mostToSet rfl rfl rfl eX3_mostToSet ⟨Nat.le_of_ble_eq_true rfl, Nat.le_of_ble_eq_true rfl⟩) ⟨q_blind, (q_pre hP hK hZ hD hA hS [] rfl (by decide))⟩ rfl rfl hl.1 rfl (lv_room (Nat.le_of_ble_eq_true rfl)) dX3_set_26 ⟨Nat.zero_le _, Nat.zero_le _⟩) hP hD hA hS [] rfl (by decide) rfl (fun H locs hP hD hS => ?_)
            have hP : va_P D vwCl (wB y q b R T K P B L) H := hP
            have hD : va_D A (wB y q b R T K P B L) := hD
            obtain ⟨r_52, hc_53, h⟩ := q_bd_ok h
            refine q_ci (r := r_52) (va_runS (As := [.int p3, .int (0 : Int32), .int r_50]) (rest := []) ⟨hx, hb, hml, hown, hts⟩ (c_X3_within l D y t q _ N p3 (0 : Int32) r_50 r_52 hc_53) (va_cwS 3 hts gX3_set_X3_within rfl rfl rfl eX3_within ⟨Nat.le_of_ble_eq_true rfl, Nat.le_of_ble_eq_true rfl⟩) ⟨q_blind, (q_pre hP hK hZ hD hA hS [] rfl (by decide))⟩ rfl rfl hl.1 rfl (lv_room (Nat.le_of_ble_eq_true rfl)) dX3_set_29 ⟨Nat.zero_le _, Nat.zero_le _⟩) hP hD hA hS [] rfl (by decide) rfl (fun H locs hP hD hS => ?_)
            have hP : va_P D vwCl (wB y q b R T K P B L) H := hP
            have hD : va_D A (wB y q b R T K P B L) := hD
            refine lv_if_ne (tgt := 42) hx hb dX3_set_32 (by decide) (fun c_54 => ?_) (fun c_54 => ?_)
            · have h := q_f c_54 h
              refine lv_aload hx hb dX3_set_42 (lv_at hl 0 rfl) ?_
              refine lv_iload_n hx hb dX3_set_44 rfl (lv_at hl 2 rfl) ?_
              obtain ⟨z_55, h⟩ := q_grd_ok h
              refine va_iald hx hb hK hP 7 0 rfl rfl z_55 dX3_set_45 ?_
              refine lv_topi (fun x_56 ex_56 => ?_)
              have h := q_let_at ex_56 h
              refine lv_istore (lv' := [(5, .int x_56), (4, .ref (q 7)), (0, .ref (q 0)), (1, .int p1), (2, .int p2), (3, .int p3)]) hx hb dX3_set_46 hl (by decide) rfl (fun ls hl => ?_)
              refine lv_aload hx hb dX3_set_48 (lv_at hl 1 rfl) ?_
              refine lv_iload_n hx hb dX3_set_50 rfl (lv_at hl 3 rfl) ?_
              refine lv_iload_n hx hb dX3_set_51 rfl (lv_at hl 5 rfl) ?_
              obtain ⟨z_57, h⟩ := q_grd_ok h
              obtain ⟨R_58, eR_58, h⟩ := q_let_ok h
              refine va_iast hx hb hK hP hD hS 7 0 rfl rfl z_57 dX3_set_52 (fun H locs hP hD hS => ?_)
              have hP : va_P D vwCl (wB y q b R_58 T K P B L) H := by rw [eR_58]; exact hP
              have hD : va_D A (wB y q b R_58 T K P B L) := by rw [eR_58]; exact hD
              refine lv_iload hx hb dX3_set_53 (lv_at hl 0 rfl) ?_
              have e9 := Option.some.inj h
              exact q_iret hx hb hr hlocks hK hP hD hS dX3_set_55 (by first | rw [← e9] | rfl) (by first | rw [← e9] | rfl)
            · have h := q_t c_54 h
              exact B35 b R T K P B L _ _ _ hP hD hS (lv_sub hl [1] rfl) h
        · have h := q_f c_46 h
          have hc_63 : f_X3_rowToSet N q b R T K P B L p2 = some (none) := by simp [f_X3_rowToSet, c_1, c_18, c_32, c_46]
          refine q_cq0 (r := none) (va_runV (As := [.int p2]) (rest := []) ⟨hx, hb, hml, hown, hts⟩ (c_X3_rowToSet l D y t q _ N b R T K P B L p2 (none) hc_63) (cwV 1 hts gX3_set_X3_rowToSet rfl rfl rfl eX3_rowToSet ⟨Nat.le_of_ble_eq_true rfl, Nat.le_of_ble_eq_true rfl⟩) ⟨q_blind, va_recv hK hP (ci := 3) (q0 := 0) rfl rfl, (q_pre0 hP hK hZ hD hA hS)⟩ rfl rfl hl.1 rfl (lv_room (Nat.le_of_ble_eq_true rfl)) dX3_set_2 ⟨Nat.zero_le _, Nat.zero_le _⟩) hD hA hS (fun H locs hP hD hS => ?_)
          refine W.eq (g2 := F0 m 5 ls [.null]) rfl ?_
          have hP : va_P D vwCl (wB y q b R T K P B L) H := hP
          have hD : va_D A (wB y q b R T K P B L) := hD
          refine lv_astoreN (lv' := [(4, .null), (0, .ref (q 0)), (1, .int p1), (2, .int p2), (3, .int p3)]) hx hb dX3_set_5 hl (by decide) rfl (fun ls hl => ?_)
          refine lv_aload_n hx hb dX3_set_7 rfl (lv_at hl 1 rfl) ?_
          refine va_get (D := D) (ci := 3) (v := .ref (q 1)) (C := RX3) (T := TX3) (N := 7) hx hb hts uX3_set_X3 hown hK hP 0 rfl rfl 0 (by decide) (hts _ kX3_set_2) (fun _ h9 => h9) rfl dX3_set_8 ?_
          refine lv_iload_n hx hb dX3_set_11 rfl (lv_at hl 2 rfl) ?_
          obtain ⟨r_60, hc_61, h⟩ := q_bd_ok h
          refine q_ci (r := r_60) (va_runV (As := [.int p1]) (rest := []) ⟨hx, hb, hml, hown, hts⟩ (c_X0_has l D y t (fun k => q (k + 1)) _ N R p1 r_60 hc_61) (cwV 1 hts gX3_set_X0_has rfl rfl rfl eX0_has ⟨Nat.le_of_ble_eq_true rfl, Nat.le_of_ble_eq_true rfl⟩) ⟨q_blind, (va_recv hK hP (ci := 0) (q0 := 1) rfl rfl), (q_pre hP hK hZ hD hA hS [1, 2, 3, 4, 5, 6, 7] rfl (by decide))⟩ rfl rfl hl.1 rfl (lv_room (Nat.le_of_ble_eq_true rfl)) dX3_set_12 ⟨Nat.zero_le _, Nat.zero_le _⟩) hP hD hA hS [1, 2, 3, 4, 5, 6, 7] rfl (by decide) rfl (fun H locs hP hD hS => ?_)
          have hP : va_P D vwCl (wB y q b R T K P B L) H := hP
          have hD : va_D A (wB y q b R T K P B L) := hD
          refine lv_if_eq (tgt := 35) hx hb dX3_set_15 (by decide) (fun c_62 => ?_) (fun c_62 => ?_)
          · have h := q_t c_62 h
            exact B35 b R T K P B L _ _ _ hP hD hS (lv_sub hl [1] rfl) h
          · have h := q_f c_62 h
            refine lv_aloadN hx hb dX3_set_18 (lv_at hl 0 rfl) ?_
            refine lv_ifnullN (tgt := 35) hx hb dX3_set_20 (by decide) ?_
            exact B35 b R T K P B L _ _ _ hP hD hS (lv_sub hl [1] rfl) h
theorem eX3_set : yX3_set.cls = RX3 ∧ yX3_set.cls ≠ "java/lang/invoke/MethodHandle" ∧ yX3_set.cls ≠ "java/lang/invoke/VarHandle" ∧ (parseMethodDescriptor yX3_set.desc).map (fun d => d.parameters.length) = some 3 := by decide +kernel
theorem kX3_carry_0 : Cond.constant RX3 58 (-1000000001) ∈ wsX3_carry := List.mem_of_getElem? (i := 2) (by decide +kernel)
theorem uX3_carry_X0 : ∀ w ∈ u_ws RX0 TX0 13, w ∈ wsX3_carry := by decide +kernel
theorem kX3_carry_2 : Cond.fieldLink RX3 69 "BeamSeats$Island" "lostSet" "I" ∈ wsX3_carry := List.mem_of_getElem? (i := 5) (by decide +kernel)
theorem uX3_carry_X3 : ∀ w ∈ u_ws RX3 TX3 7, w ∈ wsX3_carry := by decide +kernel
theorem kX3_carry_4 : Cond.fieldLink RX3 10 "BeamSeats" "real" "LBeamSeats$Island;" ∈ wsX3_carry := List.mem_of_getElem? (i := 1) (by decide +kernel)
theorem kX3_carry_5 : Cond.fieldLink RX3 97 "BeamSeats$Island" "places" "[I" ∈ wsX3_carry := List.mem_of_getElem? (i := 4) (by decide +kernel)
theorem kX3_carry_6 : Cond.constant RX3 131 (-1000000005) ∈ wsX3_carry := List.mem_of_getElem? (i := 3) (by decide +kernel)
def f_X3_carry_B21 (N : Nat) (b : Nat → Nat → Int32) (R : Nat → Nat → Int32) (T : Nat → Nat → Int32) (K : Nat → Nat → Int32) (P : Nat → Nat → Int32) (B : Nat → Nat → Int32) (L : Nat → Nat → Int64) : Option (Int32 × (Nat → Nat → Int32) × (Nat → Nat → Int32)) :=
  q_bd2 (f_X3_found N b R T K P B L (-1000000001 : Int32)) (fun r_4 b_5 =>
  some (r_4, b_5, R))
def f_X3_carry (N : Nat) (b : Nat → Nat → Int32) (R : Nat → Nat → Int32) (T : Nat → Nat → Int32) (K : Nat → Nat → Int32) (P : Nat → Nat → Int32) (B : Nat → Nat → Int32) (L : Nat → Nat → Int64) (p1 : Int32) (p2 : Int32) : Option (Int32 × (Nat → Nat → Int32) × (Nat → Nat → Int32)) :=
  q_bd (f_X0_has N R p1) (fun r_1 =>
  if r_1 = 0 then
    f_X3_carry_B21 N b R T K P B L
  else
    q_bd (f_X3_within N p2 (0 : Int32) (59 : Int32)) (fun r_7 =>
    if r_7 = 0 then
      f_X3_carry_B21 N b R T K P B L
    else
      q_bd (f_X0_isOn N R p1) (fun r_10 =>
      if r_10 = 0 then
        q_grd p1 8 (
        q_let (R 2 p1.toNatClampNeg) (fun x_14 =>
        q_grd p1 8 (
        q_let (q_up R 2 p1.toNatClampNeg p2) (fun R_16 =>
        q_let (q_up R_16 0 6 ((R_16 0 6) &&& (((1 : Int32) <<< (p1 &&& 31)) ^^^ (-1 : Int32)))) (fun R_17 =>
        some (x_14, b, R_17))))))
      else
        q_bd2 (f_X3_found N b R T K P B L (-1000000005 : Int32)) (fun r_18 b_19 =>
        some (r_18, b_19, R)))))
set_option maxHeartbeats 4000000 in
set_option maxRecDepth 100000 in
theorem c_X3_carry (l : Launch) (D : va_G) (y : Nat → ClassId) (t : Nat → Nat) (q : Nat → Nat) (sz N : Nat) (b : Nat → Nat → Int32) (R : Nat → Nat → Int32) (T : Nat → Nat → Int32) (K : Nat → Nat → Int32) (P : Nat → Nat → Int32) (B : Nat → Nat → Int32) (L : Nat → Nat → Int64) (p1 : Int32) (p2 : Int32) (res : Int32 × (Nat → Nat → Int32) × (Nat → Nat → Int32)) (h : f_X3_carry N b R T K P B L p1 p2 = some res) : Met l yX3_carry wsX3_carry ({ frames := 2, cells := 0, slots := 0, locals := 44 } : Room) (pPre D y t [.ref (q 0), .int p1, .int p2] (wB y q b R T K P B L) sz) (pQi D y (res.1) (wB y q (res.2.1) (res.2.2) T K P B L) (va_A (wB y q b R T K P B L) sz)) 0 0 (va_A (wB y q b R T K P B L) sz) := by
  refine q_start (Qc := (fun A => pQi D y (res.1) (wB y q (res.2.1) (res.2.2) T K P B L) A)) (cc := cX3_carry) (maxL := 4) (ret := (some .int)) (by decide) rfl (Nat.le_of_ble_eq_true rfl) ?_
  intro p e s m below meth c A ls hx hb hr hts hown hlocks hmn hml hP hK hZ hD hA hS hl
  have hl : lv_has ls 4 [(0, .ref (q 0)), (1, .int p1), (2, .int p2)] := hl
  have hown : s.vm.findClass RX3 = some m.cls := hown
  have B21 : ∀ (b : Nat → Nat → Int32) (R : Nat → Nat → Int32) (T : Nat → Nat → Int32) (K : Nat → Nat → Int32) (P : Nat → Nat → Int32) (B : Nat → Nat → Int32) (L : Nat → Nat → Int64) (H : Heap) (locs : List Loc) (ls : Array Slot), va_P D vwCl (wB y q b R T K P B L) H → va_D A (wB y q b R T K P B L) → va_S A s.heap H locs → lv_has ls 4 [(0, .ref (q 0))] → f_X3_carry_B21 N b R T K P B L = some res → W p l e ({ frames := 2, cells := 0, slots := 0, locals := 44 } : Room) s m ([.ref (q 0), .int p1, .int p2] : List Value).toArray below meth c H locs 0 0 (MQ below (pQi D y (res.1) (wB y q (res.2.1) (res.2.2) T K P B L) A) ([.ref (q 0), .int p1, .int p2] : List Value).toArray s 0 0 A) (F0 m 21 ls []) := by
    intro b R T K P B L H locs ls hP hD hS hl h
    unfold f_X3_carry_B21 at h
    refine lv_aload_n hx hb dX3_carry_21 rfl (lv_at hl 0 rfl) ?_
    refine lv_ldc (v := -1000000001) hx hb hown (hts _ kX3_carry_0) dX3_carry_22 ?_
    obtain ⟨r_4, b_5, hc_6, h⟩ := q_bd2_ok h
    refine q_ci0 (r := r_4) (va_runV (As := [.int (-1000000001 : Int32)]) (rest := []) ⟨hx, hb, hml, hown, hts⟩ (c_X3_found l D y t q _ N b R T K P B L (-1000000001 : Int32) (r_4, b_5) hc_6) (cwV 1 hts gX3_carry_X3_found rfl rfl rfl eX3_found ⟨Nat.le_of_ble_eq_true rfl, Nat.le_of_ble_eq_true rfl⟩) ⟨q_blind, (va_recv hK hP (ci := 3) (q0 := 0) rfl rfl), (q_pre0 hP hK hZ hD hA hS)⟩ rfl rfl hl.1 rfl (lv_room (Nat.le_of_ble_eq_true rfl)) dX3_carry_24 ⟨Nat.zero_le _, Nat.zero_le _⟩) hD hA hS (fun H locs hP hD hS => ?_)
    have hP : va_P D vwCl (wB y q b_5 R T K P B L) H := hP
    have hD : va_D A (wB y q b_5 R T K P B L) := hD
    have e9 := Option.some.inj h
    exact q_iret hx hb hr hlocks hK hP hD hS dX3_carry_27 (by first | rw [← e9] | rfl) (by first | rw [← e9] | rfl)
  unfold f_X3_carry at h
  refine lv_aload_n hx hb dX3_carry_0 rfl (lv_at hl 0 rfl) ?_
  refine va_get (D := D) (ci := 3) (v := .ref (q 1)) (C := RX3) (T := TX3) (N := 7) hx hb hts uX3_carry_X3 hown hK hP 0 rfl rfl 0 (by decide) (hts _ kX3_carry_4) (fun _ h9 => h9) rfl dX3_carry_1 ?_
  refine lv_iload_n hx hb dX3_carry_4 rfl (lv_at hl 1 rfl) ?_
  obtain ⟨r_1, hc_2, h⟩ := q_bd_ok h
  refine q_ci (r := r_1) (va_runV (As := [.int p1]) (rest := []) ⟨hx, hb, hml, hown, hts⟩ (c_X0_has l D y t (fun k => q (k + 1)) _ N R p1 r_1 hc_2) (cwV 1 hts gX3_carry_X0_has rfl rfl rfl eX0_has ⟨Nat.le_of_ble_eq_true rfl, Nat.le_of_ble_eq_true rfl⟩) ⟨q_blind, (va_recv hK hP (ci := 0) (q0 := 1) rfl rfl), (q_pre hP hK hZ hD hA hS [1, 2, 3, 4, 5, 6, 7] rfl (by decide))⟩ rfl rfl hl.1 rfl (lv_room (Nat.le_of_ble_eq_true rfl)) dX3_carry_5 ⟨Nat.zero_le _, Nat.zero_le _⟩) hP hD hA hS [1, 2, 3, 4, 5, 6, 7] rfl (by decide) rfl (fun H locs hP hD hS => ?_)
  have hP : va_P D vwCl (wB y q b R T K P B L) H := hP
  have hD : va_D A (wB y q b R T K P B L) := hD
  refine lv_if_eq (tgt := 21) hx hb dX3_carry_8 (by decide) (fun c_3 => ?_) (fun c_3 => ?_)
  · have h := q_t c_3 h
    exact B21 b R T K P B L _ _ _ hP hD hS (lv_sub hl [0] rfl) h
  · have h := q_f c_3 h
    refine lv_iload_n hx hb dX3_carry_11 rfl (lv_at hl 2 rfl) ?_
    refine lv_iconst (v := 0) hx hb dX3_carry_12 (by decide) ?_
    refine lv_bipush (v := 59) hx hb dX3_carry_13 (by decide) ?_
    obtain ⟨r_7, hc_8, h⟩ := q_bd_ok h
    refine q_ci (r := r_7) (va_runS (As := [.int p2, .int (0 : Int32), .int (59 : Int32)]) (rest := []) ⟨hx, hb, hml, hown, hts⟩ (c_X3_within l D y t q _ N p2 (0 : Int32) (59 : Int32) r_7 hc_8) (va_cwS 3 hts gX3_carry_X3_within rfl rfl rfl eX3_within ⟨Nat.le_of_ble_eq_true rfl, Nat.le_of_ble_eq_true rfl⟩) ⟨q_blind, (q_pre hP hK hZ hD hA hS [] rfl (by decide))⟩ rfl rfl hl.1 rfl (lv_room (Nat.le_of_ble_eq_true rfl)) dX3_carry_15 ⟨Nat.zero_le _, Nat.zero_le _⟩) hP hD hA hS [] rfl (by decide) rfl (fun H locs hP hD hS => ?_)
    have hP : va_P D vwCl (wB y q b R T K P B L) H := hP
    have hD : va_D A (wB y q b R T K P B L) := hD
    refine lv_if_ne (tgt := 28) hx hb dX3_carry_18 (by decide) (fun c_9 => ?_) (fun c_9 => ?_)
    · have h := q_f c_9 h
      refine lv_aload_n hx hb dX3_carry_28 rfl (lv_at hl 0 rfl) ?_
      refine va_get (D := D) (ci := 3) (v := .ref (q 1)) (C := RX3) (T := TX3) (N := 7) hx hb hts uX3_carry_X3 hown hK hP 0 rfl rfl 0 (by decide) (hts _ kX3_carry_4) (fun _ h9 => h9) rfl dX3_carry_29 ?_
      refine lv_iload_n hx hb dX3_carry_32 rfl (lv_at hl 1 rfl) ?_
      obtain ⟨r_10, hc_11, h⟩ := q_bd_ok h
      refine q_ci (r := r_10) (va_runV (As := [.int p1]) (rest := []) ⟨hx, hb, hml, hown, hts⟩ (c_X0_isOn l D y t (fun k => q (k + 1)) _ N R p1 r_10 hc_11) (cwV 1 hts gX3_carry_X0_isOn rfl rfl rfl eX0_isOn ⟨Nat.le_of_ble_eq_true rfl, Nat.le_of_ble_eq_true rfl⟩) ⟨q_blind, (va_recv hK hP (ci := 0) (q0 := 1) rfl rfl), (q_pre hP hK hZ hD hA hS [1, 2, 3, 4, 5, 6, 7] rfl (by decide))⟩ rfl rfl hl.1 rfl (lv_room (Nat.le_of_ble_eq_true rfl)) dX3_carry_33 ⟨Nat.zero_le _, Nat.zero_le _⟩) hP hD hA hS [1, 2, 3, 4, 5, 6, 7] rfl (by decide) rfl (fun H locs hP hD hS => ?_)
      have hP : va_P D vwCl (wB y q b R T K P B L) H := hP
      have hD : va_D A (wB y q b R T K P B L) := hD
      refine lv_if_eq (tgt := 46) hx hb dX3_carry_36 (by decide) (fun c_12 => ?_) (fun c_12 => ?_)
      · have h := q_t c_12 h
        refine lv_aload_n hx hb dX3_carry_46 rfl (lv_at hl 0 rfl) ?_
        refine va_get (D := D) (ci := 3) (v := .ref (q 1)) (C := RX3) (T := TX3) (N := 7) hx hb hts uX3_carry_X3 hown hK hP 0 rfl rfl 0 (by decide) (hts _ kX3_carry_4) (fun _ h9 => h9) rfl dX3_carry_47 ?_
        refine va_get (D := D) (ci := 0) (v := .ref (q 3)) (C := RX0) (T := TX0) (N := 13) hx hb hts uX3_carry_X0 hown hK hP 1 rfl rfl 8 (by decide) (hts _ kX3_carry_5) (fun _ h9 => h9) rfl dX3_carry_50 ?_
        refine lv_iload_n hx hb dX3_carry_53 rfl (lv_at hl 1 rfl) ?_
        obtain ⟨z_13, h⟩ := q_grd_ok h
        refine va_iald hx hb hK hP 3 0 rfl rfl z_13 dX3_carry_54 ?_
        refine lv_topi (fun x_14 ex_14 => ?_)
        have h := q_let_at ex_14 h
        refine lv_istore_n (lv' := [(3, .int x_14), (0, .ref (q 0)), (1, .int p1), (2, .int p2)]) hx hb dX3_carry_55 rfl hl (by decide) rfl (fun ls hl => ?_)
        refine lv_aload_n hx hb dX3_carry_56 rfl (lv_at hl 1 rfl) ?_
        refine va_get (D := D) (ci := 3) (v := .ref (q 1)) (C := RX3) (T := TX3) (N := 7) hx hb hts uX3_carry_X3 hown hK hP 0 rfl rfl 0 (by decide) (hts _ kX3_carry_4) (fun _ h9 => h9) rfl dX3_carry_57 ?_
        refine va_get (D := D) (ci := 0) (v := .ref (q 3)) (C := RX0) (T := TX0) (N := 13) hx hb hts uX3_carry_X0 hown hK hP 1 rfl rfl 8 (by decide) (hts _ kX3_carry_5) (fun _ h9 => h9) rfl dX3_carry_60 ?_
        refine lv_iload_n hx hb dX3_carry_63 rfl (lv_at hl 2 rfl) ?_
        refine lv_iload_n hx hb dX3_carry_64 rfl (lv_at hl 3 rfl) ?_
        obtain ⟨z_15, h⟩ := q_grd_ok h
        obtain ⟨R_16, eR_16, h⟩ := q_let_ok h
        refine va_iast hx hb hK hP hD hS 3 0 rfl rfl z_15 dX3_carry_65 (fun H locs hP hD hS => ?_)
        have hP : va_P D vwCl (wB y q b R_16 T K P B L) H := by rw [eR_16]; exact hP
        have hD : va_D A (wB y q b R_16 T K P B L) := by rw [eR_16]; exact hD
        refine lv_aload_n hx hb dX3_carry_66 rfl (lv_at hl 1 rfl) ?_
        refine va_get (D := D) (ci := 3) (v := .ref (q 1)) (C := RX3) (T := TX3) (N := 7) hx hb hts uX3_carry_X3 hown hK hP 0 rfl rfl 0 (by decide) (hts _ kX3_carry_4) (fun _ h9 => h9) rfl dX3_carry_67 ?_
        refine lv_dup hx hb dX3_carry_70 rfl ?_
        refine va_get (D := D) (ci := 0) (v := .int (R_16 0 6)) (C := RX0) (T := TX0) (N := 13) hx hb hts uX3_carry_X0 hown hK hP 1 rfl rfl 6 (by decide) (hts _ kX3_carry_2) (fun _ h9 => h9) rfl dX3_carry_71 ?_
        refine lv_iconst (v := 1) hx hb dX3_carry_74 (by decide) ?_
        refine lv_iload_n hx hb dX3_carry_75 rfl (lv_at hl 2 rfl) ?_
        refine lv_ishl hx hb dX3_carry_76 ?_
        refine lv_iconst (v := -1) hx hb dX3_carry_77 (by decide) ?_
        refine lv_ixor hx hb dX3_carry_78 ?_
        refine lv_iand hx hb dX3_carry_79 ?_
        obtain ⟨R_17, eR_17, h⟩ := q_let_ok h
        refine va_put (D := D) (ci := 0) (v := .int ((R_16 0 6) &&& (((1 : Int32) <<< (p1 &&& 31)) ^^^ (-1 : Int32)))) (ty := .int) (C := RX0) (T := TX0) (N := 13) hx hb hts uX3_carry_X0 tyX0 tyX0_ok nmX0 hown hK hP hD hS 1 rfl rfl 6 (by decide) (hts _ kX3_carry_2) (fun _ h9 => h9) rfl (by decide +kernel) rfl rfl (Nat.le_of_ble_eq_true rfl) dX3_carry_80 (fun H locs hP hD hS => ?_)
        have hP : va_P D vwCl (wB y q b R_17 T K P B L) H := by rw [eR_17]; exact hP
        have hD : va_D A (wB y q b R_17 T K P B L) := by rw [eR_17]; exact hD
        refine lv_iload_n hx hb dX3_carry_83 rfl (lv_at hl 0 rfl) ?_
        have e9 := Option.some.inj h
        exact q_iret hx hb hr hlocks hK hP hD hS dX3_carry_84 (by first | rw [← e9] | rfl) (by first | rw [← e9] | rfl)
      · have h := q_f c_12 h
        refine lv_aload_n hx hb dX3_carry_39 rfl (lv_at hl 0 rfl) ?_
        refine lv_ldc (v := -1000000005) hx hb hown (hts _ kX3_carry_6) dX3_carry_40 ?_
        obtain ⟨r_18, b_19, hc_20, h⟩ := q_bd2_ok h
        refine q_ci0 (r := r_18) (va_runV (As := [.int (-1000000005 : Int32)]) (rest := []) ⟨hx, hb, hml, hown, hts⟩ (c_X3_found l D y t q _ N b R T K P B L (-1000000005 : Int32) (r_18, b_19) hc_20) (cwV 1 hts gX3_carry_X3_found rfl rfl rfl eX3_found ⟨Nat.le_of_ble_eq_true rfl, Nat.le_of_ble_eq_true rfl⟩) ⟨q_blind, (va_recv hK hP (ci := 3) (q0 := 0) rfl rfl), (q_pre0 hP hK hZ hD hA hS)⟩ rfl rfl hl.1 rfl (lv_room (Nat.le_of_ble_eq_true rfl)) dX3_carry_42 ⟨Nat.zero_le _, Nat.zero_le _⟩) hD hA hS (fun H locs hP hD hS => ?_)
        have hP : va_P D vwCl (wB y q b_19 R T K P B L) H := hP
        have hD : va_D A (wB y q b_19 R T K P B L) := hD
        have e9 := Option.some.inj h
        exact q_iret hx hb hr hlocks hK hP hD hS dX3_carry_45 (by first | rw [← e9] | rfl) (by first | rw [← e9] | rfl)
    · have h := q_t c_9 h
      exact B21 b R T K P B L _ _ _ hP hD hS (lv_sub hl [0] rfl) h
theorem eX3_carry : yX3_carry.cls = RX3 ∧ yX3_carry.cls ≠ "java/lang/invoke/MethodHandle" ∧ yX3_carry.cls ≠ "java/lang/invoke/VarHandle" ∧ (parseMethodDescriptor yX3_carry.desc).map (fun d => d.parameters.length) = some 2 := by decide +kernel
theorem kX3_turn_0 : Cond.constant RX3 58 (-1000000001) ∈ wsX3_turn := List.mem_of_getElem? (i := 2) (by decide +kernel)
theorem uX3_turn_X0 : ∀ w ∈ u_ws RX0 TX0 13, w ∈ wsX3_turn := by decide +kernel
theorem kX3_turn_2 : Cond.fieldLink RX3 94 "BeamSeats$Island" "kinds" "[I" ∈ wsX3_turn := List.mem_of_getElem? (i := 3) (by decide +kernel)
theorem uX3_turn_X3 : ∀ w ∈ u_ws RX3 TX3 7, w ∈ wsX3_turn := by decide +kernel
theorem kX3_turn_4 : Cond.fieldLink RX3 10 "BeamSeats" "real" "LBeamSeats$Island;" ∈ wsX3_turn := List.mem_of_getElem? (i := 1) (by decide +kernel)
def f_X3_turn_B20 (N : Nat) (b : Nat → Nat → Int32) (R : Nat → Nat → Int32) (T : Nat → Nat → Int32) (K : Nat → Nat → Int32) (P : Nat → Nat → Int32) (B : Nat → Nat → Int32) (L : Nat → Nat → Int64) : Option (Int32 × (Nat → Nat → Int32) × (Nat → Nat → Int32)) :=
  q_bd2 (f_X3_found N b R T K P B L (-1000000001 : Int32)) (fun r_4 b_5 =>
  some (r_4, b_5, R))
def f_X3_turn (N : Nat) (b : Nat → Nat → Int32) (R : Nat → Nat → Int32) (T : Nat → Nat → Int32) (K : Nat → Nat → Int32) (P : Nat → Nat → Int32) (B : Nat → Nat → Int32) (L : Nat → Nat → Int64) (p1 : Int32) (p2 : Int32) : Option (Int32 × (Nat → Nat → Int32) × (Nat → Nat → Int32)) :=
  q_bd (f_X0_has N R p1) (fun r_1 =>
  if r_1 = 0 then
    f_X3_turn_B20 N b R T K P B L
  else
    q_bd (f_X3_within N p2 (0 : Int32) (5 : Int32)) (fun r_7 =>
    if r_7 = 0 then
      f_X3_turn_B20 N b R T K P B L
    else
      q_grd p1 8 (
      q_let (R 1 p1.toNatClampNeg) (fun x_11 =>
      q_grd p1 8 (
      q_let (q_up R 1 p1.toNatClampNeg p2) (fun R_13 =>
      some (x_11, b, R_13)))))))
set_option maxHeartbeats 4000000 in
set_option maxRecDepth 100000 in
theorem c_X3_turn (l : Launch) (D : va_G) (y : Nat → ClassId) (t : Nat → Nat) (q : Nat → Nat) (sz N : Nat) (b : Nat → Nat → Int32) (R : Nat → Nat → Int32) (T : Nat → Nat → Int32) (K : Nat → Nat → Int32) (P : Nat → Nat → Int32) (B : Nat → Nat → Int32) (L : Nat → Nat → Int64) (p1 : Int32) (p2 : Int32) (res : Int32 × (Nat → Nat → Int32) × (Nat → Nat → Int32)) (h : f_X3_turn N b R T K P B L p1 p2 = some res) : Met l yX3_turn wsX3_turn ({ frames := 2, cells := 0, slots := 0, locals := 44 } : Room) (pPre D y t [.ref (q 0), .int p1, .int p2] (wB y q b R T K P B L) sz) (pQi D y (res.1) (wB y q (res.2.1) (res.2.2) T K P B L) (va_A (wB y q b R T K P B L) sz)) 0 0 (va_A (wB y q b R T K P B L) sz) := by
  refine q_start (Qc := (fun A => pQi D y (res.1) (wB y q (res.2.1) (res.2.2) T K P B L) A)) (cc := cX3_turn) (maxL := 4) (ret := (some .int)) (by decide) rfl (Nat.le_of_ble_eq_true rfl) ?_
  intro p e s m below meth c A ls hx hb hr hts hown hlocks hmn hml hP hK hZ hD hA hS hl
  have hl : lv_has ls 4 [(0, .ref (q 0)), (1, .int p1), (2, .int p2)] := hl
  have hown : s.vm.findClass RX3 = some m.cls := hown
  have B20 : ∀ (b : Nat → Nat → Int32) (R : Nat → Nat → Int32) (T : Nat → Nat → Int32) (K : Nat → Nat → Int32) (P : Nat → Nat → Int32) (B : Nat → Nat → Int32) (L : Nat → Nat → Int64) (H : Heap) (locs : List Loc) (ls : Array Slot), va_P D vwCl (wB y q b R T K P B L) H → va_D A (wB y q b R T K P B L) → va_S A s.heap H locs → lv_has ls 4 [(0, .ref (q 0))] → f_X3_turn_B20 N b R T K P B L = some res → W p l e ({ frames := 2, cells := 0, slots := 0, locals := 44 } : Room) s m ([.ref (q 0), .int p1, .int p2] : List Value).toArray below meth c H locs 0 0 (MQ below (pQi D y (res.1) (wB y q (res.2.1) (res.2.2) T K P B L) A) ([.ref (q 0), .int p1, .int p2] : List Value).toArray s 0 0 A) (F0 m 20 ls []) := by
    intro b R T K P B L H locs ls hP hD hS hl h
    unfold f_X3_turn_B20 at h
    refine lv_aload_n hx hb dX3_turn_20 rfl (lv_at hl 0 rfl) ?_
    refine lv_ldc (v := -1000000001) hx hb hown (hts _ kX3_turn_0) dX3_turn_21 ?_
    obtain ⟨r_4, b_5, hc_6, h⟩ := q_bd2_ok h
    refine q_ci0 (r := r_4) (va_runV (As := [.int (-1000000001 : Int32)]) (rest := []) ⟨hx, hb, hml, hown, hts⟩ (c_X3_found l D y t q _ N b R T K P B L (-1000000001 : Int32) (r_4, b_5) hc_6) (cwV 1 hts gX3_turn_X3_found rfl rfl rfl eX3_found ⟨Nat.le_of_ble_eq_true rfl, Nat.le_of_ble_eq_true rfl⟩) ⟨q_blind, (va_recv hK hP (ci := 3) (q0 := 0) rfl rfl), (q_pre0 hP hK hZ hD hA hS)⟩ rfl rfl hl.1 rfl (lv_room (Nat.le_of_ble_eq_true rfl)) dX3_turn_23 ⟨Nat.zero_le _, Nat.zero_le _⟩) hD hA hS (fun H locs hP hD hS => ?_)
    have hP : va_P D vwCl (wB y q b_5 R T K P B L) H := hP
    have hD : va_D A (wB y q b_5 R T K P B L) := hD
    have e9 := Option.some.inj h
    exact q_iret hx hb hr hlocks hK hP hD hS dX3_turn_26 (by first | rw [← e9] | rfl) (by first | rw [← e9] | rfl)
  unfold f_X3_turn at h
  refine lv_aload_n hx hb dX3_turn_0 rfl (lv_at hl 0 rfl) ?_
  refine va_get (D := D) (ci := 3) (v := .ref (q 1)) (C := RX3) (T := TX3) (N := 7) hx hb hts uX3_turn_X3 hown hK hP 0 rfl rfl 0 (by decide) (hts _ kX3_turn_4) (fun _ h9 => h9) rfl dX3_turn_1 ?_
  refine lv_iload_n hx hb dX3_turn_4 rfl (lv_at hl 1 rfl) ?_
  obtain ⟨r_1, hc_2, h⟩ := q_bd_ok h
  refine q_ci (r := r_1) (va_runV (As := [.int p1]) (rest := []) ⟨hx, hb, hml, hown, hts⟩ (c_X0_has l D y t (fun k => q (k + 1)) _ N R p1 r_1 hc_2) (cwV 1 hts gX3_turn_X0_has rfl rfl rfl eX0_has ⟨Nat.le_of_ble_eq_true rfl, Nat.le_of_ble_eq_true rfl⟩) ⟨q_blind, (va_recv hK hP (ci := 0) (q0 := 1) rfl rfl), (q_pre hP hK hZ hD hA hS [1, 2, 3, 4, 5, 6, 7] rfl (by decide))⟩ rfl rfl hl.1 rfl (lv_room (Nat.le_of_ble_eq_true rfl)) dX3_turn_5 ⟨Nat.zero_le _, Nat.zero_le _⟩) hP hD hA hS [1, 2, 3, 4, 5, 6, 7] rfl (by decide) rfl (fun H locs hP hD hS => ?_)
  have hP : va_P D vwCl (wB y q b R T K P B L) H := hP
  have hD : va_D A (wB y q b R T K P B L) := hD
  refine lv_if_eq (tgt := 20) hx hb dX3_turn_8 (by decide) (fun c_3 => ?_) (fun c_3 => ?_)
  · have h := q_t c_3 h
    exact B20 b R T K P B L _ _ _ hP hD hS (lv_sub hl [0] rfl) h
  · have h := q_f c_3 h
    refine lv_iload_n hx hb dX3_turn_11 rfl (lv_at hl 2 rfl) ?_
    refine lv_iconst (v := 0) hx hb dX3_turn_12 (by decide) ?_
    refine lv_iconst (v := 5) hx hb dX3_turn_13 (by decide) ?_
    obtain ⟨r_7, hc_8, h⟩ := q_bd_ok h
    refine q_ci (r := r_7) (va_runS (As := [.int p2, .int (0 : Int32), .int (5 : Int32)]) (rest := []) ⟨hx, hb, hml, hown, hts⟩ (c_X3_within l D y t q _ N p2 (0 : Int32) (5 : Int32) r_7 hc_8) (va_cwS 3 hts gX3_turn_X3_within rfl rfl rfl eX3_within ⟨Nat.le_of_ble_eq_true rfl, Nat.le_of_ble_eq_true rfl⟩) ⟨q_blind, (q_pre hP hK hZ hD hA hS [] rfl (by decide))⟩ rfl rfl hl.1 rfl (lv_room (Nat.le_of_ble_eq_true rfl)) dX3_turn_14 ⟨Nat.zero_le _, Nat.zero_le _⟩) hP hD hA hS [] rfl (by decide) rfl (fun H locs hP hD hS => ?_)
    have hP : va_P D vwCl (wB y q b R T K P B L) H := hP
    have hD : va_D A (wB y q b R T K P B L) := hD
    refine lv_if_ne (tgt := 27) hx hb dX3_turn_17 (by decide) (fun c_9 => ?_) (fun c_9 => ?_)
    · have h := q_f c_9 h
      refine lv_aload_n hx hb dX3_turn_27 rfl (lv_at hl 0 rfl) ?_
      refine va_get (D := D) (ci := 3) (v := .ref (q 1)) (C := RX3) (T := TX3) (N := 7) hx hb hts uX3_turn_X3 hown hK hP 0 rfl rfl 0 (by decide) (hts _ kX3_turn_4) (fun _ h9 => h9) rfl dX3_turn_28 ?_
      refine va_get (D := D) (ci := 0) (v := .ref (q 2)) (C := RX0) (T := TX0) (N := 13) hx hb hts uX3_turn_X0 hown hK hP 1 rfl rfl 7 (by decide) (hts _ kX3_turn_2) (fun _ h9 => h9) rfl dX3_turn_31 ?_
      refine lv_iload_n hx hb dX3_turn_34 rfl (lv_at hl 1 rfl) ?_
      obtain ⟨z_10, h⟩ := q_grd_ok h
      refine va_iald hx hb hK hP 2 0 rfl rfl z_10 dX3_turn_35 ?_
      refine lv_topi (fun x_11 ex_11 => ?_)
      have h := q_let_at ex_11 h
      refine lv_istore_n (lv' := [(3, .int x_11), (0, .ref (q 0)), (1, .int p1), (2, .int p2)]) hx hb dX3_turn_36 rfl hl (by decide) rfl (fun ls hl => ?_)
      refine lv_aload_n hx hb dX3_turn_37 rfl (lv_at hl 1 rfl) ?_
      refine va_get (D := D) (ci := 3) (v := .ref (q 1)) (C := RX3) (T := TX3) (N := 7) hx hb hts uX3_turn_X3 hown hK hP 0 rfl rfl 0 (by decide) (hts _ kX3_turn_4) (fun _ h9 => h9) rfl dX3_turn_38 ?_
      refine va_get (D := D) (ci := 0) (v := .ref (q 2)) (C := RX0) (T := TX0) (N := 13) hx hb hts uX3_turn_X0 hown hK hP 1 rfl rfl 7 (by decide) (hts _ kX3_turn_2) (fun _ h9 => h9) rfl dX3_turn_41 ?_
      refine lv_iload_n hx hb dX3_turn_44 rfl (lv_at hl 2 rfl) ?_
      refine lv_iload_n hx hb dX3_turn_45 rfl (lv_at hl 3 rfl) ?_
      obtain ⟨z_12, h⟩ := q_grd_ok h
      obtain ⟨R_13, eR_13, h⟩ := q_let_ok h
      refine va_iast hx hb hK hP hD hS 2 0 rfl rfl z_12 dX3_turn_46 (fun H locs hP hD hS => ?_)
      have hP : va_P D vwCl (wB y q b R_13 T K P B L) H := by rw [eR_13]; exact hP
      have hD : va_D A (wB y q b R_13 T K P B L) := by rw [eR_13]; exact hD
      refine lv_iload_n hx hb dX3_turn_47 rfl (lv_at hl 0 rfl) ?_
      have e9 := Option.some.inj h
      exact q_iret hx hb hr hlocks hK hP hD hS dX3_turn_48 (by first | rw [← e9] | rfl) (by first | rw [← e9] | rfl)
    · have h := q_t c_9 h
      exact B20 b R T K P B L _ _ _ hP hD hS (lv_sub hl [0] rfl) h
theorem eX3_turn : yX3_turn.cls = RX3 ∧ yX3_turn.cls ≠ "java/lang/invoke/MethodHandle" ∧ yX3_turn.cls ≠ "java/lang/invoke/VarHandle" ∧ (parseMethodDescriptor yX3_turn.desc).map (fun d => d.parameters.length) = some 2 := by decide +kernel
theorem kX3_isOfKind_0 : Cond.fieldLink RX3 220 "BeamSeats" "KIND_ABOVE" "[I" ∈ wsX3_isOfKind := List.mem_of_getElem? (i := 1) (by decide +kernel)
def f_X3_isOfKind_L4 (N : Nat) (v1 : Int32) : Nat → Int32 → Int32 → Option (Int32)
  | 0, _, _ => none
  | k + 1, v2, v3 =>
    if (5 : Int32) < v3 then
      some (0 : Int32)
    else
      q_bd (f_X3_within N v2 (0 : Int32) (5 : Int32)) (fun r_5 =>
      if r_5 = 0 then
        some (0 : Int32)
      else
        if v2 = v1 then
          some (1 : Int32)
        else
          q_grd v2 6 (
          q_let (kab v2.toNatClampNeg) (fun x_10 =>
          q_let (v3 + 1) (fun x_11 =>
          f_X3_isOfKind_L4 N v1 k x_10 x_11))))
def f_X3_isOfKind (N : Nat) (p1 : Int32) (p2 : Int32) : Option (Int32) :=
  f_X3_isOfKind_L4 N p2 N p1 (0 : Int32)
set_option maxHeartbeats 4000000 in
set_option maxRecDepth 100000 in
theorem c_X3_isOfKind (l : Launch) (D : va_G) (y : Nat → ClassId) (t : Nat → Nat) (q : Nat → Nat) (sz N : Nat) (p1 : Int32) (p2 : Int32) (res : Int32) (h : f_X3_isOfKind N p1 p2 = some res) : Met l yX3_isOfKind wsX3_isOfKind ({ frames := 1, cells := 0, slots := 0, locals := 22 } : Room) (pPre D y t [.int p1, .int p2] (([] : va_W)) sz) (pQi D y res (([] : va_W)) (va_A (([] : va_W)) sz)) 0 0 (va_A (([] : va_W)) sz) := by
  refine q_start (Qc := (fun A => pQi D y res (([] : va_W)) A)) (cc := cX3_isOfKind) (maxL := 4) (ret := (some .boolean)) (by decide) rfl (Nat.le_of_ble_eq_true rfl) ?_
  intro p e s m below meth c A ls hx hb hr hts hown hlocks hmn hml hP hK hZ hD hA hS hl
  have hl : lv_has ls 4 [(0, .int p1), (1, .int p2)] := hl
  have hown : s.vm.findClass RX3 = some m.cls := hown
  unfold f_X3_isOfKind at h
  refine lv_iload_n hx hb dX3_isOfKind_0 rfl (lv_at hl 0 rfl) ?_
  refine lv_istore_n (lv' := [(2, .int p1), (0, .int p1), (1, .int p2)]) hx hb dX3_isOfKind_1 rfl hl (by decide) rfl (fun ls hl => ?_)
  refine lv_iconst (v := 0) hx hb dX3_isOfKind_2 (by decide) ?_
  refine lv_istore_n (lv' := [(3, .int (0 : Int32)), (2, .int p1), (0, .int p1), (1, .int p2)]) hx hb dX3_isOfKind_3 rfl hl (by decide) rfl (fun ls hl => ?_)
  have L4_1 : ∀ (v1 : Int32) (k : Nat) (v2 : Int32) (v3 : Int32), ∀ (H : Heap) (locs : List Loc) (ls : Array Slot), va_P D vwCl (([] : va_W)) H → va_D A (([] : va_W)) → va_S A s.heap H locs → lv_has ls 4 [(1, .int v1), (2, .int v2), (3, .int v3)] → f_X3_isOfKind_L4 N v1 k v2 v3 = some res → W p l e ({ frames := 1, cells := 0, slots := 0, locals := 22 } : Room) s m ([.int p1, .int p2] : List Value).toArray below meth c H locs 0 0 (MQ below (pQi D y res (([] : va_W)) A) ([.int p1, .int p2] : List Value).toArray s 0 0 A) (F0 m 4 ls []) := by
    intro v1 k
    induction k with
    | zero =>
      intro v2 v3 H locs ls hP hD hS hl h
      have h : (none : Option (Int32)) = some _ := h
      cases h
    | succ k ih4_1 =>
      intro v2 v3 H locs ls hP hD hS hl h
      rw [f_X3_isOfKind_L4] at h
      refine lv_iload_n hx hb dX3_isOfKind_4 rfl (lv_at hl 2 rfl) ?_
      refine lv_iconst (v := 5) hx hb dX3_isOfKind_5 (by decide) ?_
      refine lv_icmp_gt (tgt := 37) hx hb dX3_isOfKind_6 (by decide) (fun c_4 => ?_) (fun c_4 => ?_)
      · have h := q_t c_4 h
        refine lv_iconst (v := 0) hx hb dX3_isOfKind_37 (by decide) ?_
        have e9 := Option.some.inj h
        exact q_zret hx hb hr hlocks hK hP hD hS dX3_isOfKind_38 rfl (by first | rw [← e9] | rfl) (by first | rw [← e9] | rfl)
      · have h := q_f c_4 h
        refine lv_iload_n hx hb dX3_isOfKind_9 rfl (lv_at hl 1 rfl) ?_
        refine lv_iconst (v := 0) hx hb dX3_isOfKind_10 (by decide) ?_
        refine lv_iconst (v := 5) hx hb dX3_isOfKind_11 (by decide) ?_
        obtain ⟨r_5, hc_6, h⟩ := q_bd_ok h
        refine q_ci (r := r_5) (va_runS (As := [.int v2, .int (0 : Int32), .int (5 : Int32)]) (rest := []) ⟨hx, hb, hml, hown, hts⟩ (c_X3_within l D y t q _ N v2 (0 : Int32) (5 : Int32) r_5 hc_6) (va_cwS 3 hts gX3_isOfKind_X3_within rfl rfl rfl eX3_within ⟨Nat.le_of_ble_eq_true rfl, Nat.le_of_ble_eq_true rfl⟩) ⟨q_blind, (q_pre hP hK hZ hD hA hS [] rfl (by decide))⟩ rfl rfl hl.1 rfl (lv_room (Nat.le_of_ble_eq_true rfl)) dX3_isOfKind_12 ⟨Nat.zero_le _, Nat.zero_le _⟩) hP hD hA hS [] rfl (by decide) rfl (fun H locs hP hD hS => ?_)
        have hP : va_P D vwCl (([] : va_W)) H := hP
        have hD : va_D A (([] : va_W)) := hD
        refine lv_if_eq (tgt := 37) hx hb dX3_isOfKind_15 (by decide) (fun c_7 => ?_) (fun c_7 => ?_)
        · have h := q_t c_7 h
          refine lv_iconst (v := 0) hx hb dX3_isOfKind_37 (by decide) ?_
          have e9 := Option.some.inj h
          exact q_zret hx hb hr hlocks hK hP hD hS dX3_isOfKind_38 rfl (by first | rw [← e9] | rfl) (by first | rw [← e9] | rfl)
        · have h := q_f c_7 h
          refine lv_iload_n hx hb dX3_isOfKind_18 rfl (lv_at hl 1 rfl) ?_
          refine lv_iload_n hx hb dX3_isOfKind_19 rfl (lv_at hl 0 rfl) ?_
          refine lv_icmp_ne (tgt := 25) hx hb dX3_isOfKind_20 (by decide) (fun c_8 => ?_) (fun c_8 => ?_)
          · have h := q_f c_8 h
            refine va_gets (C := "BeamSeats") (n := "KIND_ABOVE") (d := "[I") (v := .ref (t 0)) hx hb hZ.1.1 hS hown (hts _ kX3_isOfKind_0) (fun _ h9 => h9) dX3_isOfKind_25 ?_
            refine lv_iload_n hx hb dX3_isOfKind_28 rfl (lv_at hl 1 rfl) ?_
            obtain ⟨z_9, h⟩ := q_grd_ok h
            refine va_ti (v := .int (kab v2.toNatClampNeg)) hx hb hZ.1.2 hS z_9 rfl dX3_isOfKind_29 ?_
            refine lv_topi (fun x_10 ex_10 => ?_)
            have h := q_let_at ex_10 h
            refine lv_istore_n (lv' := [(2, .int x_10), (1, .int v1), (3, .int v3)]) hx hb dX3_isOfKind_30 rfl hl (by decide) rfl (fun ls hl => ?_)
            obtain ⟨x_11, ex_11, h⟩ := q_let_ok h
            refine lv_iinc (v := x_11) (lv' := [(3, .int x_11), (2, .int x_10), (1, .int v1)]) hx hb dX3_isOfKind_31 hl (k := 2) rfl (by rw [ex_11]; rfl) (by decide) rfl (fun ls hl => ?_)
            refine lv_goto (tgt := 4) hx hb dX3_isOfKind_34 (by decide) ?_
            exact ih4_1 x_10 x_11 _ _ _ hP hD hS (lv_sub hl [2, 1, 0] rfl) h
          · have h := q_t c_8 h
            refine lv_iconst (v := 1) hx hb dX3_isOfKind_23 (by decide) ?_
            have e9 := Option.some.inj h
            exact q_zret hx hb hr hlocks hK hP hD hS dX3_isOfKind_24 rfl (by first | rw [← e9] | rfl) (by first | rw [← e9] | rfl)
  exact L4_1 p2 N p1 (0 : Int32) _ _ _ hP hD hS (lv_sub hl [3, 1, 0] rfl) h
theorem eX3_isOfKind : yX3_isOfKind.cls ≠ "java/lang/invoke/MethodHandle" ∧ yX3_isOfKind.cls ≠ "java/lang/invoke/VarHandle" ∧ (parseMethodDescriptor yX3_isOfKind.desc).map (fun d => d.parameters.length) = some 2 := by decide +kernel
theorem kX3_as_0 : Cond.constant RX3 58 (-1000000001) ∈ wsX3_as := List.mem_of_getElem? (i := 2) (by decide +kernel)
theorem kX3_as_1 : Cond.constant RX3 136 (-1000000003) ∈ wsX3_as := List.mem_of_getElem? (i := 5) (by decide +kernel)
theorem uX3_as_X0 : ∀ w ∈ u_ws RX0 TX0 13, w ∈ wsX3_as := by decide +kernel
theorem kX3_as_3 : Cond.fieldLink RX3 106 "BeamSeats$Island" "wets" "[I" ∈ wsX3_as := List.mem_of_getElem? (i := 4) (by decide +kernel)
theorem uX3_as_X3 : ∀ w ∈ u_ws RX3 TX3 7, w ∈ wsX3_as := by decide +kernel
theorem kX3_as_5 : Cond.fieldLink RX3 10 "BeamSeats" "real" "LBeamSeats$Island;" ∈ wsX3_as := List.mem_of_getElem? (i := 1) (by decide +kernel)
theorem kX3_as_6 : Cond.fieldLink RX3 94 "BeamSeats$Island" "kinds" "[I" ∈ wsX3_as := List.mem_of_getElem? (i := 3) (by decide +kernel)
def f_X3_as_B20 (N : Nat) (b : Nat → Nat → Int32) (R : Nat → Nat → Int32) (T : Nat → Nat → Int32) (K : Nat → Nat → Int32) (P : Nat → Nat → Int32) (B : Nat → Nat → Int32) (L : Nat → Nat → Int64) : Option (Int32 × (Nat → Nat → Int32)) :=
  q_bd2 (f_X3_found N b R T K P B L (-1000000001 : Int32)) (fun r_4 b_5 =>
  some (r_4, b_5))
def f_X3_as (N : Nat) (b : Nat → Nat → Int32) (R : Nat → Nat → Int32) (T : Nat → Nat → Int32) (K : Nat → Nat → Int32) (P : Nat → Nat → Int32) (B : Nat → Nat → Int32) (L : Nat → Nat → Int64) (p1 : Int32) (p2 : Int32) : Option (Int32 × (Nat → Nat → Int32)) :=
  q_bd (f_X0_has N R p1) (fun r_1 =>
  if r_1 = 0 then
    f_X3_as_B20 N b R T K P B L
  else
    q_bd (f_X3_within N p2 (0 : Int32) (5 : Int32)) (fun r_7 =>
    if r_7 = 0 then
      f_X3_as_B20 N b R T K P B L
    else
      q_grd p1 8 (
      q_bd (f_X3_isOfKind N (R 1 p1.toNatClampNeg) p2) (fun r_11 =>
      if r_11 = 0 then
        q_bd2 (f_X3_found N b R T K P B L (-1000000003 : Int32)) (fun r_14 b_15 =>
        some (r_14, b_15))
      else
        q_grd p1 8 (
        some ((R 4 p1.toNatClampNeg), b))))))
set_option maxHeartbeats 4000000 in
set_option maxRecDepth 100000 in
theorem c_X3_as (l : Launch) (D : va_G) (y : Nat → ClassId) (t : Nat → Nat) (q : Nat → Nat) (sz N : Nat) (b : Nat → Nat → Int32) (R : Nat → Nat → Int32) (T : Nat → Nat → Int32) (K : Nat → Nat → Int32) (P : Nat → Nat → Int32) (B : Nat → Nat → Int32) (L : Nat → Nat → Int64) (p1 : Int32) (p2 : Int32) (res : Int32 × (Nat → Nat → Int32)) (h : f_X3_as N b R T K P B L p1 p2 = some res) : Met l yX3_as wsX3_as ({ frames := 2, cells := 0, slots := 0, locals := 45 } : Room) (pPre D y t [.ref (q 0), .int p1, .int p2] (wB y q b R T K P B L) sz) (pQi D y (res.1) (wB y q (res.2) R T K P B L) (va_A (wB y q b R T K P B L) sz)) 0 0 (va_A (wB y q b R T K P B L) sz) := by
  refine q_start (Qc := (fun A => pQi D y (res.1) (wB y q (res.2) R T K P B L) A)) (cc := cX3_as) (maxL := 3) (ret := (some .int)) (by decide) rfl (Nat.le_of_ble_eq_true rfl) ?_
  intro p e s m below meth c A ls hx hb hr hts hown hlocks hmn hml hP hK hZ hD hA hS hl
  have hl : lv_has ls 3 [(0, .ref (q 0)), (1, .int p1), (2, .int p2)] := hl
  have hown : s.vm.findClass RX3 = some m.cls := hown
  have B20 : ∀ (b : Nat → Nat → Int32) (R : Nat → Nat → Int32) (T : Nat → Nat → Int32) (K : Nat → Nat → Int32) (P : Nat → Nat → Int32) (B : Nat → Nat → Int32) (L : Nat → Nat → Int64) (H : Heap) (locs : List Loc) (ls : Array Slot), va_P D vwCl (wB y q b R T K P B L) H → va_D A (wB y q b R T K P B L) → va_S A s.heap H locs → lv_has ls 3 [(0, .ref (q 0))] → f_X3_as_B20 N b R T K P B L = some res → W p l e ({ frames := 2, cells := 0, slots := 0, locals := 45 } : Room) s m ([.ref (q 0), .int p1, .int p2] : List Value).toArray below meth c H locs 0 0 (MQ below (pQi D y (res.1) (wB y q (res.2) R T K P B L) A) ([.ref (q 0), .int p1, .int p2] : List Value).toArray s 0 0 A) (F0 m 20 ls []) := by
    intro b R T K P B L H locs ls hP hD hS hl h
    unfold f_X3_as_B20 at h
    refine lv_aload_n hx hb dX3_as_20 rfl (lv_at hl 0 rfl) ?_
    refine lv_ldc (v := -1000000001) hx hb hown (hts _ kX3_as_0) dX3_as_21 ?_
    obtain ⟨r_4, b_5, hc_6, h⟩ := q_bd2_ok h
    refine q_ci0 (r := r_4) (va_runV (As := [.int (-1000000001 : Int32)]) (rest := []) ⟨hx, hb, hml, hown, hts⟩ (c_X3_found l D y t q _ N b R T K P B L (-1000000001 : Int32) (r_4, b_5) hc_6) (cwV 1 hts gX3_as_X3_found rfl rfl rfl eX3_found ⟨Nat.le_of_ble_eq_true rfl, Nat.le_of_ble_eq_true rfl⟩) ⟨q_blind, (va_recv hK hP (ci := 3) (q0 := 0) rfl rfl), (q_pre0 hP hK hZ hD hA hS)⟩ rfl rfl hl.1 rfl (lv_room (Nat.le_of_ble_eq_true rfl)) dX3_as_23 ⟨Nat.zero_le _, Nat.zero_le _⟩) hD hA hS (fun H locs hP hD hS => ?_)
    have hP : va_P D vwCl (wB y q b_5 R T K P B L) H := hP
    have hD : va_D A (wB y q b_5 R T K P B L) := hD
    have e9 := Option.some.inj h
    exact q_iret hx hb hr hlocks hK hP hD hS dX3_as_26 (by first | rw [← e9] | rfl) (by first | rw [← e9] | rfl)
  unfold f_X3_as at h
  refine lv_aload_n hx hb dX3_as_0 rfl (lv_at hl 0 rfl) ?_
  refine va_get (D := D) (ci := 3) (v := .ref (q 1)) (C := RX3) (T := TX3) (N := 7) hx hb hts uX3_as_X3 hown hK hP 0 rfl rfl 0 (by decide) (hts _ kX3_as_5) (fun _ h9 => h9) rfl dX3_as_1 ?_
  refine lv_iload_n hx hb dX3_as_4 rfl (lv_at hl 1 rfl) ?_
  obtain ⟨r_1, hc_2, h⟩ := q_bd_ok h
  refine q_ci (r := r_1) (va_runV (As := [.int p1]) (rest := []) ⟨hx, hb, hml, hown, hts⟩ (c_X0_has l D y t (fun k => q (k + 1)) _ N R p1 r_1 hc_2) (cwV 1 hts gX3_as_X0_has rfl rfl rfl eX0_has ⟨Nat.le_of_ble_eq_true rfl, Nat.le_of_ble_eq_true rfl⟩) ⟨q_blind, (va_recv hK hP (ci := 0) (q0 := 1) rfl rfl), (q_pre hP hK hZ hD hA hS [1, 2, 3, 4, 5, 6, 7] rfl (by decide))⟩ rfl rfl hl.1 rfl (lv_room (Nat.le_of_ble_eq_true rfl)) dX3_as_5 ⟨Nat.zero_le _, Nat.zero_le _⟩) hP hD hA hS [1, 2, 3, 4, 5, 6, 7] rfl (by decide) rfl (fun H locs hP hD hS => ?_)
  have hP : va_P D vwCl (wB y q b R T K P B L) H := hP
  have hD : va_D A (wB y q b R T K P B L) := hD
  refine lv_if_eq (tgt := 20) hx hb dX3_as_8 (by decide) (fun c_3 => ?_) (fun c_3 => ?_)
  · have h := q_t c_3 h
    exact B20 b R T K P B L _ _ _ hP hD hS (lv_sub hl [0] rfl) h
  · have h := q_f c_3 h
    refine lv_iload_n hx hb dX3_as_11 rfl (lv_at hl 2 rfl) ?_
    refine lv_iconst (v := 0) hx hb dX3_as_12 (by decide) ?_
    refine lv_iconst (v := 5) hx hb dX3_as_13 (by decide) ?_
    obtain ⟨r_7, hc_8, h⟩ := q_bd_ok h
    refine q_ci (r := r_7) (va_runS (As := [.int p2, .int (0 : Int32), .int (5 : Int32)]) (rest := []) ⟨hx, hb, hml, hown, hts⟩ (c_X3_within l D y t q _ N p2 (0 : Int32) (5 : Int32) r_7 hc_8) (va_cwS 3 hts gX3_as_X3_within rfl rfl rfl eX3_within ⟨Nat.le_of_ble_eq_true rfl, Nat.le_of_ble_eq_true rfl⟩) ⟨q_blind, (q_pre hP hK hZ hD hA hS [] rfl (by decide))⟩ rfl rfl hl.1 rfl (lv_room (Nat.le_of_ble_eq_true rfl)) dX3_as_14 ⟨Nat.zero_le _, Nat.zero_le _⟩) hP hD hA hS [] rfl (by decide) rfl (fun H locs hP hD hS => ?_)
    have hP : va_P D vwCl (wB y q b R T K P B L) H := hP
    have hD : va_D A (wB y q b R T K P B L) := hD
    refine lv_if_ne (tgt := 27) hx hb dX3_as_17 (by decide) (fun c_9 => ?_) (fun c_9 => ?_)
    · have h := q_f c_9 h
      refine lv_aload_n hx hb dX3_as_27 rfl (lv_at hl 0 rfl) ?_
      refine va_get (D := D) (ci := 3) (v := .ref (q 1)) (C := RX3) (T := TX3) (N := 7) hx hb hts uX3_as_X3 hown hK hP 0 rfl rfl 0 (by decide) (hts _ kX3_as_5) (fun _ h9 => h9) rfl dX3_as_28 ?_
      refine va_get (D := D) (ci := 0) (v := .ref (q 2)) (C := RX0) (T := TX0) (N := 13) hx hb hts uX3_as_X0 hown hK hP 1 rfl rfl 7 (by decide) (hts _ kX3_as_6) (fun _ h9 => h9) rfl dX3_as_31 ?_
      refine lv_iload_n hx hb dX3_as_34 rfl (lv_at hl 1 rfl) ?_
      obtain ⟨z_10, h⟩ := q_grd_ok h
      refine va_iald hx hb hK hP 2 0 rfl rfl z_10 dX3_as_35 ?_
      refine lv_iload_n hx hb dX3_as_36 rfl (lv_at hl 2 rfl) ?_
      obtain ⟨r_11, hc_12, h⟩ := q_bd_ok h
      refine q_ci (r := r_11) (va_runS (As := [.int (R 1 p1.toNatClampNeg), .int p2]) (rest := []) ⟨hx, hb, hml, hown, hts⟩ (c_X3_isOfKind l D y t q _ N (R 1 p1.toNatClampNeg) p2 r_11 hc_12) (va_cwS 2 hts gX3_as_X3_isOfKind rfl rfl rfl eX3_isOfKind ⟨Nat.le_of_ble_eq_true rfl, Nat.le_of_ble_eq_true rfl⟩) ⟨q_blind, (q_pre hP hK hZ hD hA hS [] rfl (by decide))⟩ rfl rfl hl.1 rfl (lv_room (Nat.le_of_ble_eq_true rfl)) dX3_as_37 ⟨Nat.zero_le _, Nat.zero_le _⟩) hP hD hA hS [] rfl (by decide) rfl (fun H locs hP hD hS => ?_)
      have hP : va_P D vwCl (wB y q b R T K P B L) H := hP
      have hD : va_D A (wB y q b R T K P B L) := hD
      refine lv_if_eq (tgt := 55) hx hb dX3_as_40 (by decide) (fun c_13 => ?_) (fun c_13 => ?_)
      · have h := q_t c_13 h
        refine lv_aload_n hx hb dX3_as_55 rfl (lv_at hl 0 rfl) ?_
        refine lv_ldc (v := -1000000003) hx hb hown (hts _ kX3_as_1) dX3_as_56 ?_
        obtain ⟨r_14, b_15, hc_16, h⟩ := q_bd2_ok h
        refine q_ci0 (r := r_14) (va_runV (As := [.int (-1000000003 : Int32)]) (rest := []) ⟨hx, hb, hml, hown, hts⟩ (c_X3_found l D y t q _ N b R T K P B L (-1000000003 : Int32) (r_14, b_15) hc_16) (cwV 1 hts gX3_as_X3_found rfl rfl rfl eX3_found ⟨Nat.le_of_ble_eq_true rfl, Nat.le_of_ble_eq_true rfl⟩) ⟨q_blind, (va_recv hK hP (ci := 3) (q0 := 0) rfl rfl), (q_pre0 hP hK hZ hD hA hS)⟩ rfl rfl hl.1 rfl (lv_room (Nat.le_of_ble_eq_true rfl)) dX3_as_58 ⟨Nat.zero_le _, Nat.zero_le _⟩) hD hA hS (fun H locs hP hD hS => ?_)
        have hP : va_P D vwCl (wB y q b_15 R T K P B L) H := hP
        have hD : va_D A (wB y q b_15 R T K P B L) := hD
        have e9 := Option.some.inj h
        exact q_iret hx hb hr hlocks hK hP hD hS dX3_as_61 (by first | rw [← e9] | rfl) (by first | rw [← e9] | rfl)
      · have h := q_f c_13 h
        refine lv_aload_n hx hb dX3_as_43 rfl (lv_at hl 0 rfl) ?_
        refine va_get (D := D) (ci := 3) (v := .ref (q 1)) (C := RX3) (T := TX3) (N := 7) hx hb hts uX3_as_X3 hown hK hP 0 rfl rfl 0 (by decide) (hts _ kX3_as_5) (fun _ h9 => h9) rfl dX3_as_44 ?_
        refine va_get (D := D) (ci := 0) (v := .ref (q 5)) (C := RX0) (T := TX0) (N := 13) hx hb hts uX3_as_X0 hown hK hP 1 rfl rfl 10 (by decide) (hts _ kX3_as_3) (fun _ h9 => h9) rfl dX3_as_47 ?_
        refine lv_iload_n hx hb dX3_as_50 rfl (lv_at hl 1 rfl) ?_
        obtain ⟨z_17, h⟩ := q_grd_ok h
        refine va_iald hx hb hK hP 5 0 rfl rfl z_17 dX3_as_51 ?_
        refine lv_goto (tgt := 61) hx hb dX3_as_52 (by decide) ?_
        have e9 := Option.some.inj h
        exact q_iret hx hb hr hlocks hK hP hD hS dX3_as_61 (by first | rw [← e9] | rfl) (by first | rw [← e9] | rfl)
    · have h := q_t c_9 h
      exact B20 b R T K P B L _ _ _ hP hD hS (lv_sub hl [0] rfl) h
theorem eX3_as : yX3_as.cls = RX3 ∧ yX3_as.cls ≠ "java/lang/invoke/MethodHandle" ∧ yX3_as.cls ≠ "java/lang/invoke/VarHandle" ∧ (parseMethodDescriptor yX3_as.desc).map (fun d => d.parameters.length) = some 2 := by decide +kernel
theorem kX3_lay_0 : Cond.constant RX3 131 (-1000000005) ∈ wsX3_lay := List.mem_of_getElem? (i := 3) (by decide +kernel)
theorem uX3_lay_X0 : ∀ w ∈ u_ws RX0 TX0 13, w ∈ wsX3_lay := by decide +kernel
theorem kX3_lay_2 : Cond.fieldLink RX3 100 "BeamSeats$Island" "outs" "[I" ∈ wsX3_lay := List.mem_of_getElem? (i := 7) (by decide +kernel)
theorem uX3_lay_X3 : ∀ w ∈ u_ws RX3 TX3 7, w ∈ wsX3_lay := by decide +kernel
theorem kX3_lay_4 : Cond.fieldLink RX3 10 "BeamSeats" "real" "LBeamSeats$Island;" ∈ wsX3_lay := List.mem_of_getElem? (i := 1) (by decide +kernel)
theorem kX3_lay_5 : Cond.fieldLink RX3 48 "BeamSeats$Island" "bearing" "I" ∈ wsX3_lay := List.mem_of_getElem? (i := 6) (by decide +kernel)
theorem kX3_lay_6 : Cond.fieldLink RX3 97 "BeamSeats$Island" "places" "[I" ∈ wsX3_lay := List.mem_of_getElem? (i := 5) (by decide +kernel)
theorem kX3_lay_7 : Cond.constant RX3 85 (-1000000002) ∈ wsX3_lay := List.mem_of_getElem? (i := 4) (by decide +kernel)
theorem kX3_lay_8 : Cond.constant RX3 58 (-1000000001) ∈ wsX3_lay := List.mem_of_getElem? (i := 2) (by decide +kernel)
def f_X3_lay_B40 (N : Nat) (b : Nat → Nat → Int32) (R : Nat → Nat → Int32) (T : Nat → Nat → Int32) (K : Nat → Nat → Int32) (P : Nat → Nat → Int32) (B : Nat → Nat → Int32) (L : Nat → Nat → Int64) : Option (Int32 × (Nat → Nat → Int32) × (Nat → Nat → Int32)) :=
  q_bd2 (f_X3_found N b R T K P B L (-1000000005 : Int32)) (fun r_7 b_8 =>
  some (r_7, b_8, R))
def f_X3_lay (N : Nat) (b : Nat → Nat → Int32) (R : Nat → Nat → Int32) (T : Nat → Nat → Int32) (K : Nat → Nat → Int32) (P : Nat → Nat → Int32) (B : Nat → Nat → Int32) (L : Nat → Nat → Int64) (p1 : Int32) : Option (Int32 × (Nat → Nat → Int32) × (Nat → Nat → Int32)) :=
  q_bd (f_X0_has N R p1) (fun r_1 =>
  if r_1 = 0 then
    q_bd2 (f_X3_found N b R T K P B L (-1000000001 : Int32)) (fun r_26 b_27 =>
    some (r_26, b_27, R))
  else
    q_bd (f_X0_isOn N R p1) (fun r_4 =>
    if r_4 = 0 then
      q_bd (f_X0_isLost N R p1) (fun r_10 =>
      if r_10 = 0 then
        q_bd (f_X0_isBorne N R p1) (fun r_13 =>
        if r_13 = 0 then
          q_bd2 (f_X3_found N b R T K P B L (-1000000002 : Int32)) (fun r_23 b_24 =>
          some (r_23, b_24, R))
        else
          q_bd (f_X0_comeOn N R p1) (fun R_16 =>
          q_grd p1 8 (
          q_let (q_up R_16 2 p1.toNatClampNeg (R_16 0 1)) (fun R_19 =>
          q_grd p1 8 (
          q_bd (f_X0_weightAt N R_19 (R_19 3 p1.toNatClampNeg)) (fun r_21 =>
          some (r_21, b, R_19)))))))
      else
        f_X3_lay_B40 N b R T K P B L)
    else
      f_X3_lay_B40 N b R T K P B L))
set_option maxHeartbeats 4000000 in
set_option maxRecDepth 100000 in
theorem c_X3_lay (l : Launch) (D : va_G) (y : Nat → ClassId) (t : Nat → Nat) (q : Nat → Nat) (sz N : Nat) (b : Nat → Nat → Int32) (R : Nat → Nat → Int32) (T : Nat → Nat → Int32) (K : Nat → Nat → Int32) (P : Nat → Nat → Int32) (B : Nat → Nat → Int32) (L : Nat → Nat → Int64) (p1 : Int32) (res : Int32 × (Nat → Nat → Int32) × (Nat → Nat → Int32)) (h : f_X3_lay N b R T K P B L p1 = some res) : Met l yX3_lay wsX3_lay ({ frames := 3, cells := 0, slots := 0, locals := 66 } : Room) (pPre D y t [.ref (q 0), .int p1] (wB y q b R T K P B L) sz) (pQi D y (res.1) (wB y q (res.2.1) (res.2.2) T K P B L) (va_A (wB y q b R T K P B L) sz)) 0 0 (va_A (wB y q b R T K P B L) sz) := by
  refine q_start (Qc := (fun A => pQi D y (res.1) (wB y q (res.2.1) (res.2.2) T K P B L) A)) (cc := cX3_lay) (maxL := 2) (ret := (some .int)) (by decide) rfl (Nat.le_of_ble_eq_true rfl) ?_
  intro p e s m below meth c A ls hx hb hr hts hown hlocks hmn hml hP hK hZ hD hA hS hl
  have hl : lv_has ls 2 [(0, .ref (q 0)), (1, .int p1)] := hl
  have hown : s.vm.findClass RX3 = some m.cls := hown
  have B40 : ∀ (b : Nat → Nat → Int32) (R : Nat → Nat → Int32) (T : Nat → Nat → Int32) (K : Nat → Nat → Int32) (P : Nat → Nat → Int32) (B : Nat → Nat → Int32) (L : Nat → Nat → Int64) (H : Heap) (locs : List Loc) (ls : Array Slot), va_P D vwCl (wB y q b R T K P B L) H → va_D A (wB y q b R T K P B L) → va_S A s.heap H locs → lv_has ls 2 [(0, .ref (q 0))] → f_X3_lay_B40 N b R T K P B L = some res → W p l e ({ frames := 3, cells := 0, slots := 0, locals := 66 } : Room) s m ([.ref (q 0), .int p1] : List Value).toArray below meth c H locs 0 0 (MQ below (pQi D y (res.1) (wB y q (res.2.1) (res.2.2) T K P B L) A) ([.ref (q 0), .int p1] : List Value).toArray s 0 0 A) (F0 m 40 ls []) := by
    intro b R T K P B L H locs ls hP hD hS hl h
    unfold f_X3_lay_B40 at h
    refine lv_aload_n hx hb dX3_lay_40 rfl (lv_at hl 0 rfl) ?_
    refine lv_ldc (v := -1000000005) hx hb hown (hts _ kX3_lay_0) dX3_lay_41 ?_
    obtain ⟨r_7, b_8, hc_9, h⟩ := q_bd2_ok h
    refine q_ci0 (r := r_7) (va_runV (As := [.int (-1000000005 : Int32)]) (rest := []) ⟨hx, hb, hml, hown, hts⟩ (c_X3_found l D y t q _ N b R T K P B L (-1000000005 : Int32) (r_7, b_8) hc_9) (cwV 1 hts gX3_lay_X3_found rfl rfl rfl eX3_found ⟨Nat.le_of_ble_eq_true rfl, Nat.le_of_ble_eq_true rfl⟩) ⟨q_blind, (va_recv hK hP (ci := 3) (q0 := 0) rfl rfl), (q_pre0 hP hK hZ hD hA hS)⟩ rfl rfl hl.1 rfl (lv_room (Nat.le_of_ble_eq_true rfl)) dX3_lay_43 ⟨Nat.zero_le _, Nat.zero_le _⟩) hD hA hS (fun H locs hP hD hS => ?_)
    have hP : va_P D vwCl (wB y q b_8 R T K P B L) H := hP
    have hD : va_D A (wB y q b_8 R T K P B L) := hD
    have e9 := Option.some.inj h
    exact q_iret hx hb hr hlocks hK hP hD hS dX3_lay_46 (by first | rw [← e9] | rfl) (by first | rw [← e9] | rfl)
  unfold f_X3_lay at h
  refine lv_aload_n hx hb dX3_lay_0 rfl (lv_at hl 0 rfl) ?_
  refine va_get (D := D) (ci := 3) (v := .ref (q 1)) (C := RX3) (T := TX3) (N := 7) hx hb hts uX3_lay_X3 hown hK hP 0 rfl rfl 0 (by decide) (hts _ kX3_lay_4) (fun _ h9 => h9) rfl dX3_lay_1 ?_
  refine lv_iload_n hx hb dX3_lay_4 rfl (lv_at hl 1 rfl) ?_
  obtain ⟨r_1, hc_2, h⟩ := q_bd_ok h
  refine q_ci (r := r_1) (va_runV (As := [.int p1]) (rest := []) ⟨hx, hb, hml, hown, hts⟩ (c_X0_has l D y t (fun k => q (k + 1)) _ N R p1 r_1 hc_2) (cwV 1 hts gX3_lay_X0_has rfl rfl rfl eX0_has ⟨Nat.le_of_ble_eq_true rfl, Nat.le_of_ble_eq_true rfl⟩) ⟨q_blind, (va_recv hK hP (ci := 0) (q0 := 1) rfl rfl), (q_pre hP hK hZ hD hA hS [1, 2, 3, 4, 5, 6, 7] rfl (by decide))⟩ rfl rfl hl.1 rfl (lv_room (Nat.le_of_ble_eq_true rfl)) dX3_lay_5 ⟨Nat.zero_le _, Nat.zero_le _⟩) hP hD hA hS [1, 2, 3, 4, 5, 6, 7] rfl (by decide) rfl (fun H locs hP hD hS => ?_)
  have hP : va_P D vwCl (wB y q b R T K P B L) H := hP
  have hD : va_D A (wB y q b R T K P B L) := hD
  refine lv_if_ne (tgt := 18) hx hb dX3_lay_8 (by decide) (fun c_3 => ?_) (fun c_3 => ?_)
  · have h := q_f c_3 h
    refine lv_aload_n hx hb dX3_lay_18 rfl (lv_at hl 0 rfl) ?_
    refine va_get (D := D) (ci := 3) (v := .ref (q 1)) (C := RX3) (T := TX3) (N := 7) hx hb hts uX3_lay_X3 hown hK hP 0 rfl rfl 0 (by decide) (hts _ kX3_lay_4) (fun _ h9 => h9) rfl dX3_lay_19 ?_
    refine lv_iload_n hx hb dX3_lay_22 rfl (lv_at hl 1 rfl) ?_
    obtain ⟨r_4, hc_5, h⟩ := q_bd_ok h
    refine q_ci (r := r_4) (va_runV (As := [.int p1]) (rest := []) ⟨hx, hb, hml, hown, hts⟩ (c_X0_isOn l D y t (fun k => q (k + 1)) _ N R p1 r_4 hc_5) (cwV 1 hts gX3_lay_X0_isOn rfl rfl rfl eX0_isOn ⟨Nat.le_of_ble_eq_true rfl, Nat.le_of_ble_eq_true rfl⟩) ⟨q_blind, (va_recv hK hP (ci := 0) (q0 := 1) rfl rfl), (q_pre hP hK hZ hD hA hS [1, 2, 3, 4, 5, 6, 7] rfl (by decide))⟩ rfl rfl hl.1 rfl (lv_room (Nat.le_of_ble_eq_true rfl)) dX3_lay_23 ⟨Nat.zero_le _, Nat.zero_le _⟩) hP hD hA hS [1, 2, 3, 4, 5, 6, 7] rfl (by decide) rfl (fun H locs hP hD hS => ?_)
    have hP : va_P D vwCl (wB y q b R T K P B L) H := hP
    have hD : va_D A (wB y q b R T K P B L) := hD
    refine lv_if_ne (tgt := 40) hx hb dX3_lay_26 (by decide) (fun c_6 => ?_) (fun c_6 => ?_)
    · have h := q_f c_6 h
      exact B40 b R T K P B L _ _ _ hP hD hS (lv_sub hl [0] rfl) h
    · have h := q_t c_6 h
      refine lv_aload_n hx hb dX3_lay_29 rfl (lv_at hl 0 rfl) ?_
      refine va_get (D := D) (ci := 3) (v := .ref (q 1)) (C := RX3) (T := TX3) (N := 7) hx hb hts uX3_lay_X3 hown hK hP 0 rfl rfl 0 (by decide) (hts _ kX3_lay_4) (fun _ h9 => h9) rfl dX3_lay_30 ?_
      refine lv_iload_n hx hb dX3_lay_33 rfl (lv_at hl 1 rfl) ?_
      obtain ⟨r_10, hc_11, h⟩ := q_bd_ok h
      refine q_ci (r := r_10) (va_runV (As := [.int p1]) (rest := []) ⟨hx, hb, hml, hown, hts⟩ (c_X0_isLost l D y t (fun k => q (k + 1)) _ N R p1 r_10 hc_11) (cwV 1 hts gX3_lay_X0_isLost rfl rfl rfl eX0_isLost ⟨Nat.le_of_ble_eq_true rfl, Nat.le_of_ble_eq_true rfl⟩) ⟨q_blind, (va_recv hK hP (ci := 0) (q0 := 1) rfl rfl), (q_pre hP hK hZ hD hA hS [1, 2, 3, 4, 5, 6, 7] rfl (by decide))⟩ rfl rfl hl.1 rfl (lv_room (Nat.le_of_ble_eq_true rfl)) dX3_lay_34 ⟨Nat.zero_le _, Nat.zero_le _⟩) hP hD hA hS [1, 2, 3, 4, 5, 6, 7] rfl (by decide) rfl (fun H locs hP hD hS => ?_)
      have hP : va_P D vwCl (wB y q b R T K P B L) H := hP
      have hD : va_D A (wB y q b R T K P B L) := hD
      refine lv_if_eq (tgt := 47) hx hb dX3_lay_37 (by decide) (fun c_12 => ?_) (fun c_12 => ?_)
      · have h := q_t c_12 h
        refine lv_aload_n hx hb dX3_lay_47 rfl (lv_at hl 0 rfl) ?_
        refine va_get (D := D) (ci := 3) (v := .ref (q 1)) (C := RX3) (T := TX3) (N := 7) hx hb hts uX3_lay_X3 hown hK hP 0 rfl rfl 0 (by decide) (hts _ kX3_lay_4) (fun _ h9 => h9) rfl dX3_lay_48 ?_
        refine lv_iload_n hx hb dX3_lay_51 rfl (lv_at hl 1 rfl) ?_
        obtain ⟨r_13, hc_14, h⟩ := q_bd_ok h
        refine q_ci (r := r_13) (va_runV (As := [.int p1]) (rest := []) ⟨hx, hb, hml, hown, hts⟩ (c_X0_isBorne l D y t (fun k => q (k + 1)) _ N R p1 r_13 hc_14) (cwV 1 hts gX3_lay_X0_isBorne rfl rfl rfl eX0_isBorne ⟨Nat.le_of_ble_eq_true rfl, Nat.le_of_ble_eq_true rfl⟩) ⟨q_blind, (va_recv hK hP (ci := 0) (q0 := 1) rfl rfl), (q_pre hP hK hZ hD hA hS [1, 2, 3, 4, 5, 6, 7] rfl (by decide))⟩ rfl rfl hl.1 rfl (lv_room (Nat.le_of_ble_eq_true rfl)) dX3_lay_52 ⟨Nat.zero_le _, Nat.zero_le _⟩) hP hD hA hS [1, 2, 3, 4, 5, 6, 7] rfl (by decide) rfl (fun H locs hP hD hS => ?_)
        have hP : va_P D vwCl (wB y q b R T K P B L) H := hP
        have hD : va_D A (wB y q b R T K P B L) := hD
        refine lv_if_ne (tgt := 65) hx hb dX3_lay_55 (by decide) (fun c_15 => ?_) (fun c_15 => ?_)
        · have h := q_f c_15 h
          refine lv_aload_n hx hb dX3_lay_65 rfl (lv_at hl 0 rfl) ?_
          refine va_get (D := D) (ci := 3) (v := .ref (q 1)) (C := RX3) (T := TX3) (N := 7) hx hb hts uX3_lay_X3 hown hK hP 0 rfl rfl 0 (by decide) (hts _ kX3_lay_4) (fun _ h9 => h9) rfl dX3_lay_66 ?_
          refine lv_iload_n hx hb dX3_lay_69 rfl (lv_at hl 1 rfl) ?_
          obtain ⟨R_16, hc_17, h⟩ := q_bd_ok h
          refine q_cv (va_runV (As := [.int p1]) (rest := []) ⟨hx, hb, hml, hown, hts⟩ (c_X0_comeOn l D y t (fun k => q (k + 1)) _ N R p1 R_16 hc_17) (cwV 1 hts gX3_lay_X0_comeOn rfl rfl rfl eX0_comeOn ⟨Nat.le_of_ble_eq_true rfl, Nat.le_of_ble_eq_true rfl⟩) ⟨q_blind, (va_recv hK hP (ci := 0) (q0 := 1) rfl rfl), (q_pre hP hK hZ hD hA hS [1, 2, 3, 4, 5, 6, 7] rfl (by decide))⟩ rfl rfl hl.1 rfl (lv_room (Nat.le_of_ble_eq_true rfl)) dX3_lay_70 ⟨Nat.zero_le _, Nat.zero_le _⟩) hP hD hA hS [1, 2, 3, 4, 5, 6, 7] rfl (by decide) rfl (fun H locs hP hD hS => ?_)
          have hP : va_P D vwCl (wB y q b R_16 T K P B L) H := hP
          have hD : va_D A (wB y q b R_16 T K P B L) := hD
          refine lv_aload_n hx hb dX3_lay_73 rfl (lv_at hl 0 rfl) ?_
          refine va_get (D := D) (ci := 3) (v := .ref (q 1)) (C := RX3) (T := TX3) (N := 7) hx hb hts uX3_lay_X3 hown hK hP 0 rfl rfl 0 (by decide) (hts _ kX3_lay_4) (fun _ h9 => h9) rfl dX3_lay_74 ?_
          refine va_get (D := D) (ci := 0) (v := .ref (q 3)) (C := RX0) (T := TX0) (N := 13) hx hb hts uX3_lay_X0 hown hK hP 1 rfl rfl 8 (by decide) (hts _ kX3_lay_6) (fun _ h9 => h9) rfl dX3_lay_77 ?_
          refine lv_iload_n hx hb dX3_lay_80 rfl (lv_at hl 1 rfl) ?_
          refine lv_aload_n hx hb dX3_lay_81 rfl (lv_at hl 0 rfl) ?_
          refine va_get (D := D) (ci := 3) (v := .ref (q 1)) (C := RX3) (T := TX3) (N := 7) hx hb hts uX3_lay_X3 hown hK hP 0 rfl rfl 0 (by decide) (hts _ kX3_lay_4) (fun _ h9 => h9) rfl dX3_lay_82 ?_
          refine va_get (D := D) (ci := 0) (v := .int (R_16 0 1)) (C := RX0) (T := TX0) (N := 13) hx hb hts uX3_lay_X0 hown hK hP 1 rfl rfl 1 (by decide) (hts _ kX3_lay_5) (fun _ h9 => h9) rfl dX3_lay_85 ?_
          obtain ⟨z_18, h⟩ := q_grd_ok h
          obtain ⟨R_19, eR_19, h⟩ := q_let_ok h
          refine va_iast hx hb hK hP hD hS 3 0 rfl rfl z_18 dX3_lay_88 (fun H locs hP hD hS => ?_)
          have hP : va_P D vwCl (wB y q b R_19 T K P B L) H := by rw [eR_19]; exact hP
          have hD : va_D A (wB y q b R_19 T K P B L) := by rw [eR_19]; exact hD
          refine lv_aload_n hx hb dX3_lay_89 rfl (lv_at hl 0 rfl) ?_
          refine va_get (D := D) (ci := 3) (v := .ref (q 1)) (C := RX3) (T := TX3) (N := 7) hx hb hts uX3_lay_X3 hown hK hP 0 rfl rfl 0 (by decide) (hts _ kX3_lay_4) (fun _ h9 => h9) rfl dX3_lay_90 ?_
          refine lv_aload_n hx hb dX3_lay_93 rfl (lv_at hl 0 rfl) ?_
          refine va_get (D := D) (ci := 3) (v := .ref (q 1)) (C := RX3) (T := TX3) (N := 7) hx hb hts uX3_lay_X3 hown hK hP 0 rfl rfl 0 (by decide) (hts _ kX3_lay_4) (fun _ h9 => h9) rfl dX3_lay_94 ?_
          refine va_get (D := D) (ci := 0) (v := .ref (q 4)) (C := RX0) (T := TX0) (N := 13) hx hb hts uX3_lay_X0 hown hK hP 1 rfl rfl 9 (by decide) (hts _ kX3_lay_2) (fun _ h9 => h9) rfl dX3_lay_97 ?_
          refine lv_iload_n hx hb dX3_lay_100 rfl (lv_at hl 1 rfl) ?_
          obtain ⟨z_20, h⟩ := q_grd_ok h
          refine va_iald hx hb hK hP 4 0 rfl rfl z_20 dX3_lay_101 ?_
          obtain ⟨r_21, hc_22, h⟩ := q_bd_ok h
          refine q_ci (r := r_21) (va_runV (As := [.int (R_19 3 p1.toNatClampNeg)]) (rest := []) ⟨hx, hb, hml, hown, hts⟩ (c_X0_weightAt l D y t (fun k => q (k + 1)) _ N R_19 (R_19 3 p1.toNatClampNeg) r_21 hc_22) (cwV 1 hts gX3_lay_X0_weightAt rfl rfl rfl eX0_weightAt ⟨Nat.le_of_ble_eq_true rfl, Nat.le_of_ble_eq_true rfl⟩) ⟨q_blind, (va_recv hK hP (ci := 0) (q0 := 1) rfl rfl), (q_pre hP hK hZ hD hA hS [1, 2, 3, 4, 5, 6, 7] rfl (by decide))⟩ rfl rfl hl.1 rfl (lv_room (Nat.le_of_ble_eq_true rfl)) dX3_lay_102 ⟨Nat.zero_le _, Nat.zero_le _⟩) hP hD hA hS [1, 2, 3, 4, 5, 6, 7] rfl (by decide) rfl (fun H locs hP hD hS => ?_)
          have hP : va_P D vwCl (wB y q b R_19 T K P B L) H := hP
          have hD : va_D A (wB y q b R_19 T K P B L) := hD
          have e9 := Option.some.inj h
          exact q_iret hx hb hr hlocks hK hP hD hS dX3_lay_105 (by first | rw [← e9] | rfl) (by first | rw [← e9] | rfl)
        · have h := q_t c_15 h
          refine lv_aload_n hx hb dX3_lay_58 rfl (lv_at hl 0 rfl) ?_
          refine lv_ldc (v := -1000000002) hx hb hown (hts _ kX3_lay_7) dX3_lay_59 ?_
          obtain ⟨r_23, b_24, hc_25, h⟩ := q_bd2_ok h
          refine q_ci0 (r := r_23) (va_runV (As := [.int (-1000000002 : Int32)]) (rest := []) ⟨hx, hb, hml, hown, hts⟩ (c_X3_found l D y t q _ N b R T K P B L (-1000000002 : Int32) (r_23, b_24) hc_25) (cwV 1 hts gX3_lay_X3_found rfl rfl rfl eX3_found ⟨Nat.le_of_ble_eq_true rfl, Nat.le_of_ble_eq_true rfl⟩) ⟨q_blind, (va_recv hK hP (ci := 3) (q0 := 0) rfl rfl), (q_pre0 hP hK hZ hD hA hS)⟩ rfl rfl hl.1 rfl (lv_room (Nat.le_of_ble_eq_true rfl)) dX3_lay_61 ⟨Nat.zero_le _, Nat.zero_le _⟩) hD hA hS (fun H locs hP hD hS => ?_)
          have hP : va_P D vwCl (wB y q b_24 R T K P B L) H := hP
          have hD : va_D A (wB y q b_24 R T K P B L) := hD
          have e9 := Option.some.inj h
          exact q_iret hx hb hr hlocks hK hP hD hS dX3_lay_64 (by first | rw [← e9] | rfl) (by first | rw [← e9] | rfl)
      · have h := q_f c_12 h
        exact B40 b R T K P B L _ _ _ hP hD hS (lv_sub hl [0] rfl) h
  · have h := q_t c_3 h
    refine lv_aload_n hx hb dX3_lay_11 rfl (lv_at hl 0 rfl) ?_
    refine lv_ldc (v := -1000000001) hx hb hown (hts _ kX3_lay_8) dX3_lay_12 ?_
    obtain ⟨r_26, b_27, hc_28, h⟩ := q_bd2_ok h
    refine q_ci0 (r := r_26) (va_runV (As := [.int (-1000000001 : Int32)]) (rest := []) ⟨hx, hb, hml, hown, hts⟩ (c_X3_found l D y t q _ N b R T K P B L (-1000000001 : Int32) (r_26, b_27) hc_28) (cwV 1 hts gX3_lay_X3_found rfl rfl rfl eX3_found ⟨Nat.le_of_ble_eq_true rfl, Nat.le_of_ble_eq_true rfl⟩) ⟨q_blind, (va_recv hK hP (ci := 3) (q0 := 0) rfl rfl), (q_pre0 hP hK hZ hD hA hS)⟩ rfl rfl hl.1 rfl (lv_room (Nat.le_of_ble_eq_true rfl)) dX3_lay_14 ⟨Nat.zero_le _, Nat.zero_le _⟩) hD hA hS (fun H locs hP hD hS => ?_)
    have hP : va_P D vwCl (wB y q b_27 R T K P B L) H := hP
    have hD : va_D A (wB y q b_27 R T K P B L) := hD
    have e9 := Option.some.inj h
    exact q_iret hx hb hr hlocks hK hP hD hS dX3_lay_17 (by first | rw [← e9] | rfl) (by first | rw [← e9] | rfl)
theorem eX3_lay : yX3_lay.cls = RX3 ∧ yX3_lay.cls ≠ "java/lang/invoke/MethodHandle" ∧ yX3_lay.cls ≠ "java/lang/invoke/VarHandle" ∧ (parseMethodDescriptor yX3_lay.desc).map (fun d => d.parameters.length) = some 1 := by decide +kernel
theorem uX3_take_X0 : ∀ w ∈ u_ws RX0 TX0 13, w ∈ wsX3_take := by decide +kernel
theorem kX3_take_1 : Cond.fieldLink RX3 48 "BeamSeats$Island" "bearing" "I" ∈ wsX3_take := List.mem_of_getElem? (i := 4) (by decide +kernel)
theorem uX3_take_X3 : ∀ w ∈ u_ws RX3 TX3 7, w ∈ wsX3_take := by decide +kernel
theorem kX3_take_3 : Cond.fieldLink RX3 10 "BeamSeats" "real" "LBeamSeats$Island;" ∈ wsX3_take := List.mem_of_getElem? (i := 1) (by decide +kernel)
theorem kX3_take_4 : Cond.constant RX3 131 (-1000000005) ∈ wsX3_take := List.mem_of_getElem? (i := 3) (by decide +kernel)
theorem kX3_take_5 : Cond.constant RX3 58 (-1000000001) ∈ wsX3_take := List.mem_of_getElem? (i := 2) (by decide +kernel)
def f_X3_take (N : Nat) (b : Nat → Nat → Int32) (R : Nat → Nat → Int32) (T : Nat → Nat → Int32) (K : Nat → Nat → Int32) (P : Nat → Nat → Int32) (B : Nat → Nat → Int32) (L : Nat → Nat → Int64) (p1 : Int32) : Option (Int32 × (Nat → Nat → Int32) × (Nat → Nat → Int32)) :=
  q_bd (f_X0_has N R p1) (fun r_1 =>
  if r_1 = 0 then
    q_bd2 (f_X3_found N b R T K P B L (-1000000001 : Int32)) (fun r_12 b_13 =>
    some (r_12, b_13, R))
  else
    q_bd (f_X0_isOn N R p1) (fun r_4 =>
    if r_4 = 0 then
      q_bd2 (f_X3_found N b R T K P B L (-1000000005 : Int32)) (fun r_9 b_10 =>
      some (r_9, b_10, R))
    else
      q_bd (f_X0_goOff N R p1) (fun R_7 =>
      some ((R_7 0 1), b, R_7))))
set_option maxHeartbeats 4000000 in
set_option maxRecDepth 100000 in
theorem c_X3_take (l : Launch) (D : va_G) (y : Nat → ClassId) (t : Nat → Nat) (q : Nat → Nat) (sz N : Nat) (b : Nat → Nat → Int32) (R : Nat → Nat → Int32) (T : Nat → Nat → Int32) (K : Nat → Nat → Int32) (P : Nat → Nat → Int32) (B : Nat → Nat → Int32) (L : Nat → Nat → Int64) (p1 : Int32) (res : Int32 × (Nat → Nat → Int32) × (Nat → Nat → Int32)) (h : f_X3_take N b R T K P B L p1 = some res) : Met l yX3_take wsX3_take ({ frames := 2, cells := 0, slots := 0, locals := 44 } : Room) (pPre D y t [.ref (q 0), .int p1] (wB y q b R T K P B L) sz) (pQi D y (res.1) (wB y q (res.2.1) (res.2.2) T K P B L) (va_A (wB y q b R T K P B L) sz)) 0 0 (va_A (wB y q b R T K P B L) sz) := by
  refine q_start (Qc := (fun A => pQi D y (res.1) (wB y q (res.2.1) (res.2.2) T K P B L) A)) (cc := cX3_take) (maxL := 2) (ret := (some .int)) (by decide) rfl (Nat.le_of_ble_eq_true rfl) ?_
  intro p e s m below meth c A ls hx hb hr hts hown hlocks hmn hml hP hK hZ hD hA hS hl
  have hl : lv_has ls 2 [(0, .ref (q 0)), (1, .int p1)] := hl
  have hown : s.vm.findClass RX3 = some m.cls := hown
  unfold f_X3_take at h
  refine lv_aload_n hx hb dX3_take_0 rfl (lv_at hl 0 rfl) ?_
  refine va_get (D := D) (ci := 3) (v := .ref (q 1)) (C := RX3) (T := TX3) (N := 7) hx hb hts uX3_take_X3 hown hK hP 0 rfl rfl 0 (by decide) (hts _ kX3_take_3) (fun _ h9 => h9) rfl dX3_take_1 ?_
  refine lv_iload_n hx hb dX3_take_4 rfl (lv_at hl 1 rfl) ?_
  obtain ⟨r_1, hc_2, h⟩ := q_bd_ok h
  refine q_ci (r := r_1) (va_runV (As := [.int p1]) (rest := []) ⟨hx, hb, hml, hown, hts⟩ (c_X0_has l D y t (fun k => q (k + 1)) _ N R p1 r_1 hc_2) (cwV 1 hts gX3_take_X0_has rfl rfl rfl eX0_has ⟨Nat.le_of_ble_eq_true rfl, Nat.le_of_ble_eq_true rfl⟩) ⟨q_blind, (va_recv hK hP (ci := 0) (q0 := 1) rfl rfl), (q_pre hP hK hZ hD hA hS [1, 2, 3, 4, 5, 6, 7] rfl (by decide))⟩ rfl rfl hl.1 rfl (lv_room (Nat.le_of_ble_eq_true rfl)) dX3_take_5 ⟨Nat.zero_le _, Nat.zero_le _⟩) hP hD hA hS [1, 2, 3, 4, 5, 6, 7] rfl (by decide) rfl (fun H locs hP hD hS => ?_)
  have hP : va_P D vwCl (wB y q b R T K P B L) H := hP
  have hD : va_D A (wB y q b R T K P B L) := hD
  refine lv_if_ne (tgt := 18) hx hb dX3_take_8 (by decide) (fun c_3 => ?_) (fun c_3 => ?_)
  · have h := q_f c_3 h
    refine lv_aload_n hx hb dX3_take_18 rfl (lv_at hl 0 rfl) ?_
    refine va_get (D := D) (ci := 3) (v := .ref (q 1)) (C := RX3) (T := TX3) (N := 7) hx hb hts uX3_take_X3 hown hK hP 0 rfl rfl 0 (by decide) (hts _ kX3_take_3) (fun _ h9 => h9) rfl dX3_take_19 ?_
    refine lv_iload_n hx hb dX3_take_22 rfl (lv_at hl 1 rfl) ?_
    obtain ⟨r_4, hc_5, h⟩ := q_bd_ok h
    refine q_ci (r := r_4) (va_runV (As := [.int p1]) (rest := []) ⟨hx, hb, hml, hown, hts⟩ (c_X0_isOn l D y t (fun k => q (k + 1)) _ N R p1 r_4 hc_5) (cwV 1 hts gX3_take_X0_isOn rfl rfl rfl eX0_isOn ⟨Nat.le_of_ble_eq_true rfl, Nat.le_of_ble_eq_true rfl⟩) ⟨q_blind, (va_recv hK hP (ci := 0) (q0 := 1) rfl rfl), (q_pre hP hK hZ hD hA hS [1, 2, 3, 4, 5, 6, 7] rfl (by decide))⟩ rfl rfl hl.1 rfl (lv_room (Nat.le_of_ble_eq_true rfl)) dX3_take_23 ⟨Nat.zero_le _, Nat.zero_le _⟩) hP hD hA hS [1, 2, 3, 4, 5, 6, 7] rfl (by decide) rfl (fun H locs hP hD hS => ?_)
    have hP : va_P D vwCl (wB y q b R T K P B L) H := hP
    have hD : va_D A (wB y q b R T K P B L) := hD
    refine lv_if_ne (tgt := 36) hx hb dX3_take_26 (by decide) (fun c_6 => ?_) (fun c_6 => ?_)
    · have h := q_f c_6 h
      refine lv_aload_n hx hb dX3_take_36 rfl (lv_at hl 0 rfl) ?_
      refine va_get (D := D) (ci := 3) (v := .ref (q 1)) (C := RX3) (T := TX3) (N := 7) hx hb hts uX3_take_X3 hown hK hP 0 rfl rfl 0 (by decide) (hts _ kX3_take_3) (fun _ h9 => h9) rfl dX3_take_37 ?_
      refine lv_iload_n hx hb dX3_take_40 rfl (lv_at hl 1 rfl) ?_
      obtain ⟨R_7, hc_8, h⟩ := q_bd_ok h
      refine q_cv (va_runV (As := [.int p1]) (rest := []) ⟨hx, hb, hml, hown, hts⟩ (c_X0_goOff l D y t (fun k => q (k + 1)) _ N R p1 R_7 hc_8) (cwV 1 hts gX3_take_X0_goOff rfl rfl rfl eX0_goOff ⟨Nat.le_of_ble_eq_true rfl, Nat.le_of_ble_eq_true rfl⟩) ⟨q_blind, (va_recv hK hP (ci := 0) (q0 := 1) rfl rfl), (q_pre hP hK hZ hD hA hS [1, 2, 3, 4, 5, 6, 7] rfl (by decide))⟩ rfl rfl hl.1 rfl (lv_room (Nat.le_of_ble_eq_true rfl)) dX3_take_41 ⟨Nat.zero_le _, Nat.zero_le _⟩) hP hD hA hS [1, 2, 3, 4, 5, 6, 7] rfl (by decide) rfl (fun H locs hP hD hS => ?_)
      have hP : va_P D vwCl (wB y q b R_7 T K P B L) H := hP
      have hD : va_D A (wB y q b R_7 T K P B L) := hD
      refine lv_aload_n hx hb dX3_take_44 rfl (lv_at hl 0 rfl) ?_
      refine va_get (D := D) (ci := 3) (v := .ref (q 1)) (C := RX3) (T := TX3) (N := 7) hx hb hts uX3_take_X3 hown hK hP 0 rfl rfl 0 (by decide) (hts _ kX3_take_3) (fun _ h9 => h9) rfl dX3_take_45 ?_
      refine va_get (D := D) (ci := 0) (v := .int (R_7 0 1)) (C := RX0) (T := TX0) (N := 13) hx hb hts uX3_take_X0 hown hK hP 1 rfl rfl 1 (by decide) (hts _ kX3_take_1) (fun _ h9 => h9) rfl dX3_take_48 ?_
      have e9 := Option.some.inj h
      exact q_iret hx hb hr hlocks hK hP hD hS dX3_take_51 (by first | rw [← e9] | rfl) (by first | rw [← e9] | rfl)
    · have h := q_t c_6 h
      refine lv_aload_n hx hb dX3_take_29 rfl (lv_at hl 0 rfl) ?_
      refine lv_ldc (v := -1000000005) hx hb hown (hts _ kX3_take_4) dX3_take_30 ?_
      obtain ⟨r_9, b_10, hc_11, h⟩ := q_bd2_ok h
      refine q_ci0 (r := r_9) (va_runV (As := [.int (-1000000005 : Int32)]) (rest := []) ⟨hx, hb, hml, hown, hts⟩ (c_X3_found l D y t q _ N b R T K P B L (-1000000005 : Int32) (r_9, b_10) hc_11) (cwV 1 hts gX3_take_X3_found rfl rfl rfl eX3_found ⟨Nat.le_of_ble_eq_true rfl, Nat.le_of_ble_eq_true rfl⟩) ⟨q_blind, (va_recv hK hP (ci := 3) (q0 := 0) rfl rfl), (q_pre0 hP hK hZ hD hA hS)⟩ rfl rfl hl.1 rfl (lv_room (Nat.le_of_ble_eq_true rfl)) dX3_take_32 ⟨Nat.zero_le _, Nat.zero_le _⟩) hD hA hS (fun H locs hP hD hS => ?_)
      have hP : va_P D vwCl (wB y q b_10 R T K P B L) H := hP
      have hD : va_D A (wB y q b_10 R T K P B L) := hD
      have e9 := Option.some.inj h
      exact q_iret hx hb hr hlocks hK hP hD hS dX3_take_35 (by first | rw [← e9] | rfl) (by first | rw [← e9] | rfl)
  · have h := q_t c_3 h
    refine lv_aload_n hx hb dX3_take_11 rfl (lv_at hl 0 rfl) ?_
    refine lv_ldc (v := -1000000001) hx hb hown (hts _ kX3_take_5) dX3_take_12 ?_
    obtain ⟨r_12, b_13, hc_14, h⟩ := q_bd2_ok h
    refine q_ci0 (r := r_12) (va_runV (As := [.int (-1000000001 : Int32)]) (rest := []) ⟨hx, hb, hml, hown, hts⟩ (c_X3_found l D y t q _ N b R T K P B L (-1000000001 : Int32) (r_12, b_13) hc_14) (cwV 1 hts gX3_take_X3_found rfl rfl rfl eX3_found ⟨Nat.le_of_ble_eq_true rfl, Nat.le_of_ble_eq_true rfl⟩) ⟨q_blind, (va_recv hK hP (ci := 3) (q0 := 0) rfl rfl), (q_pre0 hP hK hZ hD hA hS)⟩ rfl rfl hl.1 rfl (lv_room (Nat.le_of_ble_eq_true rfl)) dX3_take_14 ⟨Nat.zero_le _, Nat.zero_le _⟩) hD hA hS (fun H locs hP hD hS => ?_)
    have hP : va_P D vwCl (wB y q b_13 R T K P B L) H := hP
    have hD : va_D A (wB y q b_13 R T K P B L) := hD
    have e9 := Option.some.inj h
    exact q_iret hx hb hr hlocks hK hP hD hS dX3_take_17 (by first | rw [← e9] | rfl) (by first | rw [← e9] | rfl)
theorem eX3_take : yX3_take.cls = RX3 ∧ yX3_take.cls ≠ "java/lang/invoke/MethodHandle" ∧ yX3_take.cls ≠ "java/lang/invoke/VarHandle" ∧ (parseMethodDescriptor yX3_take.desc).map (fun d => d.parameters.length) = some 1 := by decide +kernel
theorem kX3_seconds_0 : Cond.constant RX3 147 (99999) ∈ wsX3_seconds := List.mem_of_getElem? (i := 4) (by decide +kernel)
theorem uX3_seconds_X0 : ∀ w ∈ u_ws RX0 TX0 13, w ∈ wsX3_seconds := by decide +kernel
theorem kX3_seconds_2 : Cond.fieldLink RX3 66 "BeamSeats$Island" "onSet" "I" ∈ wsX3_seconds := List.mem_of_getElem? (i := 6) (by decide +kernel)
theorem uX3_seconds_X3 : ∀ w ∈ u_ws RX3 TX3 7, w ∈ wsX3_seconds := by decide +kernel
theorem kX3_seconds_4 : Cond.fieldLink RX3 10 "BeamSeats" "real" "LBeamSeats$Island;" ∈ wsX3_seconds := List.mem_of_getElem? (i := 2) (by decide +kernel)
theorem kX3_seconds_5 : Cond.constant RX3 131 (-1000000005) ∈ wsX3_seconds := List.mem_of_getElem? (i := 5) (by decide +kernel)
theorem kX3_seconds_6 : Cond.fieldLink RX3 63 "BeamSeats$Island" "second" "I" ∈ wsX3_seconds := List.mem_of_getElem? (i := 3) (by decide +kernel)
theorem kX3_seconds_7 : Cond.constant RX3 58 (-1000000001) ∈ wsX3_seconds := List.mem_of_getElem? (i := 1) (by decide +kernel)
def f_X3_seconds (N : Nat) (b : Nat → Nat → Int32) (R : Nat → Nat → Int32) (T : Nat → Nat → Int32) (K : Nat → Nat → Int32) (P : Nat → Nat → Int32) (B : Nat → Nat → Int32) (L : Nat → Nat → Int64) (p1 : Int32) : Option (Int32 × (Nat → Nat → Int32) × (Nat → Nat → Int32)) :=
  q_bd (f_X3_within N p1 (1 : Int32) (200 : Int32)) (fun r_1 =>
  if r_1 = 0 then
    q_bd2 (f_X3_found N b R T K P B L (-1000000001 : Int32)) (fun r_10 b_11 =>
    some (r_10, b_11, R))
  else
    if ((R 0 0) + p1) ≤ (99999 : Int32) then
      q_bd (f_X0_goSeconds N R p1) (fun R_5 =>
      some ((R_5 0 5), b, R_5))
    else
      q_bd2 (f_X3_found N b R T K P B L (-1000000005 : Int32)) (fun r_7 b_8 =>
      some (r_7, b_8, R)))
set_option maxHeartbeats 4000000 in
set_option maxRecDepth 100000 in
theorem c_X3_seconds (l : Launch) (D : va_G) (y : Nat → ClassId) (t : Nat → Nat) (q : Nat → Nat) (sz N : Nat) (b : Nat → Nat → Int32) (R : Nat → Nat → Int32) (T : Nat → Nat → Int32) (K : Nat → Nat → Int32) (P : Nat → Nat → Int32) (B : Nat → Nat → Int32) (L : Nat → Nat → Int64) (p1 : Int32) (res : Int32 × (Nat → Nat → Int32) × (Nat → Nat → Int32)) (h : f_X3_seconds N b R T K P B L p1 = some res) : Met l yX3_seconds wsX3_seconds ({ frames := 5, cells := 0, slots := 0, locals := 113 } : Room) (pPre D y t [.ref (q 0), .int p1] (wB y q b R T K P B L) sz) (pQi D y (res.1) (wB y q (res.2.1) (res.2.2) T K P B L) (va_A (wB y q b R T K P B L) sz)) 0 0 (va_A (wB y q b R T K P B L) sz) := by
  refine q_start (Qc := (fun A => pQi D y (res.1) (wB y q (res.2.1) (res.2.2) T K P B L) A)) (cc := cX3_seconds) (maxL := 2) (ret := (some .int)) (by decide) rfl (Nat.le_of_ble_eq_true rfl) ?_
  intro p e s m below meth c A ls hx hb hr hts hown hlocks hmn hml hP hK hZ hD hA hS hl
  have hl : lv_has ls 2 [(0, .ref (q 0)), (1, .int p1)] := hl
  have hown : s.vm.findClass RX3 = some m.cls := hown
  unfold f_X3_seconds at h
  refine lv_iload_n hx hb dX3_seconds_0 rfl (lv_at hl 1 rfl) ?_
  refine lv_iconst (v := 1) hx hb dX3_seconds_1 (by decide) ?_
  refine lv_sipush (v := 200) hx hb dX3_seconds_2 (by decide) ?_
  obtain ⟨r_1, hc_2, h⟩ := q_bd_ok h
  refine q_ci (r := r_1) (va_runS (As := [.int p1, .int (1 : Int32), .int (200 : Int32)]) (rest := []) ⟨hx, hb, hml, hown, hts⟩ (c_X3_within l D y t q _ N p1 (1 : Int32) (200 : Int32) r_1 hc_2) (va_cwS 3 hts gX3_seconds_X3_within rfl rfl rfl eX3_within ⟨Nat.le_of_ble_eq_true rfl, Nat.le_of_ble_eq_true rfl⟩) ⟨q_blind, (q_pre hP hK hZ hD hA hS [] rfl (by decide))⟩ rfl rfl hl.1 rfl (lv_room (Nat.le_of_ble_eq_true rfl)) dX3_seconds_5 ⟨Nat.zero_le _, Nat.zero_le _⟩) hP hD hA hS [] rfl (by decide) rfl (fun H locs hP hD hS => ?_)
  have hP : va_P D vwCl (wB y q b R T K P B L) H := hP
  have hD : va_D A (wB y q b R T K P B L) := hD
  refine lv_if_ne (tgt := 18) hx hb dX3_seconds_8 (by decide) (fun c_3 => ?_) (fun c_3 => ?_)
  · have h := q_f c_3 h
    refine lv_aload_n hx hb dX3_seconds_18 rfl (lv_at hl 0 rfl) ?_
    refine va_get (D := D) (ci := 3) (v := .ref (q 1)) (C := RX3) (T := TX3) (N := 7) hx hb hts uX3_seconds_X3 hown hK hP 0 rfl rfl 0 (by decide) (hts _ kX3_seconds_4) (fun _ h9 => h9) rfl dX3_seconds_19 ?_
    refine va_get (D := D) (ci := 0) (v := .int (R 0 0)) (C := RX0) (T := TX0) (N := 13) hx hb hts uX3_seconds_X0 hown hK hP 1 rfl rfl 0 (by decide) (hts _ kX3_seconds_6) (fun _ h9 => h9) rfl dX3_seconds_22 ?_
    refine lv_iload_n hx hb dX3_seconds_25 rfl (lv_at hl 1 rfl) ?_
    refine lv_iadd hx hb dX3_seconds_26 ?_
    refine lv_ldc (v := 99999) hx hb hown (hts _ kX3_seconds_0) dX3_seconds_27 ?_
    refine lv_icmp_le (tgt := 39) hx hb dX3_seconds_29 (by decide) (fun c_4 => ?_) (fun c_4 => ?_)
    · have h := q_t c_4 h
      refine lv_aload_n hx hb dX3_seconds_39 rfl (lv_at hl 0 rfl) ?_
      refine va_get (D := D) (ci := 3) (v := .ref (q 1)) (C := RX3) (T := TX3) (N := 7) hx hb hts uX3_seconds_X3 hown hK hP 0 rfl rfl 0 (by decide) (hts _ kX3_seconds_4) (fun _ h9 => h9) rfl dX3_seconds_40 ?_
      refine lv_iload_n hx hb dX3_seconds_43 rfl (lv_at hl 1 rfl) ?_
      obtain ⟨R_5, hc_6, h⟩ := q_bd_ok h
      refine q_cv (va_runV (As := [.int p1]) (rest := []) ⟨hx, hb, hml, hown, hts⟩ (c_X0_goSeconds l D y t (fun k => q (k + 1)) _ N R p1 R_5 hc_6) (cwV 1 hts gX3_seconds_X0_goSeconds rfl rfl rfl eX0_goSeconds ⟨Nat.le_of_ble_eq_true rfl, Nat.le_of_ble_eq_true rfl⟩) ⟨q_blind, (va_recv hK hP (ci := 0) (q0 := 1) rfl rfl), (q_pre hP hK hZ hD hA hS [1, 2, 3, 4, 5, 6, 7] rfl (by decide))⟩ rfl rfl hl.1 rfl (lv_room (Nat.le_of_ble_eq_true rfl)) dX3_seconds_44 ⟨Nat.zero_le _, Nat.zero_le _⟩) hP hD hA hS [1, 2, 3, 4, 5, 6, 7] rfl (by decide) rfl (fun H locs hP hD hS => ?_)
      have hP : va_P D vwCl (wB y q b R_5 T K P B L) H := hP
      have hD : va_D A (wB y q b R_5 T K P B L) := hD
      refine lv_aload_n hx hb dX3_seconds_47 rfl (lv_at hl 0 rfl) ?_
      refine va_get (D := D) (ci := 3) (v := .ref (q 1)) (C := RX3) (T := TX3) (N := 7) hx hb hts uX3_seconds_X3 hown hK hP 0 rfl rfl 0 (by decide) (hts _ kX3_seconds_4) (fun _ h9 => h9) rfl dX3_seconds_48 ?_
      refine va_get (D := D) (ci := 0) (v := .int (R_5 0 5)) (C := RX0) (T := TX0) (N := 13) hx hb hts uX3_seconds_X0 hown hK hP 1 rfl rfl 5 (by decide) (hts _ kX3_seconds_2) (fun _ h9 => h9) rfl dX3_seconds_51 ?_
      have e9 := Option.some.inj h
      exact q_iret hx hb hr hlocks hK hP hD hS dX3_seconds_54 (by first | rw [← e9] | rfl) (by first | rw [← e9] | rfl)
    · have h := q_f c_4 h
      refine lv_aload_n hx hb dX3_seconds_32 rfl (lv_at hl 0 rfl) ?_
      refine lv_ldc (v := -1000000005) hx hb hown (hts _ kX3_seconds_5) dX3_seconds_33 ?_
      obtain ⟨r_7, b_8, hc_9, h⟩ := q_bd2_ok h
      refine q_ci0 (r := r_7) (va_runV (As := [.int (-1000000005 : Int32)]) (rest := []) ⟨hx, hb, hml, hown, hts⟩ (c_X3_found l D y t q _ N b R T K P B L (-1000000005 : Int32) (r_7, b_8) hc_9) (cwV 1 hts gX3_seconds_X3_found rfl rfl rfl eX3_found ⟨Nat.le_of_ble_eq_true rfl, Nat.le_of_ble_eq_true rfl⟩) ⟨q_blind, (va_recv hK hP (ci := 3) (q0 := 0) rfl rfl), (q_pre0 hP hK hZ hD hA hS)⟩ rfl rfl hl.1 rfl (lv_room (Nat.le_of_ble_eq_true rfl)) dX3_seconds_35 ⟨Nat.zero_le _, Nat.zero_le _⟩) hD hA hS (fun H locs hP hD hS => ?_)
      have hP : va_P D vwCl (wB y q b_8 R T K P B L) H := hP
      have hD : va_D A (wB y q b_8 R T K P B L) := hD
      have e9 := Option.some.inj h
      exact q_iret hx hb hr hlocks hK hP hD hS dX3_seconds_38 (by first | rw [← e9] | rfl) (by first | rw [← e9] | rfl)
  · have h := q_t c_3 h
    refine lv_aload_n hx hb dX3_seconds_11 rfl (lv_at hl 0 rfl) ?_
    refine lv_ldc (v := -1000000001) hx hb hown (hts _ kX3_seconds_7) dX3_seconds_12 ?_
    obtain ⟨r_10, b_11, hc_12, h⟩ := q_bd2_ok h
    refine q_ci0 (r := r_10) (va_runV (As := [.int (-1000000001 : Int32)]) (rest := []) ⟨hx, hb, hml, hown, hts⟩ (c_X3_found l D y t q _ N b R T K P B L (-1000000001 : Int32) (r_10, b_11) hc_12) (cwV 1 hts gX3_seconds_X3_found rfl rfl rfl eX3_found ⟨Nat.le_of_ble_eq_true rfl, Nat.le_of_ble_eq_true rfl⟩) ⟨q_blind, (va_recv hK hP (ci := 3) (q0 := 0) rfl rfl), (q_pre0 hP hK hZ hD hA hS)⟩ rfl rfl hl.1 rfl (lv_room (Nat.le_of_ble_eq_true rfl)) dX3_seconds_14 ⟨Nat.zero_le _, Nat.zero_le _⟩) hD hA hS (fun H locs hP hD hS => ?_)
    have hP : va_P D vwCl (wB y q b_11 R T K P B L) H := hP
    have hD : va_D A (wB y q b_11 R T K P B L) := hD
    have e9 := Option.some.inj h
    exact q_iret hx hb hr hlocks hK hP hD hS dX3_seconds_17 (by first | rw [← e9] | rfl) (by first | rw [← e9] | rfl)
theorem eX3_seconds : yX3_seconds.cls = RX3 ∧ yX3_seconds.cls ≠ "java/lang/invoke/MethodHandle" ∧ yX3_seconds.cls ≠ "java/lang/invoke/VarHandle" ∧ (parseMethodDescriptor yX3_seconds.desc).map (fun d => d.parameters.length) = some 1 := by decide +kernel
