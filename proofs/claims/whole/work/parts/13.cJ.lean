def f_J3_checkIndex_8e157_B9 (N : Nat) (v0 : Int32) (v1 : Int32) : Option (Int32) :=
  none
def f_J3_checkIndex_8e157 (N : Nat) (p1 : Int32) (p2 : Int32) : Option (Int32) :=
  if p1 < 0 then
    f_J3_checkIndex_8e157_B9 N p1 p2
  else
    if p1 < p2 then
      some p1
    else
      f_J3_checkIndex_8e157_B9 N p1 p2
set_option maxHeartbeats 4000000 in
set_option maxRecDepth 100000 in
theorem c_J3_checkIndex_8e157 (l : Launch) (D : va_G) (y : Nat → ClassId) (t : Nat → Nat) (q : Nat → Nat) (sz N : Nat) (p1 : Int32) (p2 : Int32) (o3 : Option Nat) (res : Int32) (h : f_J3_checkIndex_8e157 N p1 p2 = some res) : Met l yJ3_checkIndex_8e157 wsJ3_checkIndex_8e157 ({ frames := 0, cells := 0, slots := 0, locals := 0 } : Room) (pPre D y t [.int p1, .int p2, va_rf o3] (([] : va_W)) sz) (pQi D y res (([] : va_W)) (va_A (([] : va_W)) sz)) 0 0 (va_A (([] : va_W)) sz) := by
  refine q_start (Qc := (fun A => pQi D y res (([] : va_W)) A)) (cc := cJ3_checkIndex_8e157) (maxL := 3) (ret := (some .int)) (by decide) rfl (by cases o3 <;> exact Nat.le_of_ble_eq_true rfl) ?_
  intro p e s m below meth c A ls hx hb hr hts hown hlocks hmn hml hP hK hZ hD hA hS hl
  have hl : lv_has ls 3 [(0, .int p1), (1, .int p2), (2, va_rf o3)] := hl
  have hown : s.vm.findClass RJ3 = some m.cls := hown
  have B9 : ∀ (v0 : Int32) (v1 : Int32) (H : Heap) (locs : List Loc) (ls : Array Slot), va_P D vwCl (([] : va_W)) H → va_D A (([] : va_W)) → va_S A s.heap H locs → lv_has ls 3 [(0, .int v0), (1, .int v1), (2, va_rf o3)] → f_J3_checkIndex_8e157_B9 N v0 v1 = some res → W p l e ({ frames := 0, cells := 0, slots := 0, locals := 0 } : Room) s m ([.int p1, .int p2, va_rf o3] : List Value).toArray below meth c H locs 0 0 (MQ below (pQi D y res (([] : va_W)) A) ([.int p1, .int p2, va_rf o3] : List Value).toArray s 0 0 A) (F0 m 9 ls []) := by
    intro v0 v1 H locs ls hP hD hS hl h
    unfold f_J3_checkIndex_8e157_B9 at h
    cases h
  unfold f_J3_checkIndex_8e157 at h
  refine lv_iload_n hx hb dJ3_checkIndex_8e157_0 rfl (lv_at hl 0 rfl) ?_
  refine lv_if_lt (tgt := 9) hx hb dJ3_checkIndex_8e157_1 (by decide) (fun c_1 => ?_) (fun c_1 => ?_)
  · have h := q_t c_1 h
    exact B9 p1 p2 _ _ _ hP hD hS (lv_sub hl [0, 1, 2] rfl) h
  · have h := q_f c_1 h
    refine lv_iload_n hx hb dJ3_checkIndex_8e157_4 rfl (lv_at hl 0 rfl) ?_
    refine lv_iload_n hx hb dJ3_checkIndex_8e157_5 rfl (lv_at hl 1 rfl) ?_
    refine lv_icmp_lt (tgt := 16) hx hb dJ3_checkIndex_8e157_6 (by decide) (fun c_2 => ?_) (fun c_2 => ?_)
    · have h := q_t c_2 h
      refine lv_iload_n hx hb dJ3_checkIndex_8e157_16 rfl (lv_at hl 0 rfl) ?_
      have e9 := Option.some.inj h
      exact q_iret hx hb hr hlocks hK hP hD hS dJ3_checkIndex_8e157_17 (by first | rw [← e9] | rfl) (by first | rw [← e9] | rfl)
    · have h := q_f c_2 h
      exact B9 p1 p2 _ _ _ hP hD hS (lv_sub hl [0, 1, 2] rfl) h
theorem eJ3_checkIndex_8e157 : yJ3_checkIndex_8e157.cls ≠ "java/lang/invoke/MethodHandle" ∧ yJ3_checkIndex_8e157.cls ≠ "java/lang/invoke/VarHandle" ∧ (parseMethodDescriptor yJ3_checkIndex_8e157.desc).map (fun d => d.parameters.length) = some 3 := by decide +kernel
theorem kJ0_checkIndex_df160_0 : Cond.fieldLink RJ0 1053 "jdk/internal/util/Preconditions" "SIOOBE_FORMATTER" "Ljava/util/function/BiFunction;" ∈ wsJ0_checkIndex_df160 := List.mem_of_getElem? (i := 1) (by decide +kernel)
def f_J0_checkIndex_df160 (N : Nat) (p1 : Int32) (p2 : Int32) : Option (Unit) :=
  q_bd (f_J3_checkIndex_8e157 N p1 p2) (fun r_2 =>
  some ())
set_option maxHeartbeats 4000000 in
set_option maxRecDepth 100000 in
theorem c_J0_checkIndex_df160 (l : Launch) (D : va_G) (y : Nat → ClassId) (t : Nat → Nat) (q : Nat → Nat) (sz N : Nat) (p1 : Int32) (p2 : Int32) (res : Unit) (h : f_J0_checkIndex_df160 N p1 p2 = some res) : Met l yJ0_checkIndex_df160 wsJ0_checkIndex_df160 ({ frames := 1, cells := 0, slots := 0, locals := 22 } : Room) (pPre D y t [.int p1, .int p2] (([] : va_W)) sz) (pQv D y (([] : va_W)) (va_A (([] : va_W)) sz)) 0 0 (va_A (([] : va_W)) sz) := by
  refine q_start (Qc := (fun A => pQv D y (([] : va_W)) A)) (cc := cJ0_checkIndex_df160) (maxL := 2) (ret := none) (by decide) rfl (Nat.le_of_ble_eq_true rfl) ?_
  intro p e s m below meth c A ls hx hb hr hts hown hlocks hmn hml hP hK hZ hD hA hS hl
  have hl : lv_has ls 2 [(0, .int p1), (1, .int p2)] := hl
  have hown : s.vm.findClass RJ0 = some m.cls := hown
  unfold f_J0_checkIndex_df160 at h
  refine lv_iload_n hx hb dJ0_checkIndex_df160_0 rfl (lv_at hl 0 rfl) ?_
  refine lv_iload_n hx hb dJ0_checkIndex_df160_1 rfl (lv_at hl 1 rfl) ?_
  obtain ⟨o_1, ho_1⟩ := q_zq hZ.2.2.2.1
  refine va_gets (C := "jdk/internal/util/Preconditions") (n := "SIOOBE_FORMATTER") (d := "Ljava/util/function/BiFunction;") (v := va_rf o_1) hx hb ho_1 hS hown (hts _ kJ0_checkIndex_df160_0) (fun _ h9 => h9) dJ0_checkIndex_df160_2 ?_
  obtain ⟨r_2, hc_3, h⟩ := q_bd_ok h
  refine q_ci (r := r_2) (va_runS (As := [.int p1, .int p2, va_rf o_1]) (rest := []) ⟨hx, hb, hml, hown, hts⟩ (c_J3_checkIndex_8e157 l D y t q _ N p1 p2 o_1 r_2 hc_3) (va_cwS 3 hts gJ0_checkIndex_df160_J3_checkIndex_8e157 rfl rfl rfl eJ3_checkIndex_8e157 ⟨Nat.le_of_ble_eq_true rfl, Nat.le_of_ble_eq_true rfl⟩) ⟨q_blind, (q_pre hP hK hZ hD hA hS [] rfl (by decide))⟩ rfl rfl hl.1 rfl (lv_room (Nat.le_of_ble_eq_true rfl)) dJ0_checkIndex_df160_5 ⟨Nat.zero_le _, Nat.zero_le _⟩) hP hD hA hS [] rfl (by decide) rfl (fun H locs hP hD hS => ?_)
  have hP : va_P D vwCl (([] : va_W)) H := hP
  have hD : va_D A (([] : va_W)) := hD
  refine lv_pop hx hb dJ0_checkIndex_df160_8 rfl ?_
  exact q_vret hx hb hr hlocks hK hP hD hS dJ0_checkIndex_df160_9 rfl
theorem eJ0_checkIndex_df160 : yJ0_checkIndex_df160.cls ≠ "java/lang/invoke/MethodHandle" ∧ yJ0_checkIndex_df160.cls ≠ "java/lang/invoke/VarHandle" ∧ (parseMethodDescriptor yJ0_checkIndex_df160.desc).map (fun d => d.parameters.length) = some 2 := by decide +kernel
theorem kJ0_coder_7d493_0 : Cond.fieldLink RJ0 15 "java/lang/String" "coder" "B" ∈ wsJ0_coder_7d493 := List.mem_of_getElem? (i := 2) (by decide +kernel)
theorem kJ0_coder_7d493_1 : Cond.fieldLink RJ0 38 "java/lang/String" "COMPACT_STRINGS" "Z" ∈ wsJ0_coder_7d493 := List.mem_of_getElem? (i := 1) (by decide +kernel)
def f_J0_coder_7d493 (N : Nat) (i0 : Nat) : Option (Int32) :=
  if (1 : Int32) = 0 then
    some (1 : Int32)
  else
    some (0 : Int32)
set_option maxHeartbeats 4000000 in
set_option maxRecDepth 100000 in
theorem c_J0_coder_7d493 (l : Launch) (D : va_G) (y : Nat → ClassId) (t : Nat → Nat) (q : Nat → Nat) (sz N : Nat) (i0 : Nat) (hi0 : i0 < 13) (res : Int32) (h : f_J0_coder_7d493 N i0 = some res) : Met l yJ0_coder_7d493 wsJ0_coder_7d493 ({ frames := 0, cells := 0, slots := 0, locals := 0 } : Room) (pPre D y t [.ref (t (2 + i0))] (([] : va_W)) sz) (pQi D y res (([] : va_W)) (va_A (([] : va_W)) sz)) 0 0 (va_A (([] : va_W)) sz) := by
  refine q_start (Qc := (fun A => pQi D y res (([] : va_W)) A)) (cc := cJ0_coder_7d493) (maxL := 1) (ret := (some .byte)) (by decide) rfl (Nat.le_of_ble_eq_true rfl) ?_
  intro p e s m below meth c A ls hx hb hr hts hown hlocks hmn hml hP hK hZ hD hA hS hl
  have hl : lv_has ls 1 [(0, .ref (t (2 + i0)))] := hl
  have hown : s.vm.findClass RJ0 = some m.cls := hown
  unfold f_J0_coder_7d493 at h
  refine va_gets (C := "java/lang/String") (n := "COMPACT_STRINGS") (d := "Z") (v := .int 1) hx hb hZ.2.2.1 hS hown (hts _ kJ0_coder_7d493_1) (fun _ h9 => h9) dJ0_coder_7d493_0 ?_
  refine lv_if_eq (tgt := 13) hx hb dJ0_coder_7d493_3 (by decide) (fun c_1 => ?_) (fun c_1 => ?_)
  · have h := q_t c_1 h
    refine lv_iconst (v := 1) hx hb dJ0_coder_7d493_13 (by decide) ?_
    have e9 := Option.some.inj h
    exact q_zret hx hb hr hlocks hK hP hD hS dJ0_coder_7d493_14 rfl (by first | rw [← e9] | rfl) (by first | rw [← e9] | rfl)
  · have h := q_f c_1 h
    refine lv_aload_n hx hb dJ0_coder_7d493_6 rfl (lv_at hl 0 rfl) ?_
    refine vk_getf (v := .int (0 : Int32)) hx hb (hZ.2.2.2.2.1.1 i0 hi0).2.1 hS hown (hts _ kJ0_coder_7d493_0) (fun _ h9 => h9) dJ0_coder_7d493_7 ?_
    refine lv_goto (tgt := 14) hx hb dJ0_coder_7d493_10 (by decide) ?_
    have e9 := Option.some.inj h
    exact q_zret hx hb hr hlocks hK hP hD hS dJ0_coder_7d493_14 rfl (by first | rw [← e9] | rfl) (by first | rw [← e9] | rfl)
theorem eJ0_coder_7d493 : yJ0_coder_7d493.cls = RJ0 ∧ yJ0_coder_7d493.cls ≠ "java/lang/invoke/MethodHandle" ∧ yJ0_coder_7d493.cls ≠ "java/lang/invoke/VarHandle" ∧ (parseMethodDescriptor yJ0_coder_7d493.desc).map (fun d => d.parameters.length) = some 0 := by decide +kernel
theorem kJ0_isLatin1_aae02_0 : Cond.fieldLink RJ0 15 "java/lang/String" "coder" "B" ∈ wsJ0_isLatin1_aae02 := List.mem_of_getElem? (i := 2) (by decide +kernel)
theorem kJ0_isLatin1_aae02_1 : Cond.fieldLink RJ0 38 "java/lang/String" "COMPACT_STRINGS" "Z" ∈ wsJ0_isLatin1_aae02 := List.mem_of_getElem? (i := 1) (by decide +kernel)
def f_J0_isLatin1_aae02 (N : Nat) (i0 : Nat) : Option (Int32) :=
  if (1 : Int32) = 0 then
    some (0 : Int32)
  else
    if (0 : Int32) = 0 then
      some (1 : Int32)
    else
      some (0 : Int32)
set_option maxHeartbeats 4000000 in
set_option maxRecDepth 100000 in
theorem c_J0_isLatin1_aae02 (l : Launch) (D : va_G) (y : Nat → ClassId) (t : Nat → Nat) (q : Nat → Nat) (sz N : Nat) (i0 : Nat) (hi0 : i0 < 13) (res : Int32) (h : f_J0_isLatin1_aae02 N i0 = some res) : Met l yJ0_isLatin1_aae02 wsJ0_isLatin1_aae02 ({ frames := 0, cells := 0, slots := 0, locals := 0 } : Room) (pPre D y t [.ref (t (2 + i0))] (([] : va_W)) sz) (pQi D y res (([] : va_W)) (va_A (([] : va_W)) sz)) 0 0 (va_A (([] : va_W)) sz) := by
  refine q_start (Qc := (fun A => pQi D y res (([] : va_W)) A)) (cc := cJ0_isLatin1_aae02) (maxL := 1) (ret := (some .boolean)) (by decide) rfl (Nat.le_of_ble_eq_true rfl) ?_
  intro p e s m below meth c A ls hx hb hr hts hown hlocks hmn hml hP hK hZ hD hA hS hl
  have hl : lv_has ls 1 [(0, .ref (t (2 + i0)))] := hl
  have hown : s.vm.findClass RJ0 = some m.cls := hown
  unfold f_J0_isLatin1_aae02 at h
  refine va_gets (C := "java/lang/String") (n := "COMPACT_STRINGS") (d := "Z") (v := .int 1) hx hb hZ.2.2.1 hS hown (hts _ kJ0_isLatin1_aae02_1) (fun _ h9 => h9) dJ0_isLatin1_aae02_0 ?_
  refine lv_if_eq (tgt := 17) hx hb dJ0_isLatin1_aae02_3 (by decide) (fun c_1 => ?_) (fun c_1 => ?_)
  · have h := q_t c_1 h
    refine lv_iconst (v := 0) hx hb dJ0_isLatin1_aae02_17 (by decide) ?_
    have e9 := Option.some.inj h
    exact q_zret hx hb hr hlocks hK hP hD hS dJ0_isLatin1_aae02_18 rfl (by first | rw [← e9] | rfl) (by first | rw [← e9] | rfl)
  · have h := q_f c_1 h
    refine lv_aload_n hx hb dJ0_isLatin1_aae02_6 rfl (lv_at hl 0 rfl) ?_
    refine vk_getf (v := .int (0 : Int32)) hx hb (hZ.2.2.2.2.1.1 i0 hi0).2.1 hS hown (hts _ kJ0_isLatin1_aae02_0) (fun _ h9 => h9) dJ0_isLatin1_aae02_7 ?_
    refine lv_if_ne (tgt := 17) hx hb dJ0_isLatin1_aae02_10 (by decide) (fun c_2 => ?_) (fun c_2 => ?_)
    · have h := q_f c_2 h
      refine lv_iconst (v := 0) hx hb dJ0_isLatin1_aae02_17 (by decide) ?_
      have e9 := Option.some.inj h
      exact q_zret hx hb hr hlocks hK hP hD hS dJ0_isLatin1_aae02_18 rfl (by first | rw [← e9] | rfl) (by first | rw [← e9] | rfl)
    · have h := q_t c_2 h
      refine lv_iconst (v := 1) hx hb dJ0_isLatin1_aae02_13 (by decide) ?_
      refine lv_goto (tgt := 18) hx hb dJ0_isLatin1_aae02_14 (by decide) ?_
      have e9 := Option.some.inj h
      exact q_zret hx hb hr hlocks hK hP hD hS dJ0_isLatin1_aae02_18 rfl (by first | rw [← e9] | rfl) (by first | rw [← e9] | rfl)
theorem eJ0_isLatin1_aae02 : yJ0_isLatin1_aae02.cls = RJ0 ∧ yJ0_isLatin1_aae02.cls ≠ "java/lang/invoke/MethodHandle" ∧ yJ0_isLatin1_aae02.cls ≠ "java/lang/invoke/VarHandle" ∧ (parseMethodDescriptor yJ0_isLatin1_aae02.desc).map (fun d => d.parameters.length) = some 0 := by decide +kernel
theorem kJ0_length_8abf5_0 : Cond.fieldLink RJ0 9 "java/lang/String" "value" "[B" ∈ wsJ0_length_8abf5 := List.mem_of_getElem? (i := 1) (by decide +kernel)
def f_J0_length_8abf5 (N : Nat) (i0 : Nat) : Option (Int32) :=
  q_bd (f_J0_coder_7d493 N i0) (fun r_1 =>
  some ((Int32.ofNat (strLen.getD i0 0)) >>> (r_1 &&& 31)))
set_option maxHeartbeats 4000000 in
set_option maxRecDepth 100000 in
theorem c_J0_length_8abf5 (l : Launch) (D : va_G) (y : Nat → ClassId) (t : Nat → Nat) (q : Nat → Nat) (sz N : Nat) (i0 : Nat) (hi0 : i0 < 13) (res : Int32) (h : f_J0_length_8abf5 N i0 = some res) : Met l yJ0_length_8abf5 wsJ0_length_8abf5 ({ frames := 1, cells := 0, slots := 0, locals := 20 } : Room) (pPre D y t [.ref (t (2 + i0))] (([] : va_W)) sz) (pQi D y res (([] : va_W)) (va_A (([] : va_W)) sz)) 0 0 (va_A (([] : va_W)) sz) := by
  refine q_start (Qc := (fun A => pQi D y res (([] : va_W)) A)) (cc := cJ0_length_8abf5) (maxL := 1) (ret := (some .int)) (by decide) rfl (Nat.le_of_ble_eq_true rfl) ?_
  intro p e s m below meth c A ls hx hb hr hts hown hlocks hmn hml hP hK hZ hD hA hS hl
  have hl : lv_has ls 1 [(0, .ref (t (2 + i0)))] := hl
  have hown : s.vm.findClass RJ0 = some m.cls := hown
  unfold f_J0_length_8abf5 at h
  refine lv_aload_n hx hb dJ0_length_8abf5_0 rfl (lv_at hl 0 rfl) ?_
  refine vk_getf (v := .ref (t (20 + i0))) hx hb (hZ.2.2.2.2.1.1 i0 hi0).2.2.1 hS hown (hts _ kJ0_length_8abf5_0) (fun _ h9 => h9) dJ0_length_8abf5_1 ?_
  refine va_tlen (v := (Int32.ofNat (strLen.getD i0 0))) hx hb (hZ.2.2.2.2.1.1 i0 hi0).2.2.2 hS rfl dJ0_length_8abf5_4 ?_
  refine lv_aload_n hx hb dJ0_length_8abf5_5 rfl (lv_at hl 0 rfl) ?_
  obtain ⟨r_1, hc_2, h⟩ := q_bd_ok h
  refine q_ci (r := r_1) (va_runV (As := []) (rest := [.int (Int32.ofNat (strLen.getD i0 0))]) ⟨hx, hb, hml, hown, hts⟩ (c_J0_coder_7d493 l D y t q _ N i0 hi0 r_1 hc_2) (cwV 0 hts gJ0_length_8abf5_J0_coder_7d493 rfl rfl rfl eJ0_coder_7d493 ⟨Nat.le_of_ble_eq_true rfl, Nat.le_of_ble_eq_true rfl⟩) ⟨q_blind, (vk_recv hZ.2.2.2.2.1 hi0 hS), (q_pre hP hK hZ hD hA hS [] rfl (by decide))⟩ rfl rfl hl.1 rfl (lv_room (Nat.le_of_ble_eq_true rfl)) dJ0_length_8abf5_6 ⟨Nat.zero_le _, Nat.zero_le _⟩) hP hD hA hS [] rfl (by decide) rfl (fun H locs hP hD hS => ?_)
  have hP : va_P D vwCl (([] : va_W)) H := hP
  have hD : va_D A (([] : va_W)) := hD
  refine lv_ishr hx hb dJ0_length_8abf5_9 ?_
  have e9 := Option.some.inj h
  exact q_iret hx hb hr hlocks hK hP hD hS dJ0_length_8abf5_10 (by first | rw [← e9] | rfl) (by first | rw [← e9] | rfl)
theorem eJ0_length_8abf5 : yJ0_length_8abf5.cls = RJ0 ∧ yJ0_length_8abf5.cls ≠ "java/lang/invoke/MethodHandle" ∧ yJ0_length_8abf5.cls ≠ "java/lang/invoke/VarHandle" ∧ (parseMethodDescriptor yJ0_length_8abf5.desc).map (fun d => d.parameters.length) = some 0 := by decide +kernel
def f_J1_charAt_3b067 (N : Nat) (i0 : Nat) (p1 : Int32) : Option (Int32) :=
  q_bd (f_J0_checkIndex_df160 N p1 (Int32.ofNat (strLen.getD i0 0))) (fun _ =>
  q_grd p1 (strLen.getD i0 0) (
  some (((((strByt.getD i0 []).getD p1.toNatClampNeg 0) &&& (255 : Int32)).toUInt32 % 65536).toInt32)))
set_option maxHeartbeats 4000000 in
set_option maxRecDepth 100000 in
theorem c_J1_charAt_3b067 (l : Launch) (D : va_G) (y : Nat → ClassId) (t : Nat → Nat) (q : Nat → Nat) (sz N : Nat) (i0 : Nat) (p1 : Int32) (hi0 : i0 < 13) (res : Int32) (h : f_J1_charAt_3b067 N i0 p1 = some res) : Met l yJ1_charAt_3b067 wsJ1_charAt_3b067 ({ frames := 2, cells := 0, slots := 0, locals := 43 } : Room) (pPre D y t [.ref (t (20 + i0)), .int p1] (([] : va_W)) sz) (pQi D y res (([] : va_W)) (va_A (([] : va_W)) sz)) 0 0 (va_A (([] : va_W)) sz) := by
  refine q_start (Qc := (fun A => pQi D y res (([] : va_W)) A)) (cc := cJ1_charAt_3b067) (maxL := 2) (ret := (some .char)) (by decide) rfl (Nat.le_of_ble_eq_true rfl) ?_
  intro p e s m below meth c A ls hx hb hr hts hown hlocks hmn hml hP hK hZ hD hA hS hl
  have hl : lv_has ls 2 [(0, .ref (t (20 + i0))), (1, .int p1)] := hl
  have hown : s.vm.findClass RJ1 = some m.cls := hown
  unfold f_J1_charAt_3b067 at h
  refine lv_iload_n hx hb dJ1_charAt_3b067_0 rfl (lv_at hl 1 rfl) ?_
  refine lv_aload_n hx hb dJ1_charAt_3b067_1 rfl (lv_at hl 0 rfl) ?_
  refine va_tlen (v := (Int32.ofNat (strLen.getD i0 0))) hx hb (hZ.2.2.2.2.1.1 i0 hi0).2.2.2 hS rfl dJ1_charAt_3b067_2 ?_
  obtain ⟨⟨⟩, hc_1, h⟩ := q_bd_ok h
  refine q_cv (va_runS (As := [.int p1, .int (Int32.ofNat (strLen.getD i0 0))]) (rest := []) ⟨hx, hb, hml, hown, hts⟩ (c_J0_checkIndex_df160 l D y t q _ N p1 (Int32.ofNat (strLen.getD i0 0)) () hc_1) (va_cwS 2 hts gJ1_charAt_3b067_J0_checkIndex_df160 rfl rfl rfl eJ0_checkIndex_df160 ⟨Nat.le_of_ble_eq_true rfl, Nat.le_of_ble_eq_true rfl⟩) ⟨q_blind, (q_pre hP hK hZ hD hA hS [] rfl (by decide))⟩ rfl rfl hl.1 rfl (lv_room (Nat.le_of_ble_eq_true rfl)) dJ1_charAt_3b067_3 ⟨Nat.zero_le _, Nat.zero_le _⟩) hP hD hA hS [] rfl (by decide) rfl (fun H locs hP hD hS => ?_)
  have hP : va_P D vwCl (([] : va_W)) H := hP
  have hD : va_D A (([] : va_W)) := hD
  refine lv_aload_n hx hb dJ1_charAt_3b067_6 rfl (lv_at hl 0 rfl) ?_
  refine lv_iload_n hx hb dJ1_charAt_3b067_7 rfl (lv_at hl 1 rfl) ?_
  obtain ⟨z_2, h⟩ := q_grd_ok h
  refine va_tb (v := .int ((strByt.getD i0 []).getD p1.toNatClampNeg 0)) hx hb (hZ.2.2.2.2.1.1 i0 hi0).2.2.2 hS z_2 rfl dJ1_charAt_3b067_8 ?_
  refine lv_sipush (v := 255) hx hb dJ1_charAt_3b067_9 (by decide) ?_
  refine lv_iand hx hb dJ1_charAt_3b067_12 ?_
  refine lv_i2c hx hb dJ1_charAt_3b067_13 rfl ?_
  have e9 := Option.some.inj h
  exact q_zret hx hb hr hlocks hK hP hD hS dJ1_charAt_3b067_14 (pk_nc _) (by first | rw [← e9] | rfl) (by first | rw [← e9] | rfl)
theorem eJ1_charAt_3b067 : yJ1_charAt_3b067.cls ≠ "java/lang/invoke/MethodHandle" ∧ yJ1_charAt_3b067.cls ≠ "java/lang/invoke/VarHandle" ∧ (parseMethodDescriptor yJ1_charAt_3b067.desc).map (fun d => d.parameters.length) = some 2 := by decide +kernel
theorem kJ0_charAt_5068e_0 : Cond.fieldLink RJ0 9 "java/lang/String" "value" "[B" ∈ wsJ0_charAt_5068e := List.mem_of_getElem? (i := 1) (by decide +kernel)
def f_J0_charAt_5068e (N : Nat) (i0 : Nat) (p1 : Int32) : Option (Int32) :=
  q_bd (f_J0_isLatin1_aae02 N i0) (fun r_1 =>
  if r_1 = 0 then
    none
  else
    q_bd (f_J1_charAt_3b067 N i0 p1) (fun r_4 =>
    q_gc r_4 (some r_4)))
set_option maxHeartbeats 4000000 in
set_option maxRecDepth 100000 in
theorem c_J0_charAt_5068e (l : Launch) (D : va_G) (y : Nat → ClassId) (t : Nat → Nat) (q : Nat → Nat) (sz N : Nat) (i0 : Nat) (p1 : Int32) (hi0 : i0 < 13) (res : Int32) (h : f_J0_charAt_5068e N i0 p1 = some res) : Met l yJ0_charAt_5068e wsJ0_charAt_5068e ({ frames := 3, cells := 0, slots := 0, locals := 64 } : Room) (pPre D y t [.ref (t (2 + i0)), .int p1] (([] : va_W)) sz) (pQi D y res (([] : va_W)) (va_A (([] : va_W)) sz)) 0 0 (va_A (([] : va_W)) sz) := by
  refine q_start (Qc := (fun A => pQi D y res (([] : va_W)) A)) (cc := cJ0_charAt_5068e) (maxL := 2) (ret := (some .char)) (by decide) rfl (Nat.le_of_ble_eq_true rfl) ?_
  intro p e s m below meth c A ls hx hb hr hts hown hlocks hmn hml hP hK hZ hD hA hS hl
  have hl : lv_has ls 2 [(0, .ref (t (2 + i0))), (1, .int p1)] := hl
  have hown : s.vm.findClass RJ0 = some m.cls := hown
  unfold f_J0_charAt_5068e at h
  refine lv_aload_n hx hb dJ0_charAt_5068e_0 rfl (lv_at hl 0 rfl) ?_
  obtain ⟨r_1, hc_2, h⟩ := q_bd_ok h
  refine q_ci (r := r_1) (va_runV (As := []) (rest := []) ⟨hx, hb, hml, hown, hts⟩ (c_J0_isLatin1_aae02 l D y t q _ N i0 hi0 r_1 hc_2) (cwV 0 hts gJ0_charAt_5068e_J0_isLatin1_aae02 rfl rfl rfl eJ0_isLatin1_aae02 ⟨Nat.le_of_ble_eq_true rfl, Nat.le_of_ble_eq_true rfl⟩) ⟨q_blind, (vk_recv hZ.2.2.2.2.1 hi0 hS), (q_pre hP hK hZ hD hA hS [] rfl (by decide))⟩ rfl rfl hl.1 rfl (lv_room (Nat.le_of_ble_eq_true rfl)) dJ0_charAt_5068e_1 ⟨Nat.zero_le _, Nat.zero_le _⟩) hP hD hA hS [] rfl (by decide) rfl (fun H locs hP hD hS => ?_)
  have hP : va_P D vwCl (([] : va_W)) H := hP
  have hD : va_D A (([] : va_W)) := hD
  refine lv_if_eq (tgt := 16) hx hb dJ0_charAt_5068e_4 (by decide) (fun c_3 => ?_) (fun c_3 => ?_)
  · have h := q_t c_3 h
    cases h
  · have h := q_f c_3 h
    refine lv_aload_n hx hb dJ0_charAt_5068e_7 rfl (lv_at hl 0 rfl) ?_
    refine vk_getf (v := .ref (t (20 + i0))) hx hb (hZ.2.2.2.2.1.1 i0 hi0).2.2.1 hS hown (hts _ kJ0_charAt_5068e_0) (fun _ h9 => h9) dJ0_charAt_5068e_8 ?_
    refine lv_iload_n hx hb dJ0_charAt_5068e_11 rfl (lv_at hl 1 rfl) ?_
    obtain ⟨r_4, hc_5, h⟩ := q_bd_ok h
    refine q_ci (r := r_4) (va_runS (As := [.ref (t (20 + i0)), .int p1]) (rest := []) ⟨hx, hb, hml, hown, hts⟩ (c_J1_charAt_3b067 l D y t q _ N i0 p1 hi0 r_4 hc_5) (va_cwS 2 hts gJ0_charAt_5068e_J1_charAt_3b067 rfl rfl rfl eJ1_charAt_3b067 ⟨Nat.le_of_ble_eq_true rfl, Nat.le_of_ble_eq_true rfl⟩) ⟨q_blind, (q_pre hP hK hZ hD hA hS [] rfl (by decide))⟩ rfl rfl hl.1 rfl (lv_room (Nat.le_of_ble_eq_true rfl)) dJ0_charAt_5068e_12 ⟨Nat.zero_le _, Nat.zero_le _⟩) hP hD hA hS [] rfl (by decide) rfl (fun H locs hP hD hS => ?_)
    have hP : va_P D vwCl (([] : va_W)) H := hP
    have hD : va_D A (([] : va_W)) := hD
    obtain ⟨hg9, h⟩ := q_gc_ok h
    have e9 := Option.some.inj h
    exact q_zret hx hb hr hlocks hK hP hD hS dJ0_charAt_5068e_15 (q_gc_nar hg9) (by first | rw [← e9] | rfl) (by first | rw [← e9] | rfl)
theorem eJ0_charAt_5068e : yJ0_charAt_5068e.cls = RJ0 ∧ yJ0_charAt_5068e.cls ≠ "java/lang/invoke/MethodHandle" ∧ yJ0_charAt_5068e.cls ≠ "java/lang/invoke/VarHandle" ∧ (parseMethodDescriptor yJ0_charAt_5068e.desc).map (fun d => d.parameters.length) = some 1 := by decide +kernel
