def f_X3_within (N : Nat) (p1 : Int32) (p2 : Int32) (p3 : Int32) : Option (Int32) :=
  if p1 < p2 then
    some (0 : Int32)
  else
    if p3 < p1 then
      some (0 : Int32)
    else
      some (1 : Int32)
set_option maxHeartbeats 4000000 in
set_option maxRecDepth 100000 in
theorem c_X3_within (l : Launch) (D : va_G) (y : Nat → ClassId) (t : Nat → Nat) (q : Nat → Nat) (sz N : Nat) (p1 : Int32) (p2 : Int32) (p3 : Int32) (res : Int32) (h : f_X3_within N p1 p2 p3 = some res) : Met l yX3_within wsX3_within ({ frames := 0, cells := 0, slots := 0, locals := 0 } : Room) (pPre D y t [.int p1, .int p2, .int p3] (([] : va_W)) sz) (pQi D y res (([] : va_W)) (va_A (([] : va_W)) sz)) 0 0 (va_A (([] : va_W)) sz) := by
  refine q_start (Qc := (fun A => pQi D y res (([] : va_W)) A)) (cc := cX3_within) (maxL := 3) (ret := (some .boolean)) (by decide) rfl (Nat.le_of_ble_eq_true rfl) ?_
  intro p e s m below meth c A ls hx hb hr hts hown hlocks hmn hml hP hK hZ hD hA hS hl
  have hl : lv_has ls 3 [(0, .int p1), (1, .int p2), (2, .int p3)] := hl
  have hown : s.vm.findClass RX3 = some m.cls := hown
  unfold f_X3_within at h
  refine lv_iload_n hx hb dX3_within_0 rfl (lv_at hl 0 rfl) ?_
  refine lv_iload_n hx hb dX3_within_1 rfl (lv_at hl 1 rfl) ?_
  refine lv_icmp_lt (tgt := 14) hx hb dX3_within_2 (by decide) (fun c_1 => ?_) (fun c_1 => ?_)
  · have h := q_t c_1 h
    refine lv_iconst (v := 0) hx hb dX3_within_14 (by decide) ?_
    have e9 := Option.some.inj h
    exact q_zret hx hb hr hlocks hK hP hD hS dX3_within_15 rfl (by first | rw [← e9] | rfl) (by first | rw [← e9] | rfl)
  · have h := q_f c_1 h
    refine lv_iload_n hx hb dX3_within_5 rfl (lv_at hl 0 rfl) ?_
    refine lv_iload_n hx hb dX3_within_6 rfl (lv_at hl 2 rfl) ?_
    refine lv_icmp_gt (tgt := 14) hx hb dX3_within_7 (by decide) (fun c_2 => ?_) (fun c_2 => ?_)
    · have h := q_t c_2 h
      refine lv_iconst (v := 0) hx hb dX3_within_14 (by decide) ?_
      have e9 := Option.some.inj h
      exact q_zret hx hb hr hlocks hK hP hD hS dX3_within_15 rfl (by first | rw [← e9] | rfl) (by first | rw [← e9] | rfl)
    · have h := q_f c_2 h
      refine lv_iconst (v := 1) hx hb dX3_within_10 (by decide) ?_
      refine lv_goto (tgt := 15) hx hb dX3_within_11 (by decide) ?_
      have e9 := Option.some.inj h
      exact q_zret hx hb hr hlocks hK hP hD hS dX3_within_15 rfl (by first | rw [← e9] | rfl) (by first | rw [← e9] | rfl)
theorem eX3_within : yX3_within.cls ≠ "java/lang/invoke/MethodHandle" ∧ yX3_within.cls ≠ "java/lang/invoke/VarHandle" ∧ (parseMethodDescriptor yX3_within.desc).map (fun d => d.parameters.length) = some 3 := by decide +kernel
theorem uX2_append_X2 : ∀ w ∈ u_ws RX2 TX2 7, w ∈ wsX2_append := by decide +kernel
theorem kX2_append_1 : Cond.fieldLink RX2 15 "BeamSeats$Tape" "size" "I" ∈ wsX2_append := List.mem_of_getElem? (i := 2) (by decide +kernel)
theorem kX2_append_2 : Cond.fieldLink RX2 9 "BeamSeats$Tape" "bytes" "[B" ∈ wsX2_append := List.mem_of_getElem? (i := 1) (by decide +kernel)
def f_X2_append (N : Nat) (P : Nat → Nat → Int32) (p1 : Int32) : Option ((Nat → Nat → Int32)) :=
  q_grd (P 0 0) 120 (
  q_let (q_up P 1 (P 0 0).toNatClampNeg (vp_nar .byte p1)) (fun P_2 =>
  q_let (q_up P_2 0 0 ((P_2 0 0) + (1 : Int32))) (fun P_3 =>
  some P_3)))
set_option maxHeartbeats 4000000 in
set_option maxRecDepth 100000 in
theorem c_X2_append (l : Launch) (D : va_G) (y : Nat → ClassId) (t : Nat → Nat) (q : Nat → Nat) (sz N : Nat) (P : Nat → Nat → Int32) (p1 : Int32) (res : (Nat → Nat → Int32)) (h : f_X2_append N P p1 = some res) : Met l yX2_append wsX2_append ({ frames := 0, cells := 0, slots := 0, locals := 0 } : Room) (pPre D y t [.ref (q 0), .int p1] (wT y q P) sz) (pQv D y (wT y q res) (va_A (wT y q P) sz)) 0 0 (va_A (wT y q P) sz) := by
  refine q_start (Qc := (fun A => pQv D y (wT y q res) A)) (cc := cX2_append) (maxL := 2) (ret := none) (by decide) rfl (Nat.le_of_ble_eq_true rfl) ?_
  intro p e s m below meth c A ls hx hb hr hts hown hlocks hmn hml hP hK hZ hD hA hS hl
  have hl : lv_has ls 2 [(0, .ref (q 0)), (1, .int p1)] := hl
  have hown : s.vm.findClass RX2 = some m.cls := hown
  unfold f_X2_append at h
  refine lv_aload_n hx hb dX2_append_0 rfl (lv_at hl 0 rfl) ?_
  refine va_get (D := D) (ci := 2) (v := .ref (q 1)) (C := RX2) (T := TX2) (N := 7) hx hb hts uX2_append_X2 hown hK hP 0 rfl rfl 0 (by decide) (hts _ kX2_append_2) (fun _ h9 => h9) rfl dX2_append_1 ?_
  refine lv_aload_n hx hb dX2_append_4 rfl (lv_at hl 0 rfl) ?_
  refine va_get (D := D) (ci := 2) (v := .int (P 0 0)) (C := RX2) (T := TX2) (N := 7) hx hb hts uX2_append_X2 hown hK hP 0 rfl rfl 1 (by decide) (hts _ kX2_append_1) (fun _ h9 => h9) rfl dX2_append_5 ?_
  refine lv_iload_n hx hb dX2_append_8 rfl (lv_at hl 1 rfl) ?_
  obtain ⟨z_1, h⟩ := q_grd_ok h
  obtain ⟨P_2, eP_2, h⟩ := q_let_ok h
  refine va_bast hx hb hK hP hD hS 1 1 rfl rfl z_1 dX2_append_9 (fun H locs hP hD hS => ?_)
  have hP : va_P D vwCl (wT y q P_2) H := by rw [eP_2]; exact hP
  have hD : va_D A (wT y q P_2) := by rw [eP_2]; exact hD
  refine lv_aload_n hx hb dX2_append_10 rfl (lv_at hl 0 rfl) ?_
  refine lv_dup hx hb dX2_append_11 rfl ?_
  refine va_get (D := D) (ci := 2) (v := .int (P_2 0 0)) (C := RX2) (T := TX2) (N := 7) hx hb hts uX2_append_X2 hown hK hP 0 rfl rfl 1 (by decide) (hts _ kX2_append_1) (fun _ h9 => h9) rfl dX2_append_12 ?_
  refine lv_iconst (v := 1) hx hb dX2_append_15 (by decide) ?_
  refine lv_iadd hx hb dX2_append_16 ?_
  obtain ⟨P_3, eP_3, h⟩ := q_let_ok h
  refine va_put (D := D) (ci := 2) (v := .int ((P_2 0 0) + (1 : Int32))) (ty := .int) (C := RX2) (T := TX2) (N := 7) hx hb hts uX2_append_X2 tyX2 tyX2_ok nmX2 hown hK hP hD hS 0 rfl rfl 1 (by decide) (hts _ kX2_append_1) (fun _ h9 => h9) rfl (by decide +kernel) rfl rfl (Nat.le_of_ble_eq_true rfl) dX2_append_17 (fun H locs hP hD hS => ?_)
  have hP : va_P D vwCl (wT y q P_3) H := by rw [eP_3]; exact hP
  have hD : va_D A (wT y q P_3) := by rw [eP_3]; exact hD
  have e9 := Option.some.inj h
  exact q_vret hx hb hr hlocks hK hP hD hS dX2_append_20 (by first | rw [← e9] | rfl)
theorem eX2_append : yX2_append.cls = RX2 ∧ yX2_append.cls ≠ "java/lang/invoke/MethodHandle" ∧ yX2_append.cls ≠ "java/lang/invoke/VarHandle" ∧ (parseMethodDescriptor yX2_append.desc).map (fun d => d.parameters.length) = some 1 := by decide +kernel
def f_X2_isLetter (N : Nat) (p1 : Int32) : Option (Int32) :=
  if p1 < (97 : Int32) then
    some (0 : Int32)
  else
    if (122 : Int32) < p1 then
      some (0 : Int32)
    else
      some (1 : Int32)
set_option maxHeartbeats 4000000 in
set_option maxRecDepth 100000 in
theorem c_X2_isLetter (l : Launch) (D : va_G) (y : Nat → ClassId) (t : Nat → Nat) (q : Nat → Nat) (sz N : Nat) (p1 : Int32) (res : Int32) (h : f_X2_isLetter N p1 = some res) : Met l yX2_isLetter wsX2_isLetter ({ frames := 0, cells := 0, slots := 0, locals := 0 } : Room) (pPre D y t [.int p1] (([] : va_W)) sz) (pQi D y res (([] : va_W)) (va_A (([] : va_W)) sz)) 0 0 (va_A (([] : va_W)) sz) := by
  refine q_start (Qc := (fun A => pQi D y res (([] : va_W)) A)) (cc := cX2_isLetter) (maxL := 1) (ret := (some .boolean)) (by decide) rfl (Nat.le_of_ble_eq_true rfl) ?_
  intro p e s m below meth c A ls hx hb hr hts hown hlocks hmn hml hP hK hZ hD hA hS hl
  have hl : lv_has ls 1 [(0, .int p1)] := hl
  have hown : s.vm.findClass RX2 = some m.cls := hown
  unfold f_X2_isLetter at h
  refine lv_iload_n hx hb dX2_isLetter_0 rfl (lv_at hl 0 rfl) ?_
  refine lv_bipush (v := 97) hx hb dX2_isLetter_1 (by decide) ?_
  refine lv_icmp_lt (tgt := 16) hx hb dX2_isLetter_3 (by decide) (fun c_1 => ?_) (fun c_1 => ?_)
  · have h := q_t c_1 h
    refine lv_iconst (v := 0) hx hb dX2_isLetter_16 (by decide) ?_
    have e9 := Option.some.inj h
    exact q_zret hx hb hr hlocks hK hP hD hS dX2_isLetter_17 rfl (by first | rw [← e9] | rfl) (by first | rw [← e9] | rfl)
  · have h := q_f c_1 h
    refine lv_iload_n hx hb dX2_isLetter_6 rfl (lv_at hl 0 rfl) ?_
    refine lv_bipush (v := 122) hx hb dX2_isLetter_7 (by decide) ?_
    refine lv_icmp_gt (tgt := 16) hx hb dX2_isLetter_9 (by decide) (fun c_2 => ?_) (fun c_2 => ?_)
    · have h := q_t c_2 h
      refine lv_iconst (v := 0) hx hb dX2_isLetter_16 (by decide) ?_
      have e9 := Option.some.inj h
      exact q_zret hx hb hr hlocks hK hP hD hS dX2_isLetter_17 rfl (by first | rw [← e9] | rfl) (by first | rw [← e9] | rfl)
    · have h := q_f c_2 h
      refine lv_iconst (v := 1) hx hb dX2_isLetter_12 (by decide) ?_
      refine lv_goto (tgt := 17) hx hb dX2_isLetter_13 (by decide) ?_
      have e9 := Option.some.inj h
      exact q_zret hx hb hr hlocks hK hP hD hS dX2_isLetter_17 rfl (by first | rw [← e9] | rfl) (by first | rw [← e9] | rfl)
theorem eX2_isLetter : yX2_isLetter.cls ≠ "java/lang/invoke/MethodHandle" ∧ yX2_isLetter.cls ≠ "java/lang/invoke/VarHandle" ∧ (parseMethodDescriptor yX2_isLetter.desc).map (fun d => d.parameters.length) = some 1 := by decide +kernel
def f_X2_isDigit (N : Nat) (p1 : Int32) : Option (Int32) :=
  if p1 < (48 : Int32) then
    some (0 : Int32)
  else
    if (57 : Int32) < p1 then
      some (0 : Int32)
    else
      some (1 : Int32)
set_option maxHeartbeats 4000000 in
set_option maxRecDepth 100000 in
theorem c_X2_isDigit (l : Launch) (D : va_G) (y : Nat → ClassId) (t : Nat → Nat) (q : Nat → Nat) (sz N : Nat) (p1 : Int32) (res : Int32) (h : f_X2_isDigit N p1 = some res) : Met l yX2_isDigit wsX2_isDigit ({ frames := 0, cells := 0, slots := 0, locals := 0 } : Room) (pPre D y t [.int p1] (([] : va_W)) sz) (pQi D y res (([] : va_W)) (va_A (([] : va_W)) sz)) 0 0 (va_A (([] : va_W)) sz) := by
  refine q_start (Qc := (fun A => pQi D y res (([] : va_W)) A)) (cc := cX2_isDigit) (maxL := 1) (ret := (some .boolean)) (by decide) rfl (Nat.le_of_ble_eq_true rfl) ?_
  intro p e s m below meth c A ls hx hb hr hts hown hlocks hmn hml hP hK hZ hD hA hS hl
  have hl : lv_has ls 1 [(0, .int p1)] := hl
  have hown : s.vm.findClass RX2 = some m.cls := hown
  unfold f_X2_isDigit at h
  refine lv_iload_n hx hb dX2_isDigit_0 rfl (lv_at hl 0 rfl) ?_
  refine lv_bipush (v := 48) hx hb dX2_isDigit_1 (by decide) ?_
  refine lv_icmp_lt (tgt := 16) hx hb dX2_isDigit_3 (by decide) (fun c_1 => ?_) (fun c_1 => ?_)
  · have h := q_t c_1 h
    refine lv_iconst (v := 0) hx hb dX2_isDigit_16 (by decide) ?_
    have e9 := Option.some.inj h
    exact q_zret hx hb hr hlocks hK hP hD hS dX2_isDigit_17 rfl (by first | rw [← e9] | rfl) (by first | rw [← e9] | rfl)
  · have h := q_f c_1 h
    refine lv_iload_n hx hb dX2_isDigit_6 rfl (lv_at hl 0 rfl) ?_
    refine lv_bipush (v := 57) hx hb dX2_isDigit_7 (by decide) ?_
    refine lv_icmp_gt (tgt := 16) hx hb dX2_isDigit_9 (by decide) (fun c_2 => ?_) (fun c_2 => ?_)
    · have h := q_t c_2 h
      refine lv_iconst (v := 0) hx hb dX2_isDigit_16 (by decide) ?_
      have e9 := Option.some.inj h
      exact q_zret hx hb hr hlocks hK hP hD hS dX2_isDigit_17 rfl (by first | rw [← e9] | rfl) (by first | rw [← e9] | rfl)
    · have h := q_f c_2 h
      refine lv_iconst (v := 1) hx hb dX2_isDigit_12 (by decide) ?_
      refine lv_goto (tgt := 17) hx hb dX2_isDigit_13 (by decide) ?_
      have e9 := Option.some.inj h
      exact q_zret hx hb hr hlocks hK hP hD hS dX2_isDigit_17 rfl (by first | rw [← e9] | rfl) (by first | rw [← e9] | rfl)
theorem eX2_isDigit : yX2_isDigit.cls ≠ "java/lang/invoke/MethodHandle" ∧ yX2_isDigit.cls ≠ "java/lang/invoke/VarHandle" ∧ (parseMethodDescriptor yX2_isDigit.desc).map (fun d => d.parameters.length) = some 1 := by decide +kernel
def f_X2_wordOf (N : Nat) (p1 : Int32) : Option (Nat) :=
  if p1 = 0 then
    some (0)
  else
    if p1 = 1 then
      some (1)
    else
      if p1 = 2 then
        some (2)
      else
        if p1 = 3 then
          some (3)
        else
          if p1 = 4 then
            some (4)
          else
            if p1 = 5 then
              some (5)
            else
              if p1 = 6 then
                some (6)
              else
                if p1 = 7 then
                  some (7)
                else
                  if p1 = 8 then
                    some (8)
                  else
                    if p1 = 9 then
                      some (9)
                    else
                      if p1 = 10 then
                        some (10)
                      else
                        if p1 = 11 then
                          some (11)
                        else
                          some (12)
set_option maxHeartbeats 4000000 in
set_option maxRecDepth 100000 in
theorem c_X2_wordOf (l : Launch) (D : va_G) (y : Nat → ClassId) (t : Nat → Nat) (q : Nat → Nat) (sz N : Nat) (p1 : Int32) (res : Nat) (h : f_X2_wordOf N p1 = some res) : Met l yX2_wordOf wsX2_wordOf ({ frames := 0, cells := 0, slots := 0, locals := 0 } : Room) (pPre D y t [.int p1] (([] : va_W)) sz) (pQq D y (some (t (2 + res))) (([] : va_W)) (va_A (([] : va_W)) sz)) 0 0 (va_A (([] : va_W)) sz) := by
  refine q_start (Qc := (fun A => pQq D y (some (t (2 + res))) (([] : va_W)) A)) (cc := cX2_wordOf) (maxL := 1) (ret := (some (.object "java/lang/String"))) (by decide) rfl (Nat.le_of_ble_eq_true rfl) ?_
  intro p e s m below meth c A ls hx hb hr hts hown hlocks hmn hml hP hK hZ hD hA hS hl
  have hl : lv_has ls 1 [(0, .int p1)] := hl
  have hown : s.vm.findClass RX2 = some m.cls := hown
  unfold f_X2_wordOf at h
  refine lv_iload_n hx hb dX2_wordOf_0 rfl (lv_at hl 0 rfl) ?_
  by_cases c_1 : p1 = 0
  · have h := q_t c_1 h
    refine lv_tableIn (tgt := 64) (off := 63) hx hb dX2_wordOf_1 (by rw [c_1]; decide) (by rw [c_1]; decide) (by rw [c_1]; rfl) (by decide) ?_
    refine va_ldcS hx hb hown (hZ.2.2.2.2.2.1 0 (by decide)) dX2_wordOf_64 ?_
    have e9 := Option.some.inj h
    exact q_aret (v := some (t (2 + 0))) hx hb hr (by first | exact Or.inl ⟨_, rfl⟩ | exact Or.inr ⟨_, rfl⟩) hlocks hK hP hD hS dX2_wordOf_66 (by first | rw [← e9] | rfl) (by first | rw [← e9] | rfl)
  · have h := q_f c_1 h
    by_cases c_2 : p1 = 1
    · have h := q_t c_2 h
      refine lv_tableIn (tgt := 67) (off := 66) hx hb dX2_wordOf_1 (by rw [c_2]; decide) (by rw [c_2]; decide) (by rw [c_2]; rfl) (by decide) ?_
      refine va_ldcS hx hb hown (hZ.2.2.2.2.2.1 1 (by decide)) dX2_wordOf_67 ?_
      have e9 := Option.some.inj h
      exact q_aret (v := some (t (2 + 1))) hx hb hr (by first | exact Or.inl ⟨_, rfl⟩ | exact Or.inr ⟨_, rfl⟩) hlocks hK hP hD hS dX2_wordOf_69 (by first | rw [← e9] | rfl) (by first | rw [← e9] | rfl)
    · have h := q_f c_2 h
      by_cases c_3 : p1 = 2
      · have h := q_t c_3 h
        refine lv_tableIn (tgt := 70) (off := 69) hx hb dX2_wordOf_1 (by rw [c_3]; decide) (by rw [c_3]; decide) (by rw [c_3]; rfl) (by decide) ?_
        refine va_ldcS hx hb hown (hZ.2.2.2.2.2.1 2 (by decide)) dX2_wordOf_70 ?_
        have e9 := Option.some.inj h
        exact q_aret (v := some (t (2 + 2))) hx hb hr (by first | exact Or.inl ⟨_, rfl⟩ | exact Or.inr ⟨_, rfl⟩) hlocks hK hP hD hS dX2_wordOf_72 (by first | rw [← e9] | rfl) (by first | rw [← e9] | rfl)
      · have h := q_f c_3 h
        by_cases c_4 : p1 = 3
        · have h := q_t c_4 h
          refine lv_tableIn (tgt := 73) (off := 72) hx hb dX2_wordOf_1 (by rw [c_4]; decide) (by rw [c_4]; decide) (by rw [c_4]; rfl) (by decide) ?_
          refine va_ldcS hx hb hown (hZ.2.2.2.2.2.1 3 (by decide)) dX2_wordOf_73 ?_
          have e9 := Option.some.inj h
          exact q_aret (v := some (t (2 + 3))) hx hb hr (by first | exact Or.inl ⟨_, rfl⟩ | exact Or.inr ⟨_, rfl⟩) hlocks hK hP hD hS dX2_wordOf_75 (by first | rw [← e9] | rfl) (by first | rw [← e9] | rfl)
        · have h := q_f c_4 h
          by_cases c_5 : p1 = 4
          · have h := q_t c_5 h
            refine lv_tableIn (tgt := 76) (off := 75) hx hb dX2_wordOf_1 (by rw [c_5]; decide) (by rw [c_5]; decide) (by rw [c_5]; rfl) (by decide) ?_
            refine va_ldcS hx hb hown (hZ.2.2.2.2.2.1 4 (by decide)) dX2_wordOf_76 ?_
            have e9 := Option.some.inj h
            exact q_aret (v := some (t (2 + 4))) hx hb hr (by first | exact Or.inl ⟨_, rfl⟩ | exact Or.inr ⟨_, rfl⟩) hlocks hK hP hD hS dX2_wordOf_78 (by first | rw [← e9] | rfl) (by first | rw [← e9] | rfl)
          · have h := q_f c_5 h
            by_cases c_6 : p1 = 5
            · have h := q_t c_6 h
              refine lv_tableIn (tgt := 79) (off := 78) hx hb dX2_wordOf_1 (by rw [c_6]; decide) (by rw [c_6]; decide) (by rw [c_6]; rfl) (by decide) ?_
              refine va_ldcS hx hb hown (hZ.2.2.2.2.2.1 5 (by decide)) dX2_wordOf_79 ?_
              have e9 := Option.some.inj h
              exact q_aret (v := some (t (2 + 5))) hx hb hr (by first | exact Or.inl ⟨_, rfl⟩ | exact Or.inr ⟨_, rfl⟩) hlocks hK hP hD hS dX2_wordOf_81 (by first | rw [← e9] | rfl) (by first | rw [← e9] | rfl)
            · have h := q_f c_6 h
              by_cases c_7 : p1 = 6
              · have h := q_t c_7 h
                refine lv_tableIn (tgt := 82) (off := 81) hx hb dX2_wordOf_1 (by rw [c_7]; decide) (by rw [c_7]; decide) (by rw [c_7]; rfl) (by decide) ?_
                refine va_ldcS hx hb hown (hZ.2.2.2.2.2.1 6 (by decide)) dX2_wordOf_82 ?_
                have e9 := Option.some.inj h
                exact q_aret (v := some (t (2 + 6))) hx hb hr (by first | exact Or.inl ⟨_, rfl⟩ | exact Or.inr ⟨_, rfl⟩) hlocks hK hP hD hS dX2_wordOf_84 (by first | rw [← e9] | rfl) (by first | rw [← e9] | rfl)
              · have h := q_f c_7 h
                by_cases c_8 : p1 = 7
                · have h := q_t c_8 h
                  refine lv_tableIn (tgt := 85) (off := 84) hx hb dX2_wordOf_1 (by rw [c_8]; decide) (by rw [c_8]; decide) (by rw [c_8]; rfl) (by decide) ?_
                  refine va_ldcS hx hb hown (hZ.2.2.2.2.2.1 7 (by decide)) dX2_wordOf_85 ?_
                  have e9 := Option.some.inj h
                  exact q_aret (v := some (t (2 + 7))) hx hb hr (by first | exact Or.inl ⟨_, rfl⟩ | exact Or.inr ⟨_, rfl⟩) hlocks hK hP hD hS dX2_wordOf_87 (by first | rw [← e9] | rfl) (by first | rw [← e9] | rfl)
                · have h := q_f c_8 h
                  by_cases c_9 : p1 = 8
                  · have h := q_t c_9 h
                    refine lv_tableIn (tgt := 88) (off := 87) hx hb dX2_wordOf_1 (by rw [c_9]; decide) (by rw [c_9]; decide) (by rw [c_9]; rfl) (by decide) ?_
                    refine va_ldcS hx hb hown (hZ.2.2.2.2.2.1 8 (by decide)) dX2_wordOf_88 ?_
                    have e9 := Option.some.inj h
                    exact q_aret (v := some (t (2 + 8))) hx hb hr (by first | exact Or.inl ⟨_, rfl⟩ | exact Or.inr ⟨_, rfl⟩) hlocks hK hP hD hS dX2_wordOf_90 (by first | rw [← e9] | rfl) (by first | rw [← e9] | rfl)
                  · have h := q_f c_9 h
                    by_cases c_10 : p1 = 9
                    · have h := q_t c_10 h
                      refine lv_tableIn (tgt := 91) (off := 90) hx hb dX2_wordOf_1 (by rw [c_10]; decide) (by rw [c_10]; decide) (by rw [c_10]; rfl) (by decide) ?_
                      refine va_ldcS hx hb hown (hZ.2.2.2.2.2.1 9 (by decide)) dX2_wordOf_91 ?_
                      have e9 := Option.some.inj h
                      exact q_aret (v := some (t (2 + 9))) hx hb hr (by first | exact Or.inl ⟨_, rfl⟩ | exact Or.inr ⟨_, rfl⟩) hlocks hK hP hD hS dX2_wordOf_93 (by first | rw [← e9] | rfl) (by first | rw [← e9] | rfl)
                    · have h := q_f c_10 h
                      by_cases c_11 : p1 = 10
                      · have h := q_t c_11 h
                        refine lv_tableIn (tgt := 94) (off := 93) hx hb dX2_wordOf_1 (by rw [c_11]; decide) (by rw [c_11]; decide) (by rw [c_11]; rfl) (by decide) ?_
                        refine va_ldcS hx hb hown (hZ.2.2.2.2.2.1 10 (by decide)) dX2_wordOf_94 ?_
                        have e9 := Option.some.inj h
                        exact q_aret (v := some (t (2 + 10))) hx hb hr (by first | exact Or.inl ⟨_, rfl⟩ | exact Or.inr ⟨_, rfl⟩) hlocks hK hP hD hS dX2_wordOf_96 (by first | rw [← e9] | rfl) (by first | rw [← e9] | rfl)
                      · have h := q_f c_11 h
                        by_cases c_12 : p1 = 11
                        · have h := q_t c_12 h
                          refine lv_tableIn (tgt := 97) (off := 96) hx hb dX2_wordOf_1 (by rw [c_12]; decide) (by rw [c_12]; decide) (by rw [c_12]; rfl) (by decide) ?_
                          refine va_ldcS hx hb hown (hZ.2.2.2.2.2.1 11 (by decide)) dX2_wordOf_97 ?_
                          have e9 := Option.some.inj h
                          exact q_aret (v := some (t (2 + 11))) hx hb hr (by first | exact Or.inl ⟨_, rfl⟩ | exact Or.inr ⟨_, rfl⟩) hlocks hK hP hD hS dX2_wordOf_99 (by first | rw [← e9] | rfl) (by first | rw [← e9] | rfl)
                        · have h := q_f c_12 h
                          have nc_1 := lv_neT c_1 (show ((0 : Int32)).toInt = 0 from by decide)
                          have nc_2 := lv_neT c_2 (show ((1 : Int32)).toInt = 1 from by decide)
                          have nc_3 := lv_neT c_3 (show ((2 : Int32)).toInt = 2 from by decide)
                          have nc_4 := lv_neT c_4 (show ((3 : Int32)).toInt = 3 from by decide)
                          have nc_5 := lv_neT c_5 (show ((4 : Int32)).toInt = 4 from by decide)
                          have nc_6 := lv_neT c_6 (show ((5 : Int32)).toInt = 5 from by decide)
                          have nc_7 := lv_neT c_7 (show ((6 : Int32)).toInt = 6 from by decide)
                          have nc_8 := lv_neT c_8 (show ((7 : Int32)).toInt = 7 from by decide)
                          have nc_9 := lv_neT c_9 (show ((8 : Int32)).toInt = 8 from by decide)
                          have nc_10 := lv_neT c_10 (show ((9 : Int32)).toInt = 9 from by decide)
                          have nc_11 := lv_neT c_11 (show ((10 : Int32)).toInt = 10 from by decide)
                          have nc_12 := lv_neT c_12 (show ((11 : Int32)).toInt = 11 from by decide)
                          refine lv_tableOut (tgt := 100) hx hb dX2_wordOf_1 (by omega) (by decide) ?_
                          refine va_ldcS hx hb hown (hZ.2.2.2.2.2.1 12 (by decide)) dX2_wordOf_100 ?_
                          have e9 := Option.some.inj h
                          exact q_aret (v := some (t (2 + 12))) hx hb hr (by first | exact Or.inl ⟨_, rfl⟩ | exact Or.inr ⟨_, rfl⟩) hlocks hK hP hD hS dX2_wordOf_102 (by first | rw [← e9] | rfl) (by first | rw [← e9] | rfl)
theorem eX2_wordOf : yX2_wordOf.cls ≠ "java/lang/invoke/MethodHandle" ∧ yX2_wordOf.cls ≠ "java/lang/invoke/VarHandle" ∧ (parseMethodDescriptor yX2_wordOf.desc).map (fun d => d.parameters.length) = some 1 := by decide +kernel
theorem uX2_isSpelt_X2 : ∀ w ∈ u_ws RX2 TX2 7, w ∈ wsX2_isSpelt := by decide +kernel
theorem kX2_isSpelt_1 : Cond.fieldLink RX2 9 "BeamSeats$Tape" "bytes" "[B" ∈ wsX2_isSpelt := List.mem_of_getElem? (i := 1) (by decide +kernel)
def f_X2_isSpelt_L15 (N : Nat) (i1 : Nat) (P : Nat → Nat → Int32) (v2 : Int32) (v3 : Int32) : Nat → Int32 → Option (Int32)
  | 0, _ => none
  | k + 1, v4 =>
    if v3 ≤ v4 then
      some (1 : Int32)
    else
      q_grd v4 120 (
      q_bd (f_J0_charAt_5068e N i1 (v4 - v2)) (fun r_8 =>
      if (P 1 v4.toNatClampNeg) = r_8 then
        q_let (v4 + 1) (fun x_11 =>
        f_X2_isSpelt_L15 N i1 P v2 v3 k x_11)
      else
        some (0 : Int32)))
def f_X2_isSpelt (N : Nat) (P : Nat → Nat → Int32) (i1 : Nat) (p2 : Int32) (p3 : Int32) : Option (Int32) :=
  q_bd (f_J0_length_8abf5 N i1) (fun r_1 =>
  if (p3 - p2) = r_1 then
    f_X2_isSpelt_L15 N i1 P p2 p3 N p2
  else
    some (0 : Int32))
set_option maxHeartbeats 4000000 in
set_option maxRecDepth 100000 in
theorem c_X2_isSpelt (l : Launch) (D : va_G) (y : Nat → ClassId) (t : Nat → Nat) (q : Nat → Nat) (sz N : Nat) (P : Nat → Nat → Int32) (i1 : Nat) (p2 : Int32) (p3 : Int32) (hi1 : i1 < 13) (res : Int32) (h : f_X2_isSpelt N P i1 p2 p3 = some res) : Met l yX2_isSpelt wsX2_isSpelt ({ frames := 4, cells := 0, slots := 0, locals := 85 } : Room) (pPre D y t [.ref (q 0), .ref (t (2 + i1)), .int p2, .int p3] (wT y q P) sz) (pQi D y res (wT y q P) (va_A (wT y q P) sz)) 0 0 (va_A (wT y q P) sz) := by
  refine q_start (Qc := (fun A => pQi D y res (wT y q P) A)) (cc := cX2_isSpelt) (maxL := 5) (ret := (some .boolean)) (by decide) rfl (Nat.le_of_ble_eq_true rfl) ?_
  intro p e s m below meth c A ls hx hb hr hts hown hlocks hmn hml hP hK hZ hD hA hS hl
  have hl : lv_has ls 5 [(0, .ref (q 0)), (1, .ref (t (2 + i1))), (2, .int p2), (3, .int p3)] := hl
  have hown : s.vm.findClass RX2 = some m.cls := hown
  unfold f_X2_isSpelt at h
  refine lv_iload_n hx hb dX2_isSpelt_0 rfl (lv_at hl 3 rfl) ?_
  refine lv_iload_n hx hb dX2_isSpelt_1 rfl (lv_at hl 2 rfl) ?_
  refine lv_isub hx hb dX2_isSpelt_2 ?_
  refine lv_aload_n hx hb dX2_isSpelt_3 rfl (lv_at hl 1 rfl) ?_
  obtain ⟨r_1, hc_2, h⟩ := q_bd_ok h
  refine q_ci (r := r_1) (va_runV (As := []) (rest := [.int (p3 - p2)]) ⟨hx, hb, hml, hown, hts⟩ (c_J0_length_8abf5 l D y t q _ N i1 hi1 r_1 hc_2) (cwV 0 hts gX2_isSpelt_J0_length_8abf5 rfl rfl rfl eJ0_length_8abf5 ⟨Nat.le_of_ble_eq_true rfl, Nat.le_of_ble_eq_true rfl⟩) ⟨q_blind, (vk_recv hZ.2.2.2.2.1 hi1 hS), (q_pre hP hK hZ hD hA hS [] rfl (by decide))⟩ rfl rfl hl.1 rfl (lv_room (Nat.le_of_ble_eq_true rfl)) dX2_isSpelt_4 ⟨Nat.zero_le _, Nat.zero_le _⟩) hP hD hA hS [] rfl (by decide) rfl (fun H locs hP hD hS => ?_)
  have hP : va_P D vwCl (wT y q P) H := hP
  have hD : va_D A (wT y q P) := hD
  refine lv_icmp_eq (tgt := 12) hx hb dX2_isSpelt_7 (by decide) (fun c_3 => ?_) (fun c_3 => ?_)
  · have h := q_t c_3 h
    refine lv_iload_n hx hb dX2_isSpelt_12 rfl (lv_at hl 2 rfl) ?_
    refine lv_istore (lv' := [(4, .int p2), (0, .ref (q 0)), (1, .ref (t (2 + i1))), (2, .int p2), (3, .int p3)]) hx hb dX2_isSpelt_13 hl (by decide) rfl (fun ls hl => ?_)
    have L15_4 : ∀ (P : Nat → Nat → Int32) (v2 : Int32) (v3 : Int32) (k : Nat) (v4 : Int32), ∀ (H : Heap) (locs : List Loc) (ls : Array Slot), va_P D vwCl (wT y q P) H → va_D A (wT y q P) → va_S A s.heap H locs → lv_has ls 5 [(0, .ref (q 0)), (1, .ref (t (2 + i1))), (2, .int v2), (3, .int v3), (4, .int v4)] → f_X2_isSpelt_L15 N i1 P v2 v3 k v4 = some res → W p l e ({ frames := 4, cells := 0, slots := 0, locals := 85 } : Room) s m ([.ref (q 0), .ref (t (2 + i1)), .int p2, .int p3] : List Value).toArray below meth c H locs 0 0 (MQ below (pQi D y res (wT y q P) A) ([.ref (q 0), .ref (t (2 + i1)), .int p2, .int p3] : List Value).toArray s 0 0 A) (F0 m 15 ls []) := by
      intro P v2 v3 k
      induction k with
      | zero =>
        intro v4 H locs ls hP hD hS hl h
        have h : (none : Option (Int32)) = some _ := h
        cases h
      | succ k ih15_4 =>
        intro v4 H locs ls hP hD hS hl h
        rw [f_X2_isSpelt_L15] at h
        refine lv_iload hx hb dX2_isSpelt_15 (lv_at hl 4 rfl) ?_
        refine lv_iload_n hx hb dX2_isSpelt_17 rfl (lv_at hl 3 rfl) ?_
        refine lv_icmp_ge (tgt := 47) hx hb dX2_isSpelt_18 (by decide) (fun c_6 => ?_) (fun c_6 => ?_)
        · have h := q_t c_6 h
          refine lv_iconst (v := 1) hx hb dX2_isSpelt_47 (by decide) ?_
          have e9 := Option.some.inj h
          exact q_zret hx hb hr hlocks hK hP hD hS dX2_isSpelt_48 rfl (by first | rw [← e9] | rfl) (by first | rw [← e9] | rfl)
        · have h := q_f c_6 h
          refine lv_aload_n hx hb dX2_isSpelt_21 rfl (lv_at hl 0 rfl) ?_
          refine va_get (D := D) (ci := 2) (v := .ref (q 1)) (C := RX2) (T := TX2) (N := 7) hx hb hts uX2_isSpelt_X2 hown hK hP 0 rfl rfl 0 (by decide) (hts _ kX2_isSpelt_1) (fun _ h9 => h9) rfl dX2_isSpelt_22 ?_
          refine lv_iload hx hb dX2_isSpelt_25 (lv_at hl 4 rfl) ?_
          obtain ⟨z_7, h⟩ := q_grd_ok h
          refine va_bald hx hb hK hP 1 1 rfl rfl z_7 dX2_isSpelt_27 ?_
          refine lv_aload_n hx hb dX2_isSpelt_28 rfl (lv_at hl 1 rfl) ?_
          refine lv_iload hx hb dX2_isSpelt_29 (lv_at hl 4 rfl) ?_
          refine lv_iload_n hx hb dX2_isSpelt_31 rfl (lv_at hl 2 rfl) ?_
          refine lv_isub hx hb dX2_isSpelt_32 ?_
          obtain ⟨r_8, hc_9, h⟩ := q_bd_ok h
          refine q_ci (r := r_8) (va_runV (As := [.int (v4 - v2)]) (rest := [.int (P 1 v4.toNatClampNeg)]) ⟨hx, hb, hml, hown, hts⟩ (c_J0_charAt_5068e l D y t q _ N i1 (v4 - v2) hi1 r_8 hc_9) (cwV 1 hts gX2_isSpelt_J0_charAt_5068e rfl rfl rfl eJ0_charAt_5068e ⟨Nat.le_of_ble_eq_true rfl, Nat.le_of_ble_eq_true rfl⟩) ⟨q_blind, (vk_recv hZ.2.2.2.2.1 hi1 hS), (q_pre hP hK hZ hD hA hS [] rfl (by decide))⟩ rfl rfl hl.1 rfl (lv_room (Nat.le_of_ble_eq_true rfl)) dX2_isSpelt_33 ⟨Nat.zero_le _, Nat.zero_le _⟩) hP hD hA hS [] rfl (by decide) rfl (fun H locs hP hD hS => ?_)
          have hP : va_P D vwCl (wT y q P) H := hP
          have hD : va_D A (wT y q P) := hD
          refine lv_icmp_eq (tgt := 41) hx hb dX2_isSpelt_36 (by decide) (fun c_10 => ?_) (fun c_10 => ?_)
          · have h := q_t c_10 h
            obtain ⟨x_11, ex_11, h⟩ := q_let_ok h
            refine lv_iinc (v := x_11) (lv' := [(4, .int x_11), (0, .ref (q 0)), (1, .ref (t (2 + i1))), (2, .int v2), (3, .int v3)]) hx hb dX2_isSpelt_41 hl (k := 4) rfl (by rw [ex_11]; rfl) (by decide) rfl (fun ls hl => ?_)
            refine lv_goto (tgt := 15) hx hb dX2_isSpelt_44 (by decide) ?_
            exact ih15_4 x_11 _ _ _ hP hD hS (lv_sub hl [1, 2, 3, 4, 0] rfl) h
          · have h := q_f c_10 h
            refine lv_iconst (v := 0) hx hb dX2_isSpelt_39 (by decide) ?_
            have e9 := Option.some.inj h
            exact q_zret hx hb hr hlocks hK hP hD hS dX2_isSpelt_40 rfl (by first | rw [← e9] | rfl) (by first | rw [← e9] | rfl)
    exact L15_4 P p2 p3 N p2 _ _ _ hP hD hS (lv_sub hl [1, 2, 3, 4, 0] rfl) h
  · have h := q_f c_3 h
    refine lv_iconst (v := 0) hx hb dX2_isSpelt_10 (by decide) ?_
    have e9 := Option.some.inj h
    exact q_zret hx hb hr hlocks hK hP hD hS dX2_isSpelt_11 rfl (by first | rw [← e9] | rfl) (by first | rw [← e9] | rfl)
theorem eX2_isSpelt : yX2_isSpelt.cls = RX2 ∧ yX2_isSpelt.cls ≠ "java/lang/invoke/MethodHandle" ∧ yX2_isSpelt.cls ≠ "java/lang/invoke/VarHandle" ∧ (parseMethodDescriptor yX2_isSpelt.desc).map (fun d => d.parameters.length) = some 3 := by decide +kernel
def f_X2_wordAt_L2 (N : Nat) (P : Nat → Nat → Int32) (v1 : Int32) (v2 : Int32) : Nat → Int32 → Option (Int32)
  | 0, _ => none
  | k + 1, v3 =>
    if (12 : Int32) ≤ v3 then
      some v3
    else
      q_bd (f_X2_wordOf N v3) (fun r_4 =>
      q_lt r_4 13 (
      q_bd (f_X2_isSpelt N P r_4 v1 v2) (fun r_7 =>
      if r_7 = 0 then
        q_let (v3 + 1) (fun x_10 =>
        f_X2_wordAt_L2 N P v1 v2 k x_10)
      else
        some v3)))
def f_X2_wordAt (N : Nat) (P : Nat → Nat → Int32) (p1 : Int32) (p2 : Int32) : Option (Int32) :=
  q_bd (f_X2_wordAt_L2 N P p1 p2 N (0 : Int32)) (fun x_2 =>
  some x_2)
set_option maxHeartbeats 4000000 in
set_option maxRecDepth 100000 in
theorem c_X2_wordAt (l : Launch) (D : va_G) (y : Nat → ClassId) (t : Nat → Nat) (q : Nat → Nat) (sz N : Nat) (P : Nat → Nat → Int32) (p1 : Int32) (p2 : Int32) (res : Int32) (h : f_X2_wordAt N P p1 p2 = some res) : Met l yX2_wordAt wsX2_wordAt ({ frames := 5, cells := 0, slots := 0, locals := 109 } : Room) (pPre D y t [.ref (q 0), .int p1, .int p2] (wT y q P) sz) (pQi D y res (wT y q P) (va_A (wT y q P) sz)) 0 0 (va_A (wT y q P) sz) := by
  refine q_start (Qc := (fun A => pQi D y res (wT y q P) A)) (cc := cX2_wordAt) (maxL := 4) (ret := (some .int)) (by decide) rfl (Nat.le_of_ble_eq_true rfl) ?_
  intro p e s m below meth c A ls hx hb hr hts hown hlocks hmn hml hP hK hZ hD hA hS hl
  have hl : lv_has ls 4 [(0, .ref (q 0)), (1, .int p1), (2, .int p2)] := hl
  have hown : s.vm.findClass RX2 = some m.cls := hown
  unfold f_X2_wordAt at h
  refine lv_iconst (v := 0) hx hb dX2_wordAt_0 (by decide) ?_
  refine lv_istore_n (lv' := [(3, .int (0 : Int32)), (0, .ref (q 0)), (1, .int p1), (2, .int p2)]) hx hb dX2_wordAt_1 rfl hl (by decide) rfl (fun ls hl => ?_)
  obtain ⟨x_2, hL1, h⟩ := q_bd_ok h
  have K2_1 : ∀ (H : Heap) (locs : List Loc) (ls : Array Slot), va_P D vwCl (wT y q P) H → va_D A (wT y q P) → va_S A s.heap H locs → lv_has ls 4 [(0, .ref (q 0)), (1, .int p1), (2, .int p2), (3, .int x_2)] → W p l e ({ frames := 5, cells := 0, slots := 0, locals := 109 } : Room) s m ([.ref (q 0), .int p1, .int p2] : List Value).toArray below meth c H locs 0 0 (MQ below (pQi D y res (wT y q P) A) ([.ref (q 0), .int p1, .int p2] : List Value).toArray s 0 0 A) (F0 m 27 ls []) := by
    intro H locs ls hP hD hS hl
    refine lv_iload_n hx hb dX2_wordAt_27 rfl (lv_at hl 3 rfl) ?_
    have e9 := Option.some.inj h
    exact q_iret hx hb hr hlocks hK hP hD hS dX2_wordAt_28 (by first | rw [← e9] | rfl) (by first | rw [← e9] | rfl)
  have L2_1 : ∀ (P : Nat → Nat → Int32) (v1 : Int32) (v2 : Int32) (k : Nat) (v3 : Int32), (∀ (H : Heap) (locs : List Loc) (ls : Array Slot), va_P D vwCl (wT y q P) H → va_D A (wT y q P) → va_S A s.heap H locs → lv_has ls 4 [(0, .ref (q 0)), (1, .int v1), (2, .int v2), (3, .int x_2)] → W p l e ({ frames := 5, cells := 0, slots := 0, locals := 109 } : Room) s m ([.ref (q 0), .int p1, .int p2] : List Value).toArray below meth c H locs 0 0 (MQ below (pQi D y res (wT y q P) A) ([.ref (q 0), .int p1, .int p2] : List Value).toArray s 0 0 A) (F0 m 27 ls [])) → ∀ (H : Heap) (locs : List Loc) (ls : Array Slot), va_P D vwCl (wT y q P) H → va_D A (wT y q P) → va_S A s.heap H locs → lv_has ls 4 [(0, .ref (q 0)), (1, .int v1), (2, .int v2), (3, .int v3)] → f_X2_wordAt_L2 N P v1 v2 k v3 = some x_2 → W p l e ({ frames := 5, cells := 0, slots := 0, locals := 109 } : Room) s m ([.ref (q 0), .int p1, .int p2] : List Value).toArray below meth c H locs 0 0 (MQ below (pQi D y res (wT y q P) A) ([.ref (q 0), .int p1, .int p2] : List Value).toArray s 0 0 A) (F0 m 2 ls []) := by
    intro P v1 v2 k
    induction k with
    | zero =>
      intro v3 K2_1 H locs ls hP hD hS hl h
      have h : (none : Option (Int32)) = some _ := h
      cases h
    | succ k ih2_1 =>
      intro v3 K2_1 H locs ls hP hD hS hl h
      rw [f_X2_wordAt_L2] at h
      refine lv_iload_n hx hb dX2_wordAt_2 rfl (lv_at hl 3 rfl) ?_
      refine lv_bipush (v := 12) hx hb dX2_wordAt_3 (by decide) ?_
      refine lv_icmp_ge (tgt := 27) hx hb dX2_wordAt_5 (by decide) (fun c_3 => ?_) (fun c_3 => ?_)
      · have h := q_t c_3 h
        cases h
        exact K2_1 _ _ _ hP hD hS (lv_sub hl [0, 1, 2, 3] rfl)
      · have h := q_f c_3 h
        refine lv_aload_n hx hb dX2_wordAt_8 rfl (lv_at hl 0 rfl) ?_
        refine lv_iload_n hx hb dX2_wordAt_9 rfl (lv_at hl 3 rfl) ?_
        obtain ⟨r_4, hc_5, h⟩ := q_bd_ok h
        obtain ⟨hs_6, h⟩ := q_lt_ok h
        refine q_cq (r := some (t (2 + r_4))) (va_runS (As := [.int v3]) (rest := [.ref (q 0)]) ⟨hx, hb, hml, hown, hts⟩ (c_X2_wordOf l D y t q _ N v3 r_4 hc_5) (va_cwS 1 hts gX2_wordAt_X2_wordOf rfl rfl rfl eX2_wordOf ⟨Nat.le_of_ble_eq_true rfl, Nat.le_of_ble_eq_true rfl⟩) ⟨q_blind, (q_pre hP hK hZ hD hA hS [] rfl (by decide))⟩ rfl rfl hl.1 rfl (lv_room (Nat.le_of_ble_eq_true rfl)) dX2_wordAt_10 ⟨Nat.zero_le _, Nat.zero_le _⟩) hP hD hA hS [] rfl (by decide) rfl (fun H locs hP hD hS => ?_)
        refine W.eq (g2 := F0 m 13 ls [.ref (t (2 + r_4)), .ref (q 0)]) rfl ?_
        have hP : va_P D vwCl (wT y q P) H := hP
        have hD : va_D A (wT y q P) := hD
        refine lv_iload_n hx hb dX2_wordAt_13 rfl (lv_at hl 1 rfl) ?_
        refine lv_iload_n hx hb dX2_wordAt_14 rfl (lv_at hl 2 rfl) ?_
        obtain ⟨r_7, hc_8, h⟩ := q_bd_ok h
        refine q_ci (r := r_7) (va_runV (As := [.ref (t (2 + r_4)), .int v1, .int v2]) (rest := []) ⟨hx, hb, hml, hown, hts⟩ (c_X2_isSpelt l D y t q _ N P r_4 v1 v2 hs_6 r_7 hc_8) (cwV 3 hts gX2_wordAt_X2_isSpelt rfl rfl rfl eX2_isSpelt ⟨Nat.le_of_ble_eq_true rfl, Nat.le_of_ble_eq_true rfl⟩) ⟨q_blind, (va_recv hK hP (ci := 2) (q0 := 0) rfl rfl), (q_pre hP hK hZ hD hA hS [0, 1, 2, 3, 4] rfl (by decide))⟩ rfl rfl hl.1 rfl (lv_room (Nat.le_of_ble_eq_true rfl)) dX2_wordAt_15 ⟨Nat.zero_le _, Nat.zero_le _⟩) hP hD hA hS [0, 1, 2, 3, 4] rfl (by decide) rfl (fun H locs hP hD hS => ?_)
        have hP : va_P D vwCl (wT y q P) H := hP
        have hD : va_D A (wT y q P) := hD
        refine lv_if_ne (tgt := 27) hx hb dX2_wordAt_18 (by decide) (fun c_9 => ?_) (fun c_9 => ?_)
        · have h := q_f c_9 h
          cases h
          exact K2_1 _ _ _ hP hD hS (lv_sub hl [0, 1, 2, 3] rfl)
        · have h := q_t c_9 h
          obtain ⟨x_10, ex_10, h⟩ := q_let_ok h
          refine lv_iinc (v := x_10) (lv' := [(3, .int x_10), (0, .ref (q 0)), (1, .int v1), (2, .int v2)]) hx hb dX2_wordAt_21 hl (k := 3) rfl (by rw [ex_10]; rfl) (by decide) rfl (fun ls hl => ?_)
          refine lv_goto (tgt := 2) hx hb dX2_wordAt_24 (by decide) ?_
          exact ih2_1 x_10 K2_1 _ _ _ hP hD hS (lv_sub hl [1, 2, 3, 0] rfl) h
  exact L2_1 P p1 p2 N (0 : Int32) K2_1 _ _ _ hP hD hS (lv_sub hl [1, 2, 3, 0] rfl) hL1
theorem eX2_wordAt : yX2_wordAt.cls = RX2 ∧ yX2_wordAt.cls ≠ "java/lang/invoke/MethodHandle" ∧ yX2_wordAt.cls ≠ "java/lang/invoke/VarHandle" ∧ (parseMethodDescriptor yX2_wordAt.desc).map (fun d => d.parameters.length) = some 2 := by decide +kernel
theorem kX2_numberAt_0 : Cond.methodLink RX2 107 Lib.Math.min.name ∈ wsX2_numberAt := List.mem_of_getElem? (i := 2) (by decide +kernel)
theorem kX2_numberAt_1 : Cond.static Lib.Math.min.name ∈ wsX2_numberAt := List.mem_of_getElem? (i := 3) (by decide +kernel)
theorem kX2_numberAt_2 : Cond.initialized "java/lang/Math" ∈ wsX2_numberAt := List.mem_of_getElem? (i := 4) (by decide +kernel)
theorem kX2_numberAt_3 : Cond.code Lib.Math.min.name Lib.Math.min.code 2 (some .int) ∈ wsX2_numberAt := List.mem_of_getElem? (i := 5) (by decide +kernel)
theorem uX2_numberAt_X2 : ∀ w ∈ u_ws RX2 TX2 7, w ∈ wsX2_numberAt := by decide +kernel
theorem kX2_numberAt_5 : Cond.fieldLink RX2 9 "BeamSeats$Tape" "bytes" "[B" ∈ wsX2_numberAt := List.mem_of_getElem? (i := 1) (by decide +kernel)
def f_X2_numberAt_L5 (N : Nat) (P : Nat → Nat → Int32) (v2 : Int32) : Nat → Int32 → Int32 → Option (Int32 × Int32)
  | 0, _, _ => none
  | k + 1, v3, v4 =>
    if v2 ≤ v4 then
      some (v3, v4)
    else
      q_grd v4 120 (
      q_let (if (1000 : Int32) < ((v3 * (10 : Int32)) + ((P 1 v4.toNatClampNeg) - (48 : Int32))) then (1000 : Int32) else ((v3 * (10 : Int32)) + ((P 1 v4.toNatClampNeg) - (48 : Int32)))) (fun x_6 =>
      q_let (v4 + 1) (fun x_7 =>
      f_X2_numberAt_L5 N P v2 k x_6 x_7)))
def f_X2_numberAt (N : Nat) (P : Nat → Nat → Int32) (p1 : Int32) (p2 : Int32) : Option (Int32) :=
  q_bd2 (f_X2_numberAt_L5 N P p2 N (0 : Int32) p1) (fun x_2 x_3 =>
  some x_2)
set_option maxHeartbeats 4000000 in
set_option maxRecDepth 100000 in
theorem c_X2_numberAt (l : Launch) (D : va_G) (y : Nat → ClassId) (t : Nat → Nat) (q : Nat → Nat) (sz N : Nat) (P : Nat → Nat → Int32) (p1 : Int32) (p2 : Int32) (res : Int32) (h : f_X2_numberAt N P p1 p2 = some res) : Met l yX2_numberAt wsX2_numberAt ({ frames := 1, cells := 0, slots := 0, locals := 21 } : Room) (pPre D y t [.ref (q 0), .int p1, .int p2] (wT y q P) sz) (pQi D y res (wT y q P) (va_A (wT y q P) sz)) 0 0 (va_A (wT y q P) sz) := by
  refine q_start (Qc := (fun A => pQi D y res (wT y q P) A)) (cc := cX2_numberAt) (maxL := 5) (ret := (some .int)) (by decide) rfl (Nat.le_of_ble_eq_true rfl) ?_
  intro p e s m below meth c A ls hx hb hr hts hown hlocks hmn hml hP hK hZ hD hA hS hl
  have hl : lv_has ls 5 [(0, .ref (q 0)), (1, .int p1), (2, .int p2)] := hl
  have hown : s.vm.findClass RX2 = some m.cls := hown
  unfold f_X2_numberAt at h
  refine lv_iconst (v := 0) hx hb dX2_numberAt_0 (by decide) ?_
  refine lv_istore_n (lv' := [(3, .int (0 : Int32)), (0, .ref (q 0)), (1, .int p1), (2, .int p2)]) hx hb dX2_numberAt_1 rfl hl (by decide) rfl (fun ls hl => ?_)
  refine lv_iload_n hx hb dX2_numberAt_2 rfl (lv_at hl 2 rfl) ?_
  refine lv_istore (lv' := [(4, .int p1), (3, .int (0 : Int32)), (0, .ref (q 0)), (1, .int p1), (2, .int p2)]) hx hb dX2_numberAt_3 hl (by decide) rfl (fun ls hl => ?_)
  obtain ⟨x_2, x_3, hL1, h⟩ := q_bd2_ok h
  have K5_1 : ∀ (H : Heap) (locs : List Loc) (ls : Array Slot), va_P D vwCl (wT y q P) H → va_D A (wT y q P) → va_S A s.heap H locs → lv_has ls 5 [(0, .ref (q 0)), (2, .int p2), (3, .int x_2), (4, .int x_3)] → W p l e ({ frames := 1, cells := 0, slots := 0, locals := 21 } : Room) s m ([.ref (q 0), .int p1, .int p2] : List Value).toArray below meth c H locs 0 0 (MQ below (pQi D y res (wT y q P) A) ([.ref (q 0), .int p1, .int p2] : List Value).toArray s 0 0 A) (F0 m 39 ls []) := by
    intro H locs ls hP hD hS hl
    refine lv_iload_n hx hb dX2_numberAt_39 rfl (lv_at hl 2 rfl) ?_
    have e9 := Option.some.inj h
    exact q_iret hx hb hr hlocks hK hP hD hS dX2_numberAt_40 (by first | rw [← e9] | rfl) (by first | rw [← e9] | rfl)
  have L5_1 : ∀ (P : Nat → Nat → Int32) (v2 : Int32) (k : Nat) (v3 : Int32) (v4 : Int32), (∀ (H : Heap) (locs : List Loc) (ls : Array Slot), va_P D vwCl (wT y q P) H → va_D A (wT y q P) → va_S A s.heap H locs → lv_has ls 5 [(0, .ref (q 0)), (2, .int v2), (3, .int x_2), (4, .int x_3)] → W p l e ({ frames := 1, cells := 0, slots := 0, locals := 21 } : Room) s m ([.ref (q 0), .int p1, .int p2] : List Value).toArray below meth c H locs 0 0 (MQ below (pQi D y res (wT y q P) A) ([.ref (q 0), .int p1, .int p2] : List Value).toArray s 0 0 A) (F0 m 39 ls [])) → ∀ (H : Heap) (locs : List Loc) (ls : Array Slot), va_P D vwCl (wT y q P) H → va_D A (wT y q P) → va_S A s.heap H locs → lv_has ls 5 [(0, .ref (q 0)), (2, .int v2), (3, .int v3), (4, .int v4)] → f_X2_numberAt_L5 N P v2 k v3 v4 = some (x_2, x_3) → W p l e ({ frames := 1, cells := 0, slots := 0, locals := 21 } : Room) s m ([.ref (q 0), .int p1, .int p2] : List Value).toArray below meth c H locs 0 0 (MQ below (pQi D y res (wT y q P) A) ([.ref (q 0), .int p1, .int p2] : List Value).toArray s 0 0 A) (F0 m 5 ls []) := by
    intro P v2 k
    induction k with
    | zero =>
      intro v3 v4 K5_1 H locs ls hP hD hS hl h
      have h : (none : Option (Int32 × Int32)) = some _ := h
      cases h
    | succ k ih5_1 =>
      intro v3 v4 K5_1 H locs ls hP hD hS hl h
      rw [f_X2_numberAt_L5] at h
      refine lv_iload hx hb dX2_numberAt_5 (lv_at hl 3 rfl) ?_
      refine lv_iload_n hx hb dX2_numberAt_7 rfl (lv_at hl 1 rfl) ?_
      refine lv_icmp_ge (tgt := 39) hx hb dX2_numberAt_8 (by decide) (fun c_4 => ?_) (fun c_4 => ?_)
      · have h := q_t c_4 h
        cases h
        exact K5_1 _ _ _ hP hD hS (lv_sub hl [0, 1, 2, 3] rfl)
      · have h := q_f c_4 h
        refine lv_iload_n hx hb dX2_numberAt_11 rfl (lv_at hl 2 rfl) ?_
        refine lv_bipush (v := 10) hx hb dX2_numberAt_12 (by decide) ?_
        refine lv_imul hx hb dX2_numberAt_14 ?_
        refine lv_aload_n hx hb dX2_numberAt_15 rfl (lv_at hl 0 rfl) ?_
        refine va_get (D := D) (ci := 2) (v := .ref (q 1)) (C := RX2) (T := TX2) (N := 7) hx hb hts uX2_numberAt_X2 hown hK hP 0 rfl rfl 0 (by decide) (hts _ kX2_numberAt_5) (fun _ h9 => h9) rfl dX2_numberAt_16 ?_
        refine lv_iload hx hb dX2_numberAt_19 (lv_at hl 3 rfl) ?_
        obtain ⟨z_5, h⟩ := q_grd_ok h
        refine va_bald hx hb hK hP 1 1 rfl rfl z_5 dX2_numberAt_21 ?_
        refine lv_bipush (v := 48) hx hb dX2_numberAt_22 (by decide) ?_
        refine lv_isub hx hb dX2_numberAt_24 ?_
        refine lv_iadd hx hb dX2_numberAt_25 ?_
        refine lv_sipush (v := 1000) hx hb dX2_numberAt_26 (by decide) ?_
        refine va_mmin hx hb (hml.trans hl.1.symm) hown (hts _ kX2_numberAt_0) (hts _ kX2_numberAt_1) (hts _ kX2_numberAt_2) (hts _ kX2_numberAt_3) (Nat.le_of_ble_eq_true rfl) (Nat.le_of_ble_eq_true rfl) (Nat.zero_le _) (Nat.zero_le _) dX2_numberAt_29 ?_
        refine lv_topi (fun x_6 ex_6 => ?_)
        have h := q_let_at ex_6 h
        refine lv_istore_n (lv' := [(3, .int x_6), (0, .ref (q 0)), (2, .int v2), (4, .int v4)]) hx hb dX2_numberAt_32 rfl hl (by decide) rfl (fun ls hl => ?_)
        obtain ⟨x_7, ex_7, h⟩ := q_let_ok h
        refine lv_iinc (v := x_7) (lv' := [(4, .int x_7), (3, .int x_6), (0, .ref (q 0)), (2, .int v2)]) hx hb dX2_numberAt_33 hl (k := 3) rfl (by rw [ex_7]; rfl) (by decide) rfl (fun ls hl => ?_)
        refine lv_goto (tgt := 5) hx hb dX2_numberAt_36 (by decide) ?_
        exact ih5_1 x_6 x_7 K5_1 _ _ _ hP hD hS (lv_sub hl [2, 3, 1, 0] rfl) h
  exact L5_1 P p2 N (0 : Int32) p1 K5_1 _ _ _ hP hD hS (lv_sub hl [2, 4, 1, 0] rfl) hL1
theorem eX2_numberAt : yX2_numberAt.cls = RX2 ∧ yX2_numberAt.cls ≠ "java/lang/invoke/MethodHandle" ∧ yX2_numberAt.cls ≠ "java/lang/invoke/VarHandle" ∧ (parseMethodDescriptor yX2_numberAt.desc).map (fun d => d.parameters.length) = some 2 := by decide +kernel
theorem uX2_cutToken_X2 : ∀ w ∈ u_ws RX2 TX2 7, w ∈ wsX2_cutToken := by decide +kernel
theorem kX2_cutToken_1 : Cond.fieldLink RX2 9 "BeamSeats$Tape" "bytes" "[B" ∈ wsX2_cutToken := List.mem_of_getElem? (i := 2) (by decide +kernel)
theorem kX2_cutToken_2 : Cond.fieldLink RX2 19 "BeamSeats$Tape" "tokens" "[I" ∈ wsX2_cutToken := List.mem_of_getElem? (i := 4) (by decide +kernel)
theorem kX2_cutToken_3 : Cond.fieldLink RX2 15 "BeamSeats$Tape" "size" "I" ∈ wsX2_cutToken := List.mem_of_getElem? (i := 3) (by decide +kernel)
theorem kX2_cutToken_4 : Cond.fieldLink RX2 26 "BeamSeats$Tape" "values" "[I" ∈ wsX2_cutToken := List.mem_of_getElem? (i := 5) (by decide +kernel)
theorem kX2_cutToken_5 : Cond.fieldLink RX2 23 "BeamSeats$Tape" "starts" "[I" ∈ wsX2_cutToken := List.mem_of_getElem? (i := 1) (by decide +kernel)
def f_X2_cutToken_L83 (N : Nat) (P : Nat → Nat → Int32) (v1 : Int32) (v2 : Int32) : Nat → Int32 → Option (Int32)
  | 0, _ => none
  | k + 1, v3 =>
    if (P 0 0) ≤ v3 then
      some v3
    else
      q_grd v3 120 (
      q_bd (f_X2_isDigit N (P 1 v3.toNatClampNeg)) (fun r_22 =>
      if r_22 = 0 then
        some v3
      else
        q_let (v3 + 1) (fun x_25 =>
        f_X2_cutToken_L83 N P v1 v2 k x_25)))
def f_X2_cutToken_B109 (N : Nat) (P : Nat → Nat → Int32) (v1 : Int32) (v2 : Int32) (v3 : Int32) : Option (Int32 × (Nat → Nat → Int32)) :=
  q_grd v1 121 (
  q_let (q_up P 2 v1.toNatClampNeg (2 : Int32)) (fun P_27 =>
  q_bd (f_X2_numberAt N P_27 v2 v3) (fun r_28 =>
  q_grd v1 121 (
  q_let (q_up P_27 4 v1.toNatClampNeg r_28) (fun P_31 =>
  some (v3, P_31))))))
def f_X2_cutToken_L23 (N : Nat) (P : Nat → Nat → Int32) (v1 : Int32) (v2 : Int32) : Nat → Int32 → Option (Int32)
  | 0, _ => none
  | k + 1, v3 =>
    if (P 0 0) ≤ v3 then
      some v3
    else
      q_grd v3 120 (
      q_bd (f_X2_isLetter N (P 1 v3.toNatClampNeg)) (fun r_36 =>
      if r_36 = 0 then
        some v3
      else
        q_let (v3 + 1) (fun x_39 =>
        f_X2_cutToken_L23 N P v1 v2 k x_39)))
def f_X2_cutToken_B49 (N : Nat) (P : Nat → Nat → Int32) (v1 : Int32) (v2 : Int32) (v3 : Int32) : Option (Int32 × (Nat → Nat → Int32)) :=
  q_grd v1 121 (
  q_let (q_up P 2 v1.toNatClampNeg (1 : Int32)) (fun P_41 =>
  q_bd (f_X2_wordAt N P_41 v2 v3) (fun r_42 =>
  q_grd v1 121 (
  q_let (q_up P_41 4 v1.toNatClampNeg r_42) (fun P_45 =>
  some (v3, P_45))))))
def f_X2_cutToken (N : Nat) (P : Nat → Nat → Int32) (p1 : Int32) (p2 : Int32) : Option (Int32 × (Nat → Nat → Int32)) :=
  q_let (p2 + (1 : Int32)) (fun x_1 =>
  q_grd p1 121 (
  q_let (q_up P 3 p1.toNatClampNeg p2) (fun P_3 =>
  q_grd p2 120 (
  q_bd (f_X2_isLetter N (P_3 1 p2.toNatClampNeg)) (fun r_5 =>
  if r_5 = 0 then
    q_grd p2 120 (
    q_bd (f_X2_isDigit N (P_3 1 p2.toNatClampNeg)) (fun r_9 =>
    if r_9 = 0 then
      q_grd p2 120 (
      if (P_3 1 p2.toNatClampNeg) = (59 : Int32) then
        q_grd p1 121 (
        q_let (q_up P_3 2 p1.toNatClampNeg (3 : Int32)) (fun P_17 =>
        some (x_1, P_17)))
      else
        q_grd p1 121 (
        q_let (q_up P_3 2 p1.toNatClampNeg (4 : Int32)) (fun P_15 =>
        some (x_1, P_15))))
    else
      q_bd (f_X2_cutToken_L83 N P_3 p1 p2 N x_1) (fun x_19 =>
      f_X2_cutToken_B109 N P_3 p1 p2 x_19)))
  else
    q_bd (f_X2_cutToken_L23 N P_3 p1 p2 N x_1) (fun x_33 =>
    f_X2_cutToken_B49 N P_3 p1 p2 x_33))))))
set_option maxHeartbeats 4000000 in
set_option maxRecDepth 100000 in
theorem c_X2_cutToken (l : Launch) (D : va_G) (y : Nat → ClassId) (t : Nat → Nat) (q : Nat → Nat) (sz N : Nat) (P : Nat → Nat → Int32) (p1 : Int32) (p2 : Int32) (res : Int32 × (Nat → Nat → Int32)) (h : f_X2_cutToken N P p1 p2 = some res) : Met l yX2_cutToken wsX2_cutToken ({ frames := 6, cells := 0, slots := 0, locals := 132 } : Room) (pPre D y t [.ref (q 0), .int p1, .int p2] (wT y q P) sz) (pQi D y (res.1) (wT y q (res.2)) (va_A (wT y q P) sz)) 0 0 (va_A (wT y q P) sz) := by
  refine q_start (Qc := (fun A => pQi D y (res.1) (wT y q (res.2)) A)) (cc := cX2_cutToken) (maxL := 4) (ret := (some .int)) (by decide) rfl (Nat.le_of_ble_eq_true rfl) ?_
  intro p e s m below meth c A ls hx hb hr hts hown hlocks hmn hml hP hK hZ hD hA hS hl
  have hl : lv_has ls 4 [(0, .ref (q 0)), (1, .int p1), (2, .int p2)] := hl
  have hown : s.vm.findClass RX2 = some m.cls := hown
  have B109 : ∀ (P : Nat → Nat → Int32) (v1 : Int32) (v2 : Int32) (v3 : Int32) (H : Heap) (locs : List Loc) (ls : Array Slot), va_P D vwCl (wT y q P) H → va_D A (wT y q P) → va_S A s.heap H locs → lv_has ls 4 [(0, .ref (q 0)), (1, .int v1), (2, .int v2), (3, .int v3)] → f_X2_cutToken_B109 N P v1 v2 v3 = some res → W p l e ({ frames := 6, cells := 0, slots := 0, locals := 132 } : Room) s m ([.ref (q 0), .int p1, .int p2] : List Value).toArray below meth c H locs 0 0 (MQ below (pQi D y (res.1) (wT y q (res.2)) A) ([.ref (q 0), .int p1, .int p2] : List Value).toArray s 0 0 A) (F0 m 109 ls []) := by
    intro P v1 v2 v3 H locs ls hP hD hS hl h
    unfold f_X2_cutToken_B109 at h
    refine lv_aload_n hx hb dX2_cutToken_109 rfl (lv_at hl 0 rfl) ?_
    refine va_get (D := D) (ci := 2) (v := .ref (q 2)) (C := RX2) (T := TX2) (N := 7) hx hb hts uX2_cutToken_X2 hown hK hP 0 rfl rfl 2 (by decide) (hts _ kX2_cutToken_2) (fun _ h9 => h9) rfl dX2_cutToken_110 ?_
    refine lv_iload_n hx hb dX2_cutToken_113 rfl (lv_at hl 1 rfl) ?_
    refine lv_iconst (v := 2) hx hb dX2_cutToken_114 (by decide) ?_
    obtain ⟨z_26, h⟩ := q_grd_ok h
    obtain ⟨P_27, eP_27, h⟩ := q_let_ok h
    refine va_iast hx hb hK hP hD hS 2 0 rfl rfl z_26 dX2_cutToken_115 (fun H locs hP hD hS => ?_)
    have hP : va_P D vwCl (wT y q P_27) H := by rw [eP_27]; exact hP
    have hD : va_D A (wT y q P_27) := by rw [eP_27]; exact hD
    refine lv_aload_n hx hb dX2_cutToken_116 rfl (lv_at hl 0 rfl) ?_
    refine va_get (D := D) (ci := 2) (v := .ref (q 4)) (C := RX2) (T := TX2) (N := 7) hx hb hts uX2_cutToken_X2 hown hK hP 0 rfl rfl 4 (by decide) (hts _ kX2_cutToken_4) (fun _ h9 => h9) rfl dX2_cutToken_117 ?_
    refine lv_iload_n hx hb dX2_cutToken_120 rfl (lv_at hl 1 rfl) ?_
    refine lv_aload_n hx hb dX2_cutToken_121 rfl (lv_at hl 0 rfl) ?_
    refine lv_iload_n hx hb dX2_cutToken_122 rfl (lv_at hl 2 rfl) ?_
    refine lv_iload_n hx hb dX2_cutToken_123 rfl (lv_at hl 3 rfl) ?_
    obtain ⟨r_28, hc_29, h⟩ := q_bd_ok h
    refine q_ci (r := r_28) (va_runV (As := [.int v2, .int v3]) (rest := [.int v1, .ref (q 4)]) ⟨hx, hb, hml, hown, hts⟩ (c_X2_numberAt l D y t q _ N P_27 v2 v3 r_28 hc_29) (cwV 2 hts gX2_cutToken_X2_numberAt rfl rfl rfl eX2_numberAt ⟨Nat.le_of_ble_eq_true rfl, Nat.le_of_ble_eq_true rfl⟩) ⟨q_blind, (va_recv hK hP (ci := 2) (q0 := 0) rfl rfl), (q_pre hP hK hZ hD hA hS [0, 1, 2, 3, 4] rfl (by decide))⟩ rfl rfl hl.1 rfl (lv_room (Nat.le_of_ble_eq_true rfl)) dX2_cutToken_124 ⟨Nat.zero_le _, Nat.zero_le _⟩) hP hD hA hS [0, 1, 2, 3, 4] rfl (by decide) rfl (fun H locs hP hD hS => ?_)
    have hP : va_P D vwCl (wT y q P_27) H := hP
    have hD : va_D A (wT y q P_27) := hD
    obtain ⟨z_30, h⟩ := q_grd_ok h
    obtain ⟨P_31, eP_31, h⟩ := q_let_ok h
    refine va_iast hx hb hK hP hD hS 4 0 rfl rfl z_30 dX2_cutToken_127 (fun H locs hP hD hS => ?_)
    have hP : va_P D vwCl (wT y q P_31) H := by rw [eP_31]; exact hP
    have hD : va_D A (wT y q P_31) := by rw [eP_31]; exact hD
    refine lv_goto (tgt := 153) hx hb dX2_cutToken_128 (by decide) ?_
    refine lv_iload_n hx hb dX2_cutToken_153 rfl (lv_at hl 3 rfl) ?_
    have e9 := Option.some.inj h
    exact q_iret hx hb hr hlocks hK hP hD hS dX2_cutToken_154 (by first | rw [← e9] | rfl) (by first | rw [← e9] | rfl)
  have B49 : ∀ (P : Nat → Nat → Int32) (v1 : Int32) (v2 : Int32) (v3 : Int32) (H : Heap) (locs : List Loc) (ls : Array Slot), va_P D vwCl (wT y q P) H → va_D A (wT y q P) → va_S A s.heap H locs → lv_has ls 4 [(0, .ref (q 0)), (1, .int v1), (2, .int v2), (3, .int v3)] → f_X2_cutToken_B49 N P v1 v2 v3 = some res → W p l e ({ frames := 6, cells := 0, slots := 0, locals := 132 } : Room) s m ([.ref (q 0), .int p1, .int p2] : List Value).toArray below meth c H locs 0 0 (MQ below (pQi D y (res.1) (wT y q (res.2)) A) ([.ref (q 0), .int p1, .int p2] : List Value).toArray s 0 0 A) (F0 m 49 ls []) := by
    intro P v1 v2 v3 H locs ls hP hD hS hl h
    unfold f_X2_cutToken_B49 at h
    refine lv_aload_n hx hb dX2_cutToken_49 rfl (lv_at hl 0 rfl) ?_
    refine va_get (D := D) (ci := 2) (v := .ref (q 2)) (C := RX2) (T := TX2) (N := 7) hx hb hts uX2_cutToken_X2 hown hK hP 0 rfl rfl 2 (by decide) (hts _ kX2_cutToken_2) (fun _ h9 => h9) rfl dX2_cutToken_50 ?_
    refine lv_iload_n hx hb dX2_cutToken_53 rfl (lv_at hl 1 rfl) ?_
    refine lv_iconst (v := 1) hx hb dX2_cutToken_54 (by decide) ?_
    obtain ⟨z_40, h⟩ := q_grd_ok h
    obtain ⟨P_41, eP_41, h⟩ := q_let_ok h
    refine va_iast hx hb hK hP hD hS 2 0 rfl rfl z_40 dX2_cutToken_55 (fun H locs hP hD hS => ?_)
    have hP : va_P D vwCl (wT y q P_41) H := by rw [eP_41]; exact hP
    have hD : va_D A (wT y q P_41) := by rw [eP_41]; exact hD
    refine lv_aload_n hx hb dX2_cutToken_56 rfl (lv_at hl 0 rfl) ?_
    refine va_get (D := D) (ci := 2) (v := .ref (q 4)) (C := RX2) (T := TX2) (N := 7) hx hb hts uX2_cutToken_X2 hown hK hP 0 rfl rfl 4 (by decide) (hts _ kX2_cutToken_4) (fun _ h9 => h9) rfl dX2_cutToken_57 ?_
    refine lv_iload_n hx hb dX2_cutToken_60 rfl (lv_at hl 1 rfl) ?_
    refine lv_aload_n hx hb dX2_cutToken_61 rfl (lv_at hl 0 rfl) ?_
    refine lv_iload_n hx hb dX2_cutToken_62 rfl (lv_at hl 2 rfl) ?_
    refine lv_iload_n hx hb dX2_cutToken_63 rfl (lv_at hl 3 rfl) ?_
    obtain ⟨r_42, hc_43, h⟩ := q_bd_ok h
    refine q_ci (r := r_42) (va_runV (As := [.int v2, .int v3]) (rest := [.int v1, .ref (q 4)]) ⟨hx, hb, hml, hown, hts⟩ (c_X2_wordAt l D y t q _ N P_41 v2 v3 r_42 hc_43) (cwV 2 hts gX2_cutToken_X2_wordAt rfl rfl rfl eX2_wordAt ⟨Nat.le_of_ble_eq_true rfl, Nat.le_of_ble_eq_true rfl⟩) ⟨q_blind, (va_recv hK hP (ci := 2) (q0 := 0) rfl rfl), (q_pre hP hK hZ hD hA hS [0, 1, 2, 3, 4] rfl (by decide))⟩ rfl rfl hl.1 rfl (lv_room (Nat.le_of_ble_eq_true rfl)) dX2_cutToken_64 ⟨Nat.zero_le _, Nat.zero_le _⟩) hP hD hA hS [0, 1, 2, 3, 4] rfl (by decide) rfl (fun H locs hP hD hS => ?_)
    have hP : va_P D vwCl (wT y q P_41) H := hP
    have hD : va_D A (wT y q P_41) := hD
    obtain ⟨z_44, h⟩ := q_grd_ok h
    obtain ⟨P_45, eP_45, h⟩ := q_let_ok h
    refine va_iast hx hb hK hP hD hS 4 0 rfl rfl z_44 dX2_cutToken_67 (fun H locs hP hD hS => ?_)
    have hP : va_P D vwCl (wT y q P_45) H := by rw [eP_45]; exact hP
    have hD : va_D A (wT y q P_45) := by rw [eP_45]; exact hD
    refine lv_goto (tgt := 153) hx hb dX2_cutToken_68 (by decide) ?_
    refine lv_iload_n hx hb dX2_cutToken_153 rfl (lv_at hl 3 rfl) ?_
    have e9 := Option.some.inj h
    exact q_iret hx hb hr hlocks hK hP hD hS dX2_cutToken_154 (by first | rw [← e9] | rfl) (by first | rw [← e9] | rfl)
  unfold f_X2_cutToken at h
  refine lv_iload_n hx hb dX2_cutToken_0 rfl (lv_at hl 2 rfl) ?_
  refine lv_iconst (v := 1) hx hb dX2_cutToken_1 (by decide) ?_
  refine lv_iadd hx hb dX2_cutToken_2 ?_
  refine lv_topi (fun x_1 ex_1 => ?_)
  have h := q_let_at ex_1 h
  refine lv_istore_n (lv' := [(3, .int x_1), (0, .ref (q 0)), (1, .int p1), (2, .int p2)]) hx hb dX2_cutToken_3 rfl hl (by decide) rfl (fun ls hl => ?_)
  refine lv_aload_n hx hb dX2_cutToken_4 rfl (lv_at hl 1 rfl) ?_
  refine va_get (D := D) (ci := 2) (v := .ref (q 3)) (C := RX2) (T := TX2) (N := 7) hx hb hts uX2_cutToken_X2 hown hK hP 0 rfl rfl 3 (by decide) (hts _ kX2_cutToken_5) (fun _ h9 => h9) rfl dX2_cutToken_5 ?_
  refine lv_iload_n hx hb dX2_cutToken_8 rfl (lv_at hl 2 rfl) ?_
  refine lv_iload_n hx hb dX2_cutToken_9 rfl (lv_at hl 3 rfl) ?_
  obtain ⟨z_2, h⟩ := q_grd_ok h
  obtain ⟨P_3, eP_3, h⟩ := q_let_ok h
  refine va_iast hx hb hK hP hD hS 3 0 rfl rfl z_2 dX2_cutToken_10 (fun H locs hP hD hS => ?_)
  have hP : va_P D vwCl (wT y q P_3) H := by rw [eP_3]; exact hP
  have hD : va_D A (wT y q P_3) := by rw [eP_3]; exact hD
  refine lv_aload_n hx hb dX2_cutToken_11 rfl (lv_at hl 1 rfl) ?_
  refine va_get (D := D) (ci := 2) (v := .ref (q 1)) (C := RX2) (T := TX2) (N := 7) hx hb hts uX2_cutToken_X2 hown hK hP 0 rfl rfl 0 (by decide) (hts _ kX2_cutToken_1) (fun _ h9 => h9) rfl dX2_cutToken_12 ?_
  refine lv_iload_n hx hb dX2_cutToken_15 rfl (lv_at hl 3 rfl) ?_
  obtain ⟨z_4, h⟩ := q_grd_ok h
  refine va_bald hx hb hK hP 1 1 rfl rfl z_4 dX2_cutToken_16 ?_
  obtain ⟨r_5, hc_6, h⟩ := q_bd_ok h
  refine q_ci (r := r_5) (va_runS (As := [.int (P_3 1 p2.toNatClampNeg)]) (rest := []) ⟨hx, hb, hml, hown, hts⟩ (c_X2_isLetter l D y t q _ N (P_3 1 p2.toNatClampNeg) r_5 hc_6) (va_cwS 1 hts gX2_cutToken_X2_isLetter rfl rfl rfl eX2_isLetter ⟨Nat.le_of_ble_eq_true rfl, Nat.le_of_ble_eq_true rfl⟩) ⟨q_blind, (q_pre hP hK hZ hD hA hS [] rfl (by decide))⟩ rfl rfl hl.1 rfl (lv_room (Nat.le_of_ble_eq_true rfl)) dX2_cutToken_17 ⟨Nat.zero_le _, Nat.zero_le _⟩) hP hD hA hS [] rfl (by decide) rfl (fun H locs hP hD hS => ?_)
  have hP : va_P D vwCl (wT y q P_3) H := hP
  have hD : va_D A (wT y q P_3) := hD
  refine lv_if_eq (tgt := 71) hx hb dX2_cutToken_20 (by decide) (fun c_7 => ?_) (fun c_7 => ?_)
  · have h := q_t c_7 h
    refine lv_aload_n hx hb dX2_cutToken_71 rfl (lv_at hl 1 rfl) ?_
    refine va_get (D := D) (ci := 2) (v := .ref (q 1)) (C := RX2) (T := TX2) (N := 7) hx hb hts uX2_cutToken_X2 hown hK hP 0 rfl rfl 0 (by decide) (hts _ kX2_cutToken_1) (fun _ h9 => h9) rfl dX2_cutToken_72 ?_
    refine lv_iload_n hx hb dX2_cutToken_75 rfl (lv_at hl 3 rfl) ?_
    obtain ⟨z_8, h⟩ := q_grd_ok h
    refine va_bald hx hb hK hP 1 1 rfl rfl z_8 dX2_cutToken_76 ?_
    obtain ⟨r_9, hc_10, h⟩ := q_bd_ok h
    refine q_ci (r := r_9) (va_runS (As := [.int (P_3 1 p2.toNatClampNeg)]) (rest := []) ⟨hx, hb, hml, hown, hts⟩ (c_X2_isDigit l D y t q _ N (P_3 1 p2.toNatClampNeg) r_9 hc_10) (va_cwS 1 hts gX2_cutToken_X2_isDigit rfl rfl rfl eX2_isDigit ⟨Nat.le_of_ble_eq_true rfl, Nat.le_of_ble_eq_true rfl⟩) ⟨q_blind, (q_pre hP hK hZ hD hA hS [] rfl (by decide))⟩ rfl rfl hl.1 rfl (lv_room (Nat.le_of_ble_eq_true rfl)) dX2_cutToken_77 ⟨Nat.zero_le _, Nat.zero_le _⟩) hP hD hA hS [] rfl (by decide) rfl (fun H locs hP hD hS => ?_)
    have hP : va_P D vwCl (wT y q P_3) H := hP
    have hD : va_D A (wT y q P_3) := hD
    refine lv_if_eq (tgt := 131) hx hb dX2_cutToken_80 (by decide) (fun c_11 => ?_) (fun c_11 => ?_)
    · have h := q_t c_11 h
      refine lv_aload_n hx hb dX2_cutToken_131 rfl (lv_at hl 1 rfl) ?_
      refine va_get (D := D) (ci := 2) (v := .ref (q 2)) (C := RX2) (T := TX2) (N := 7) hx hb hts uX2_cutToken_X2 hown hK hP 0 rfl rfl 2 (by decide) (hts _ kX2_cutToken_2) (fun _ h9 => h9) rfl dX2_cutToken_132 ?_
      refine lv_iload_n hx hb dX2_cutToken_135 rfl (lv_at hl 2 rfl) ?_
      refine lv_aload_n hx hb dX2_cutToken_136 rfl (lv_at hl 1 rfl) ?_
      refine va_get (D := D) (ci := 2) (v := .ref (q 1)) (C := RX2) (T := TX2) (N := 7) hx hb hts uX2_cutToken_X2 hown hK hP 0 rfl rfl 0 (by decide) (hts _ kX2_cutToken_1) (fun _ h9 => h9) rfl dX2_cutToken_137 ?_
      refine lv_iload_n hx hb dX2_cutToken_140 rfl (lv_at hl 3 rfl) ?_
      obtain ⟨z_12, h⟩ := q_grd_ok h
      refine va_bald hx hb hK hP 1 1 rfl rfl z_12 dX2_cutToken_141 ?_
      refine lv_bipush (v := 59) hx hb dX2_cutToken_142 (by decide) ?_
      refine lv_icmp_ne (tgt := 151) hx hb dX2_cutToken_144 (by decide) (fun c_13 => ?_) (fun c_13 => ?_)
      · have h := q_f c_13 h
        refine lv_iconst (v := 4) hx hb dX2_cutToken_151 (by decide) ?_
        obtain ⟨z_14, h⟩ := q_grd_ok h
        obtain ⟨P_15, eP_15, h⟩ := q_let_ok h
        refine va_iast hx hb hK hP hD hS 2 0 rfl rfl z_14 dX2_cutToken_152 (fun H locs hP hD hS => ?_)
        have hP : va_P D vwCl (wT y q P_15) H := by rw [eP_15]; exact hP
        have hD : va_D A (wT y q P_15) := by rw [eP_15]; exact hD
        refine lv_iload_n hx hb dX2_cutToken_153 rfl (lv_at hl 0 rfl) ?_
        have e9 := Option.some.inj h
        exact q_iret hx hb hr hlocks hK hP hD hS dX2_cutToken_154 (by first | rw [← e9] | rfl) (by first | rw [← e9] | rfl)
      · have h := q_t c_13 h
        refine lv_iconst (v := 3) hx hb dX2_cutToken_147 (by decide) ?_
        refine lv_goto (tgt := 152) hx hb dX2_cutToken_148 (by decide) ?_
        obtain ⟨z_16, h⟩ := q_grd_ok h
        obtain ⟨P_17, eP_17, h⟩ := q_let_ok h
        refine va_iast hx hb hK hP hD hS 2 0 rfl rfl z_16 dX2_cutToken_152 (fun H locs hP hD hS => ?_)
        have hP : va_P D vwCl (wT y q P_17) H := by rw [eP_17]; exact hP
        have hD : va_D A (wT y q P_17) := by rw [eP_17]; exact hD
        refine lv_iload_n hx hb dX2_cutToken_153 rfl (lv_at hl 0 rfl) ?_
        have e9 := Option.some.inj h
        exact q_iret hx hb hr hlocks hK hP hD hS dX2_cutToken_154 (by first | rw [← e9] | rfl) (by first | rw [← e9] | rfl)
    · have h := q_f c_11 h
      obtain ⟨x_19, hL18, h⟩ := q_bd_ok h
      have K83_18 : ∀ (H : Heap) (locs : List Loc) (ls : Array Slot), va_P D vwCl (wT y q P_3) H → va_D A (wT y q P_3) → va_S A s.heap H locs → lv_has ls 4 [(0, .ref (q 0)), (1, .int p1), (2, .int p2), (3, .int x_19)] → W p l e ({ frames := 6, cells := 0, slots := 0, locals := 132 } : Room) s m ([.ref (q 0), .int p1, .int p2] : List Value).toArray below meth c H locs 0 0 (MQ below (pQi D y (res.1) (wT y q (res.2)) A) ([.ref (q 0), .int p1, .int p2] : List Value).toArray s 0 0 A) (F0 m 109 ls []) := by
        intro H locs ls hP hD hS hl
        exact B109 P_3 p1 p2 x_19 _ _ _ hP hD hS (lv_sub hl [0, 1, 2, 3] rfl) h
      have L83_18 : ∀ (P : Nat → Nat → Int32) (v1 : Int32) (v2 : Int32) (k : Nat) (v3 : Int32), (∀ (H : Heap) (locs : List Loc) (ls : Array Slot), va_P D vwCl (wT y q P) H → va_D A (wT y q P) → va_S A s.heap H locs → lv_has ls 4 [(0, .ref (q 0)), (1, .int v1), (2, .int v2), (3, .int x_19)] → W p l e ({ frames := 6, cells := 0, slots := 0, locals := 132 } : Room) s m ([.ref (q 0), .int p1, .int p2] : List Value).toArray below meth c H locs 0 0 (MQ below (pQi D y (res.1) (wT y q (res.2)) A) ([.ref (q 0), .int p1, .int p2] : List Value).toArray s 0 0 A) (F0 m 109 ls [])) → ∀ (H : Heap) (locs : List Loc) (ls : Array Slot), va_P D vwCl (wT y q P) H → va_D A (wT y q P) → va_S A s.heap H locs → lv_has ls 4 [(0, .ref (q 0)), (1, .int v1), (2, .int v2), (3, .int v3)] → f_X2_cutToken_L83 N P v1 v2 k v3 = some x_19 → W p l e ({ frames := 6, cells := 0, slots := 0, locals := 132 } : Room) s m ([.ref (q 0), .int p1, .int p2] : List Value).toArray below meth c H locs 0 0 (MQ below (pQi D y (res.1) (wT y q (res.2)) A) ([.ref (q 0), .int p1, .int p2] : List Value).toArray s 0 0 A) (F0 m 83 ls []) := by
        intro P v1 v2 k
        induction k with
        | zero =>
          intro v3 K83_18 H locs ls hP hD hS hl h
          have h : (none : Option (Int32)) = some _ := h
          cases h
        | succ k ih83_18 =>
          intro v3 K83_18 H locs ls hP hD hS hl h
          rw [f_X2_cutToken_L83] at h
          refine lv_iload_n hx hb dX2_cutToken_83 rfl (lv_at hl 3 rfl) ?_
          refine lv_aload_n hx hb dX2_cutToken_84 rfl (lv_at hl 0 rfl) ?_
          refine va_get (D := D) (ci := 2) (v := .int (P 0 0)) (C := RX2) (T := TX2) (N := 7) hx hb hts uX2_cutToken_X2 hown hK hP 0 rfl rfl 1 (by decide) (hts _ kX2_cutToken_3) (fun _ h9 => h9) rfl dX2_cutToken_85 ?_
          refine lv_icmp_ge (tgt := 109) hx hb dX2_cutToken_88 (by decide) (fun c_20 => ?_) (fun c_20 => ?_)
          · have h := q_t c_20 h
            cases h
            exact K83_18 _ _ _ hP hD hS (lv_sub hl [0, 1, 2, 3] rfl)
          · have h := q_f c_20 h
            refine lv_aload_n hx hb dX2_cutToken_91 rfl (lv_at hl 0 rfl) ?_
            refine va_get (D := D) (ci := 2) (v := .ref (q 1)) (C := RX2) (T := TX2) (N := 7) hx hb hts uX2_cutToken_X2 hown hK hP 0 rfl rfl 0 (by decide) (hts _ kX2_cutToken_1) (fun _ h9 => h9) rfl dX2_cutToken_92 ?_
            refine lv_iload_n hx hb dX2_cutToken_95 rfl (lv_at hl 3 rfl) ?_
            obtain ⟨z_21, h⟩ := q_grd_ok h
            refine va_bald hx hb hK hP 1 1 rfl rfl z_21 dX2_cutToken_96 ?_
            obtain ⟨r_22, hc_23, h⟩ := q_bd_ok h
            refine q_ci (r := r_22) (va_runS (As := [.int (P 1 v3.toNatClampNeg)]) (rest := []) ⟨hx, hb, hml, hown, hts⟩ (c_X2_isDigit l D y t q _ N (P 1 v3.toNatClampNeg) r_22 hc_23) (va_cwS 1 hts gX2_cutToken_X2_isDigit rfl rfl rfl eX2_isDigit ⟨Nat.le_of_ble_eq_true rfl, Nat.le_of_ble_eq_true rfl⟩) ⟨q_blind, (q_pre hP hK hZ hD hA hS [] rfl (by decide))⟩ rfl rfl hl.1 rfl (lv_room (Nat.le_of_ble_eq_true rfl)) dX2_cutToken_97 ⟨Nat.zero_le _, Nat.zero_le _⟩) hP hD hA hS [] rfl (by decide) rfl (fun H locs hP hD hS => ?_)
            have hP : va_P D vwCl (wT y q P) H := hP
            have hD : va_D A (wT y q P) := hD
            refine lv_if_eq (tgt := 109) hx hb dX2_cutToken_100 (by decide) (fun c_24 => ?_) (fun c_24 => ?_)
            · have h := q_t c_24 h
              cases h
              exact K83_18 _ _ _ hP hD hS (lv_sub hl [0, 1, 2, 3] rfl)
            · have h := q_f c_24 h
              obtain ⟨x_25, ex_25, h⟩ := q_let_ok h
              refine lv_iinc (v := x_25) (lv' := [(3, .int x_25), (0, .ref (q 0)), (1, .int v1), (2, .int v2)]) hx hb dX2_cutToken_103 hl (k := 3) rfl (by rw [ex_25]; rfl) (by decide) rfl (fun ls hl => ?_)
              refine lv_goto (tgt := 83) hx hb dX2_cutToken_106 (by decide) ?_
              exact ih83_18 x_25 K83_18 _ _ _ hP hD hS (lv_sub hl [1, 2, 3, 0] rfl) h
      exact L83_18 P_3 p1 p2 N x_1 K83_18 _ _ _ hP hD hS (lv_sub hl [1, 2, 3, 0] rfl) hL18
  · have h := q_f c_7 h
    obtain ⟨x_33, hL32, h⟩ := q_bd_ok h
    have K23_32 : ∀ (H : Heap) (locs : List Loc) (ls : Array Slot), va_P D vwCl (wT y q P_3) H → va_D A (wT y q P_3) → va_S A s.heap H locs → lv_has ls 4 [(0, .ref (q 0)), (1, .int p1), (2, .int p2), (3, .int x_33)] → W p l e ({ frames := 6, cells := 0, slots := 0, locals := 132 } : Room) s m ([.ref (q 0), .int p1, .int p2] : List Value).toArray below meth c H locs 0 0 (MQ below (pQi D y (res.1) (wT y q (res.2)) A) ([.ref (q 0), .int p1, .int p2] : List Value).toArray s 0 0 A) (F0 m 49 ls []) := by
      intro H locs ls hP hD hS hl
      exact B49 P_3 p1 p2 x_33 _ _ _ hP hD hS (lv_sub hl [0, 1, 2, 3] rfl) h
    have L23_32 : ∀ (P : Nat → Nat → Int32) (v1 : Int32) (v2 : Int32) (k : Nat) (v3 : Int32), (∀ (H : Heap) (locs : List Loc) (ls : Array Slot), va_P D vwCl (wT y q P) H → va_D A (wT y q P) → va_S A s.heap H locs → lv_has ls 4 [(0, .ref (q 0)), (1, .int v1), (2, .int v2), (3, .int x_33)] → W p l e ({ frames := 6, cells := 0, slots := 0, locals := 132 } : Room) s m ([.ref (q 0), .int p1, .int p2] : List Value).toArray below meth c H locs 0 0 (MQ below (pQi D y (res.1) (wT y q (res.2)) A) ([.ref (q 0), .int p1, .int p2] : List Value).toArray s 0 0 A) (F0 m 49 ls [])) → ∀ (H : Heap) (locs : List Loc) (ls : Array Slot), va_P D vwCl (wT y q P) H → va_D A (wT y q P) → va_S A s.heap H locs → lv_has ls 4 [(0, .ref (q 0)), (1, .int v1), (2, .int v2), (3, .int v3)] → f_X2_cutToken_L23 N P v1 v2 k v3 = some x_33 → W p l e ({ frames := 6, cells := 0, slots := 0, locals := 132 } : Room) s m ([.ref (q 0), .int p1, .int p2] : List Value).toArray below meth c H locs 0 0 (MQ below (pQi D y (res.1) (wT y q (res.2)) A) ([.ref (q 0), .int p1, .int p2] : List Value).toArray s 0 0 A) (F0 m 23 ls []) := by
      intro P v1 v2 k
      induction k with
      | zero =>
        intro v3 K23_32 H locs ls hP hD hS hl h
        have h : (none : Option (Int32)) = some _ := h
        cases h
      | succ k ih23_32 =>
        intro v3 K23_32 H locs ls hP hD hS hl h
        rw [f_X2_cutToken_L23] at h
        refine lv_iload_n hx hb dX2_cutToken_23 rfl (lv_at hl 3 rfl) ?_
        refine lv_aload_n hx hb dX2_cutToken_24 rfl (lv_at hl 0 rfl) ?_
        refine va_get (D := D) (ci := 2) (v := .int (P 0 0)) (C := RX2) (T := TX2) (N := 7) hx hb hts uX2_cutToken_X2 hown hK hP 0 rfl rfl 1 (by decide) (hts _ kX2_cutToken_3) (fun _ h9 => h9) rfl dX2_cutToken_25 ?_
        refine lv_icmp_ge (tgt := 49) hx hb dX2_cutToken_28 (by decide) (fun c_34 => ?_) (fun c_34 => ?_)
        · have h := q_t c_34 h
          cases h
          exact K23_32 _ _ _ hP hD hS (lv_sub hl [0, 1, 2, 3] rfl)
        · have h := q_f c_34 h
          refine lv_aload_n hx hb dX2_cutToken_31 rfl (lv_at hl 0 rfl) ?_
          refine va_get (D := D) (ci := 2) (v := .ref (q 1)) (C := RX2) (T := TX2) (N := 7) hx hb hts uX2_cutToken_X2 hown hK hP 0 rfl rfl 0 (by decide) (hts _ kX2_cutToken_1) (fun _ h9 => h9) rfl dX2_cutToken_32 ?_
          refine lv_iload_n hx hb dX2_cutToken_35 rfl (lv_at hl 3 rfl) ?_
          obtain ⟨z_35, h⟩ := q_grd_ok h
          refine va_bald hx hb hK hP 1 1 rfl rfl z_35 dX2_cutToken_36 ?_
          obtain ⟨r_36, hc_37, h⟩ := q_bd_ok h
          refine q_ci (r := r_36) (va_runS (As := [.int (P 1 v3.toNatClampNeg)]) (rest := []) ⟨hx, hb, hml, hown, hts⟩ (c_X2_isLetter l D y t q _ N (P 1 v3.toNatClampNeg) r_36 hc_37) (va_cwS 1 hts gX2_cutToken_X2_isLetter rfl rfl rfl eX2_isLetter ⟨Nat.le_of_ble_eq_true rfl, Nat.le_of_ble_eq_true rfl⟩) ⟨q_blind, (q_pre hP hK hZ hD hA hS [] rfl (by decide))⟩ rfl rfl hl.1 rfl (lv_room (Nat.le_of_ble_eq_true rfl)) dX2_cutToken_37 ⟨Nat.zero_le _, Nat.zero_le _⟩) hP hD hA hS [] rfl (by decide) rfl (fun H locs hP hD hS => ?_)
          have hP : va_P D vwCl (wT y q P) H := hP
          have hD : va_D A (wT y q P) := hD
          refine lv_if_eq (tgt := 49) hx hb dX2_cutToken_40 (by decide) (fun c_38 => ?_) (fun c_38 => ?_)
          · have h := q_t c_38 h
            cases h
            exact K23_32 _ _ _ hP hD hS (lv_sub hl [0, 1, 2, 3] rfl)
          · have h := q_f c_38 h
            obtain ⟨x_39, ex_39, h⟩ := q_let_ok h
            refine lv_iinc (v := x_39) (lv' := [(3, .int x_39), (0, .ref (q 0)), (1, .int v1), (2, .int v2)]) hx hb dX2_cutToken_43 hl (k := 3) rfl (by rw [ex_39]; rfl) (by decide) rfl (fun ls hl => ?_)
            refine lv_goto (tgt := 23) hx hb dX2_cutToken_46 (by decide) ?_
            exact ih23_32 x_39 K23_32 _ _ _ hP hD hS (lv_sub hl [1, 2, 3, 0] rfl) h
    exact L23_32 P_3 p1 p2 N x_1 K23_32 _ _ _ hP hD hS (lv_sub hl [1, 2, 3, 0] rfl) hL32
theorem eX2_cutToken : yX2_cutToken.cls = RX2 ∧ yX2_cutToken.cls ≠ "java/lang/invoke/MethodHandle" ∧ yX2_cutToken.cls ≠ "java/lang/invoke/VarHandle" ∧ (parseMethodDescriptor yX2_cutToken.desc).map (fun d => d.parameters.length) = some 2 := by decide +kernel
theorem uX2_cutTokens_X2 : ∀ w ∈ u_ws RX2 TX2 7, w ∈ wsX2_cutTokens := by decide +kernel
theorem kX2_cutTokens_1 : Cond.fieldLink RX2 9 "BeamSeats$Tape" "bytes" "[B" ∈ wsX2_cutTokens := List.mem_of_getElem? (i := 2) (by decide +kernel)
theorem kX2_cutTokens_2 : Cond.fieldLink RX2 15 "BeamSeats$Tape" "size" "I" ∈ wsX2_cutTokens := List.mem_of_getElem? (i := 1) (by decide +kernel)
theorem kX2_cutTokens_3 : Cond.fieldLink RX2 23 "BeamSeats$Tape" "starts" "[I" ∈ wsX2_cutTokens := List.mem_of_getElem? (i := 4) (by decide +kernel)
theorem kX2_cutTokens_4 : Cond.fieldLink RX2 19 "BeamSeats$Tape" "tokens" "[I" ∈ wsX2_cutTokens := List.mem_of_getElem? (i := 3) (by decide +kernel)
def f_X2_cutTokens_L6 (N : Nat) : Nat → Int32 → Int32 → Int32 → (Nat → Nat → Int32) → Option (Int32 × Int32 × Int32 × (Nat → Nat → Int32))
  | 0, _, _, _, _ => none
  | k + 1, v1, v2, v3, P =>
    if (P 0 0) ≤ v3 then
      some (v1, v2, v3, P)
    else
      if v3 < v2 then
        q_let (v3 + 1) (fun x_8 =>
        f_X2_cutTokens_L6 N k v1 v2 x_8 P)
      else
        q_grd v3 120 (
        if (P 1 v3.toNatClampNeg) = (32 : Int32) then
          q_let (v3 + 1) (fun x_11 =>
          f_X2_cutTokens_L6 N k v1 v2 x_11 P)
        else
          q_bd2 (f_X2_cutToken N P v1 v3) (fun r_12 P_13 =>
          q_let (v1 + 1) (fun x_15 =>
          q_let (v3 + 1) (fun x_16 =>
          f_X2_cutTokens_L6 N k x_15 r_12 x_16 P_13))))
def f_X2_cutTokens (N : Nat) (P : Nat → Nat → Int32) : Option ((Nat → Nat → Int32)) :=
  q_bd4 (f_X2_cutTokens_L6 N N (0 : Int32) (0 : Int32) (0 : Int32) P) (fun x_2 x_3 x_4 P_5 =>
  q_grd x_2 121 (
  q_let (q_up P_5 2 x_2.toNatClampNeg (0 : Int32)) (fun P_18 =>
  q_grd x_2 121 (
  q_let (q_up P_18 3 x_2.toNatClampNeg (P_18 0 0)) (fun P_20 =>
  some P_20)))))
set_option maxHeartbeats 4000000 in
set_option maxRecDepth 100000 in
theorem c_X2_cutTokens (l : Launch) (D : va_G) (y : Nat → ClassId) (t : Nat → Nat) (q : Nat → Nat) (sz N : Nat) (P : Nat → Nat → Int32) (res : (Nat → Nat → Int32)) (h : f_X2_cutTokens N P = some res) : Met l yX2_cutTokens wsX2_cutTokens ({ frames := 7, cells := 0, slots := 0, locals := 155 } : Room) (pPre D y t [.ref (q 0)] (wT y q P) sz) (pQv D y (wT y q res) (va_A (wT y q P) sz)) 0 0 (va_A (wT y q P) sz) := by
  refine q_start (Qc := (fun A => pQv D y (wT y q res) A)) (cc := cX2_cutTokens) (maxL := 4) (ret := none) (by decide) rfl (Nat.le_of_ble_eq_true rfl) ?_
  intro p e s m below meth c A ls hx hb hr hts hown hlocks hmn hml hP hK hZ hD hA hS hl
  have hl : lv_has ls 4 [(0, .ref (q 0))] := hl
  have hown : s.vm.findClass RX2 = some m.cls := hown
  unfold f_X2_cutTokens at h
  refine lv_iconst (v := 0) hx hb dX2_cutTokens_0 (by decide) ?_
  refine lv_istore_n (lv' := [(1, .int (0 : Int32)), (0, .ref (q 0))]) hx hb dX2_cutTokens_1 rfl hl (by decide) rfl (fun ls hl => ?_)
  refine lv_iconst (v := 0) hx hb dX2_cutTokens_2 (by decide) ?_
  refine lv_istore_n (lv' := [(2, .int (0 : Int32)), (1, .int (0 : Int32)), (0, .ref (q 0))]) hx hb dX2_cutTokens_3 rfl hl (by decide) rfl (fun ls hl => ?_)
  refine lv_iconst (v := 0) hx hb dX2_cutTokens_4 (by decide) ?_
  refine lv_istore_n (lv' := [(3, .int (0 : Int32)), (2, .int (0 : Int32)), (1, .int (0 : Int32)), (0, .ref (q 0))]) hx hb dX2_cutTokens_5 rfl hl (by decide) rfl (fun ls hl => ?_)
  obtain ⟨x_2, x_3, x_4, P_5, hL1, h⟩ := q_bd4_ok h
  have K6_1 : ∀ (H : Heap) (locs : List Loc) (ls : Array Slot), va_P D vwCl (wT y q P_5) H → va_D A (wT y q P_5) → va_S A s.heap H locs → lv_has ls 4 [(0, .ref (q 0)), (1, .int x_2), (2, .int x_3), (3, .int x_4)] → W p l e ({ frames := 7, cells := 0, slots := 0, locals := 155 } : Room) s m ([.ref (q 0)] : List Value).toArray below meth c H locs 0 0 (MQ below (pQv D y (wT y q res) A) ([.ref (q 0)] : List Value).toArray s 0 0 A) (F0 m 46 ls []) := by
    intro H locs ls hP hD hS hl
    refine lv_aload_n hx hb dX2_cutTokens_46 rfl (lv_at hl 0 rfl) ?_
    refine va_get (D := D) (ci := 2) (v := .ref (q 2)) (C := RX2) (T := TX2) (N := 7) hx hb hts uX2_cutTokens_X2 hown hK hP 0 rfl rfl 2 (by decide) (hts _ kX2_cutTokens_4) (fun _ h9 => h9) rfl dX2_cutTokens_47 ?_
    refine lv_iload_n hx hb dX2_cutTokens_50 rfl (lv_at hl 1 rfl) ?_
    refine lv_iconst (v := 0) hx hb dX2_cutTokens_51 (by decide) ?_
    obtain ⟨z_17, h⟩ := q_grd_ok h
    obtain ⟨P_18, eP_18, h⟩ := q_let_ok h
    refine va_iast hx hb hK hP hD hS 2 0 rfl rfl z_17 dX2_cutTokens_52 (fun H locs hP hD hS => ?_)
    have hP : va_P D vwCl (wT y q P_18) H := by rw [eP_18]; exact hP
    have hD : va_D A (wT y q P_18) := by rw [eP_18]; exact hD
    refine lv_aload_n hx hb dX2_cutTokens_53 rfl (lv_at hl 0 rfl) ?_
    refine va_get (D := D) (ci := 2) (v := .ref (q 3)) (C := RX2) (T := TX2) (N := 7) hx hb hts uX2_cutTokens_X2 hown hK hP 0 rfl rfl 3 (by decide) (hts _ kX2_cutTokens_3) (fun _ h9 => h9) rfl dX2_cutTokens_54 ?_
    refine lv_iload_n hx hb dX2_cutTokens_57 rfl (lv_at hl 1 rfl) ?_
    refine lv_aload_n hx hb dX2_cutTokens_58 rfl (lv_at hl 0 rfl) ?_
    refine va_get (D := D) (ci := 2) (v := .int (P_18 0 0)) (C := RX2) (T := TX2) (N := 7) hx hb hts uX2_cutTokens_X2 hown hK hP 0 rfl rfl 1 (by decide) (hts _ kX2_cutTokens_2) (fun _ h9 => h9) rfl dX2_cutTokens_59 ?_
    obtain ⟨z_19, h⟩ := q_grd_ok h
    obtain ⟨P_20, eP_20, h⟩ := q_let_ok h
    refine va_iast hx hb hK hP hD hS 3 0 rfl rfl z_19 dX2_cutTokens_62 (fun H locs hP hD hS => ?_)
    have hP : va_P D vwCl (wT y q P_20) H := by rw [eP_20]; exact hP
    have hD : va_D A (wT y q P_20) := by rw [eP_20]; exact hD
    have e9 := Option.some.inj h
    exact q_vret hx hb hr hlocks hK hP hD hS dX2_cutTokens_63 (by first | rw [← e9] | rfl)
  have L6_1 : ∀ (k : Nat) (v1 : Int32) (v2 : Int32) (v3 : Int32) (P : Nat → Nat → Int32), (∀ (H : Heap) (locs : List Loc) (ls : Array Slot), va_P D vwCl (wT y q P_5) H → va_D A (wT y q P_5) → va_S A s.heap H locs → lv_has ls 4 [(0, .ref (q 0)), (1, .int x_2), (2, .int x_3), (3, .int x_4)] → W p l e ({ frames := 7, cells := 0, slots := 0, locals := 155 } : Room) s m ([.ref (q 0)] : List Value).toArray below meth c H locs 0 0 (MQ below (pQv D y (wT y q res) A) ([.ref (q 0)] : List Value).toArray s 0 0 A) (F0 m 46 ls [])) → ∀ (H : Heap) (locs : List Loc) (ls : Array Slot), va_P D vwCl (wT y q P) H → va_D A (wT y q P) → va_S A s.heap H locs → lv_has ls 4 [(0, .ref (q 0)), (1, .int v1), (2, .int v2), (3, .int v3)] → f_X2_cutTokens_L6 N k v1 v2 v3 P = some (x_2, x_3, x_4, P_5) → W p l e ({ frames := 7, cells := 0, slots := 0, locals := 155 } : Room) s m ([.ref (q 0)] : List Value).toArray below meth c H locs 0 0 (MQ below (pQv D y (wT y q res) A) ([.ref (q 0)] : List Value).toArray s 0 0 A) (F0 m 6 ls []) := by
    intro k
    induction k with
    | zero =>
      intro v1 v2 v3 P K6_1 H locs ls hP hD hS hl h
      have h : (none : Option (Int32 × Int32 × Int32 × (Nat → Nat → Int32))) = some _ := h
      cases h
    | succ k ih6_1 =>
      intro v1 v2 v3 P K6_1 H locs ls hP hD hS hl h
      rw [f_X2_cutTokens_L6] at h
      refine lv_iload_n hx hb dX2_cutTokens_6 rfl (lv_at hl 3 rfl) ?_
      refine lv_aload_n hx hb dX2_cutTokens_7 rfl (lv_at hl 0 rfl) ?_
      refine va_get (D := D) (ci := 2) (v := .int (P 0 0)) (C := RX2) (T := TX2) (N := 7) hx hb hts uX2_cutTokens_X2 hown hK hP 0 rfl rfl 1 (by decide) (hts _ kX2_cutTokens_2) (fun _ h9 => h9) rfl dX2_cutTokens_8 ?_
      refine lv_icmp_ge (tgt := 46) hx hb dX2_cutTokens_11 (by decide) (fun c_6 => ?_) (fun c_6 => ?_)
      · have h := q_t c_6 h
        cases h
        exact K6_1 _ _ _ hP hD hS (lv_sub hl [0, 1, 2, 3] rfl)
      · have h := q_f c_6 h
        refine lv_iload_n hx hb dX2_cutTokens_14 rfl (lv_at hl 3 rfl) ?_
        refine lv_iload_n hx hb dX2_cutTokens_15 rfl (lv_at hl 2 rfl) ?_
        refine lv_icmp_lt (tgt := 40) hx hb dX2_cutTokens_16 (by decide) (fun c_7 => ?_) (fun c_7 => ?_)
        · have h := q_t c_7 h
          obtain ⟨x_8, ex_8, h⟩ := q_let_ok h
          refine lv_iinc (v := x_8) (lv' := [(3, .int x_8), (0, .ref (q 0)), (1, .int v1), (2, .int v2)]) hx hb dX2_cutTokens_40 hl (k := 3) rfl (by rw [ex_8]; rfl) (by decide) rfl (fun ls hl => ?_)
          refine lv_goto (tgt := 6) hx hb dX2_cutTokens_43 (by decide) ?_
          exact ih6_1 v1 v2 x_8 P K6_1 _ _ _ hP hD hS (lv_sub hl [1, 2, 3, 0] rfl) h
        · have h := q_f c_7 h
          refine lv_aload_n hx hb dX2_cutTokens_19 rfl (lv_at hl 0 rfl) ?_
          refine va_get (D := D) (ci := 2) (v := .ref (q 1)) (C := RX2) (T := TX2) (N := 7) hx hb hts uX2_cutTokens_X2 hown hK hP 0 rfl rfl 0 (by decide) (hts _ kX2_cutTokens_1) (fun _ h9 => h9) rfl dX2_cutTokens_20 ?_
          refine lv_iload_n hx hb dX2_cutTokens_23 rfl (lv_at hl 3 rfl) ?_
          obtain ⟨z_9, h⟩ := q_grd_ok h
          refine va_bald hx hb hK hP 1 1 rfl rfl z_9 dX2_cutTokens_24 ?_
          refine lv_bipush (v := 32) hx hb dX2_cutTokens_25 (by decide) ?_
          refine lv_icmp_eq (tgt := 40) hx hb dX2_cutTokens_27 (by decide) (fun c_10 => ?_) (fun c_10 => ?_)
          · have h := q_t c_10 h
            obtain ⟨x_11, ex_11, h⟩ := q_let_ok h
            refine lv_iinc (v := x_11) (lv' := [(3, .int x_11), (0, .ref (q 0)), (1, .int v1), (2, .int v2)]) hx hb dX2_cutTokens_40 hl (k := 3) rfl (by rw [ex_11]; rfl) (by decide) rfl (fun ls hl => ?_)
            refine lv_goto (tgt := 6) hx hb dX2_cutTokens_43 (by decide) ?_
            exact ih6_1 v1 v2 x_11 P K6_1 _ _ _ hP hD hS (lv_sub hl [1, 2, 3, 0] rfl) h
          · have h := q_f c_10 h
            refine lv_aload_n hx hb dX2_cutTokens_30 rfl (lv_at hl 0 rfl) ?_
            refine lv_iload_n hx hb dX2_cutTokens_31 rfl (lv_at hl 1 rfl) ?_
            refine lv_iload_n hx hb dX2_cutTokens_32 rfl (lv_at hl 3 rfl) ?_
            obtain ⟨r_12, P_13, hc_14, h⟩ := q_bd2_ok h
            refine q_ci (r := r_12) (va_runV (As := [.int v1, .int v3]) (rest := []) ⟨hx, hb, hml, hown, hts⟩ (c_X2_cutToken l D y t q _ N P v1 v3 (r_12, P_13) hc_14) (cwV 2 hts gX2_cutTokens_X2_cutToken rfl rfl rfl eX2_cutToken ⟨Nat.le_of_ble_eq_true rfl, Nat.le_of_ble_eq_true rfl⟩) ⟨q_blind, (va_recv hK hP (ci := 2) (q0 := 0) rfl rfl), (q_pre hP hK hZ hD hA hS [0, 1, 2, 3, 4] rfl (by decide))⟩ rfl rfl hl.1 rfl (lv_room (Nat.le_of_ble_eq_true rfl)) dX2_cutTokens_33 ⟨Nat.zero_le _, Nat.zero_le _⟩) hP hD hA hS [0, 1, 2, 3, 4] rfl (by decide) rfl (fun H locs hP hD hS => ?_)
            have hP : va_P D vwCl (wT y q P_13) H := hP
            have hD : va_D A (wT y q P_13) := hD
            refine lv_istore_n (lv' := [(2, .int r_12), (0, .ref (q 0)), (1, .int v1), (3, .int v3)]) hx hb dX2_cutTokens_36 rfl hl (by decide) rfl (fun ls hl => ?_)
            obtain ⟨x_15, ex_15, h⟩ := q_let_ok h
            refine lv_iinc (v := x_15) (lv' := [(1, .int x_15), (2, .int r_12), (0, .ref (q 0)), (3, .int v3)]) hx hb dX2_cutTokens_37 hl (k := 2) rfl (by rw [ex_15]; rfl) (by decide) rfl (fun ls hl => ?_)
            obtain ⟨x_16, ex_16, h⟩ := q_let_ok h
            refine lv_iinc (v := x_16) (lv' := [(3, .int x_16), (1, .int x_15), (2, .int r_12), (0, .ref (q 0))]) hx hb dX2_cutTokens_40 hl (k := 3) rfl (by rw [ex_16]; rfl) (by decide) rfl (fun ls hl => ?_)
            refine lv_goto (tgt := 6) hx hb dX2_cutTokens_43 (by decide) ?_
            exact ih6_1 x_15 r_12 x_16 P_13 K6_1 _ _ _ hP hD hS (lv_sub hl [3, 1, 2, 0] rfl) h
  exact L6_1 N (0 : Int32) (0 : Int32) (0 : Int32) P K6_1 _ _ _ hP hD hS (lv_sub hl [3, 2, 1, 0] rfl) hL1
theorem eX2_cutTokens : yX2_cutTokens.cls = RX2 ∧ yX2_cutTokens.cls ≠ "java/lang/invoke/MethodHandle" ∧ yX2_cutTokens.cls ≠ "java/lang/invoke/VarHandle" ∧ (parseMethodDescriptor yX2_cutTokens.desc).map (fun d => d.parameters.length) = some 0 := by decide +kernel
theorem kX2_numberBehind_0 : Cond.initialized RX3 ∈ wsX2_numberBehind := List.mem_of_getElem? (i := 6) (by decide +kernel)
theorem kX2_numberBehind_1 : Cond.static yX3_within ∈ wsX2_numberBehind := List.mem_of_getElem? (i := 5) (by decide +kernel)
theorem uX2_numberBehind_X2 : ∀ w ∈ u_ws RX2 TX2 7, w ∈ wsX2_numberBehind := by decide +kernel
theorem kX2_numberBehind_3 : Cond.fieldLink RX2 29 "BeamSeats$Tape" "next" "I" ∈ wsX2_numberBehind := List.mem_of_getElem? (i := 1) (by decide +kernel)
theorem kX2_numberBehind_4 : Cond.fieldLink RX2 32 "BeamSeats$Tape" "number" "I" ∈ wsX2_numberBehind := List.mem_of_getElem? (i := 4) (by decide +kernel)
theorem kX2_numberBehind_5 : Cond.fieldLink RX2 26 "BeamSeats$Tape" "values" "[I" ∈ wsX2_numberBehind := List.mem_of_getElem? (i := 3) (by decide +kernel)
theorem kX2_numberBehind_6 : Cond.fieldLink RX2 19 "BeamSeats$Tape" "tokens" "[I" ∈ wsX2_numberBehind := List.mem_of_getElem? (i := 2) (by decide +kernel)
def f_X2_numberBehind (N : Nat) (P : Nat → Nat → Int32) (p1 : Int32) (p2 : Int32) : Option (Int32 × (Nat → Nat → Int32)) :=
  q_let (q_up P 0 1 ((P 0 1) + (1 : Int32))) (fun P_1 =>
  q_grd (P_1 0 1) 121 (
  if (P_1 2 (P_1 0 1).toNatClampNeg) = (2 : Int32) then
    q_grd (P_1 0 1) 121 (
    q_bd (f_X3_within N (P_1 4 (P_1 0 1).toNatClampNeg) p1 p2) (fun r_5 =>
    if r_5 = 0 then
      some ((0 : Int32), P_1)
    else
      q_grd (P_1 0 1) 121 (
      q_let (q_up P_1 0 2 (P_1 4 (P_1 0 1).toNatClampNeg)) (fun P_9 =>
      q_let (q_up P_9 0 1 ((P_9 0 1) + (1 : Int32))) (fun P_10 =>
      some ((1 : Int32), P_10))))))
  else
    some ((0 : Int32), P_1)))
set_option maxHeartbeats 4000000 in
set_option maxRecDepth 100000 in
theorem c_X2_numberBehind (l : Launch) (D : va_G) (y : Nat → ClassId) (t : Nat → Nat) (q : Nat → Nat) (sz N : Nat) (P : Nat → Nat → Int32) (p1 : Int32) (p2 : Int32) (res : Int32 × (Nat → Nat → Int32)) (h : f_X2_numberBehind N P p1 p2 = some res) : Met l yX2_numberBehind wsX2_numberBehind ({ frames := 1, cells := 0, slots := 0, locals := 22 } : Room) (pPre D y t [.ref (q 0), .int p1, .int p2] (wT y q P) sz) (pQi D y (res.1) (wT y q (res.2)) (va_A (wT y q P) sz)) 0 0 (va_A (wT y q P) sz) := by
  refine q_start (Qc := (fun A => pQi D y (res.1) (wT y q (res.2)) A)) (cc := cX2_numberBehind) (maxL := 3) (ret := (some .boolean)) (by decide) rfl (Nat.le_of_ble_eq_true rfl) ?_
  intro p e s m below meth c A ls hx hb hr hts hown hlocks hmn hml hP hK hZ hD hA hS hl
  have hl : lv_has ls 3 [(0, .ref (q 0)), (1, .int p1), (2, .int p2)] := hl
  have hown : s.vm.findClass RX2 = some m.cls := hown
  unfold f_X2_numberBehind at h
  refine lv_aload_n hx hb dX2_numberBehind_0 rfl (lv_at hl 0 rfl) ?_
  refine lv_dup hx hb dX2_numberBehind_1 rfl ?_
  refine va_get (D := D) (ci := 2) (v := .int (P 0 1)) (C := RX2) (T := TX2) (N := 7) hx hb hts uX2_numberBehind_X2 hown hK hP 0 rfl rfl 5 (by decide) (hts _ kX2_numberBehind_3) (fun _ h9 => h9) rfl dX2_numberBehind_2 ?_
  refine lv_iconst (v := 1) hx hb dX2_numberBehind_5 (by decide) ?_
  refine lv_iadd hx hb dX2_numberBehind_6 ?_
  obtain ⟨P_1, eP_1, h⟩ := q_let_ok h
  refine va_put (D := D) (ci := 2) (v := .int ((P 0 1) + (1 : Int32))) (ty := .int) (C := RX2) (T := TX2) (N := 7) hx hb hts uX2_numberBehind_X2 tyX2 tyX2_ok nmX2 hown hK hP hD hS 0 rfl rfl 5 (by decide) (hts _ kX2_numberBehind_3) (fun _ h9 => h9) rfl (by decide +kernel) rfl rfl (Nat.le_of_ble_eq_true rfl) dX2_numberBehind_7 (fun H locs hP hD hS => ?_)
  have hP : va_P D vwCl (wT y q P_1) H := by rw [eP_1]; exact hP
  have hD : va_D A (wT y q P_1) := by rw [eP_1]; exact hD
  refine lv_aload_n hx hb dX2_numberBehind_10 rfl (lv_at hl 0 rfl) ?_
  refine va_get (D := D) (ci := 2) (v := .ref (q 2)) (C := RX2) (T := TX2) (N := 7) hx hb hts uX2_numberBehind_X2 hown hK hP 0 rfl rfl 2 (by decide) (hts _ kX2_numberBehind_6) (fun _ h9 => h9) rfl dX2_numberBehind_11 ?_
  refine lv_aload_n hx hb dX2_numberBehind_14 rfl (lv_at hl 0 rfl) ?_
  refine va_get (D := D) (ci := 2) (v := .int (P_1 0 1)) (C := RX2) (T := TX2) (N := 7) hx hb hts uX2_numberBehind_X2 hown hK hP 0 rfl rfl 5 (by decide) (hts _ kX2_numberBehind_3) (fun _ h9 => h9) rfl dX2_numberBehind_15 ?_
  obtain ⟨z_2, h⟩ := q_grd_ok h
  refine va_iald hx hb hK hP 2 0 rfl rfl z_2 dX2_numberBehind_18 ?_
  refine lv_iconst (v := 2) hx hb dX2_numberBehind_19 (by decide) ?_
  refine lv_icmp_ne (tgt := 40) hx hb dX2_numberBehind_20 (by decide) (fun c_3 => ?_) (fun c_3 => ?_)
  · have h := q_f c_3 h
    refine lv_iconst (v := 0) hx hb dX2_numberBehind_40 (by decide) ?_
    have e9 := Option.some.inj h
    exact q_zret hx hb hr hlocks hK hP hD hS dX2_numberBehind_41 rfl (by first | rw [← e9] | rfl) (by first | rw [← e9] | rfl)
  · have h := q_t c_3 h
    refine lv_aload_n hx hb dX2_numberBehind_23 rfl (lv_at hl 0 rfl) ?_
    refine va_get (D := D) (ci := 2) (v := .ref (q 4)) (C := RX2) (T := TX2) (N := 7) hx hb hts uX2_numberBehind_X2 hown hK hP 0 rfl rfl 4 (by decide) (hts _ kX2_numberBehind_5) (fun _ h9 => h9) rfl dX2_numberBehind_24 ?_
    refine lv_aload_n hx hb dX2_numberBehind_27 rfl (lv_at hl 0 rfl) ?_
    refine va_get (D := D) (ci := 2) (v := .int (P_1 0 1)) (C := RX2) (T := TX2) (N := 7) hx hb hts uX2_numberBehind_X2 hown hK hP 0 rfl rfl 5 (by decide) (hts _ kX2_numberBehind_3) (fun _ h9 => h9) rfl dX2_numberBehind_28 ?_
    obtain ⟨z_4, h⟩ := q_grd_ok h
    refine va_iald hx hb hK hP 4 0 rfl rfl z_4 dX2_numberBehind_31 ?_
    refine lv_iload_n hx hb dX2_numberBehind_32 rfl (lv_at hl 1 rfl) ?_
    refine lv_iload_n hx hb dX2_numberBehind_33 rfl (lv_at hl 2 rfl) ?_
    obtain ⟨r_5, hc_6, h⟩ := q_bd_ok h
    refine q_ci (r := r_5) (va_runSN (As := [.int (P_1 4 (P_1 0 1).toNatClampNeg), .int p1, .int p2]) (rest := []) ⟨hx, hb, hml, hown, hts⟩ (c_X3_within l D y t q _ N (P_1 4 (P_1 0 1).toNatClampNeg) p1 p2 r_5 hc_6) ⟨va_cnB 3 hts gX2_numberBehind_X3_within_n79 rfl rfl rfl hZ.2.2.2.2.2.2.1 (hts _ kX2_numberBehind_0) eX3_within ⟨Nat.le_of_ble_eq_true rfl, Nat.le_of_ble_eq_true rfl⟩, hts _ kX2_numberBehind_1, trivial⟩ ⟨q_blind, (q_pre hP hK hZ hD hA hS [] rfl (by decide))⟩ rfl rfl hl.1 rfl (lv_room (Nat.le_of_ble_eq_true rfl)) dX2_numberBehind_34 ⟨Nat.zero_le _, Nat.zero_le _⟩) hP hD hA hS [] rfl (by decide) rfl (fun H locs hP hD hS => ?_)
    have hP : va_P D vwCl (wT y q P_1) H := hP
    have hD : va_D A (wT y q P_1) := hD
    refine lv_if_ne (tgt := 42) hx hb dX2_numberBehind_37 (by decide) (fun c_7 => ?_) (fun c_7 => ?_)
    · have h := q_f c_7 h
      refine lv_aload_n hx hb dX2_numberBehind_42 rfl (lv_at hl 0 rfl) ?_
      refine lv_aload_n hx hb dX2_numberBehind_43 rfl (lv_at hl 0 rfl) ?_
      refine va_get (D := D) (ci := 2) (v := .ref (q 4)) (C := RX2) (T := TX2) (N := 7) hx hb hts uX2_numberBehind_X2 hown hK hP 0 rfl rfl 4 (by decide) (hts _ kX2_numberBehind_5) (fun _ h9 => h9) rfl dX2_numberBehind_44 ?_
      refine lv_aload_n hx hb dX2_numberBehind_47 rfl (lv_at hl 0 rfl) ?_
      refine va_get (D := D) (ci := 2) (v := .int (P_1 0 1)) (C := RX2) (T := TX2) (N := 7) hx hb hts uX2_numberBehind_X2 hown hK hP 0 rfl rfl 5 (by decide) (hts _ kX2_numberBehind_3) (fun _ h9 => h9) rfl dX2_numberBehind_48 ?_
      obtain ⟨z_8, h⟩ := q_grd_ok h
      refine va_iald hx hb hK hP 4 0 rfl rfl z_8 dX2_numberBehind_51 ?_
      obtain ⟨P_9, eP_9, h⟩ := q_let_ok h
      refine va_put (D := D) (ci := 2) (v := .int (P_1 4 (P_1 0 1).toNatClampNeg)) (ty := .int) (C := RX2) (T := TX2) (N := 7) hx hb hts uX2_numberBehind_X2 tyX2 tyX2_ok nmX2 hown hK hP hD hS 0 rfl rfl 6 (by decide) (hts _ kX2_numberBehind_4) (fun _ h9 => h9) rfl (by decide +kernel) rfl rfl (Nat.le_of_ble_eq_true rfl) dX2_numberBehind_52 (fun H locs hP hD hS => ?_)
      have hP : va_P D vwCl (wT y q P_9) H := by rw [eP_9]; exact hP
      have hD : va_D A (wT y q P_9) := by rw [eP_9]; exact hD
      refine lv_aload_n hx hb dX2_numberBehind_55 rfl (lv_at hl 0 rfl) ?_
      refine lv_dup hx hb dX2_numberBehind_56 rfl ?_
      refine va_get (D := D) (ci := 2) (v := .int (P_9 0 1)) (C := RX2) (T := TX2) (N := 7) hx hb hts uX2_numberBehind_X2 hown hK hP 0 rfl rfl 5 (by decide) (hts _ kX2_numberBehind_3) (fun _ h9 => h9) rfl dX2_numberBehind_57 ?_
      refine lv_iconst (v := 1) hx hb dX2_numberBehind_60 (by decide) ?_
      refine lv_iadd hx hb dX2_numberBehind_61 ?_
      obtain ⟨P_10, eP_10, h⟩ := q_let_ok h
      refine va_put (D := D) (ci := 2) (v := .int ((P_9 0 1) + (1 : Int32))) (ty := .int) (C := RX2) (T := TX2) (N := 7) hx hb hts uX2_numberBehind_X2 tyX2 tyX2_ok nmX2 hown hK hP hD hS 0 rfl rfl 5 (by decide) (hts _ kX2_numberBehind_3) (fun _ h9 => h9) rfl (by decide +kernel) rfl rfl (Nat.le_of_ble_eq_true rfl) dX2_numberBehind_62 (fun H locs hP hD hS => ?_)
      have hP : va_P D vwCl (wT y q P_10) H := by rw [eP_10]; exact hP
      have hD : va_D A (wT y q P_10) := by rw [eP_10]; exact hD
      refine lv_iconst (v := 1) hx hb dX2_numberBehind_65 (by decide) ?_
      have e9 := Option.some.inj h
      exact q_zret hx hb hr hlocks hK hP hD hS dX2_numberBehind_66 rfl (by first | rw [← e9] | rfl) (by first | rw [← e9] | rfl)
    · have h := q_t c_7 h
      refine lv_iconst (v := 0) hx hb dX2_numberBehind_40 (by decide) ?_
      have e9 := Option.some.inj h
      exact q_zret hx hb hr hlocks hK hP hD hS dX2_numberBehind_41 rfl (by first | rw [← e9] | rfl) (by first | rw [← e9] | rfl)
theorem eX2_numberBehind : yX2_numberBehind.cls = RX2 ∧ yX2_numberBehind.cls ≠ "java/lang/invoke/MethodHandle" ∧ yX2_numberBehind.cls ≠ "java/lang/invoke/VarHandle" ∧ (parseMethodDescriptor yX2_numberBehind.desc).map (fun d => d.parameters.length) = some 2 := by decide +kernel
theorem uX2_tellPart_X2 : ∀ w ∈ u_ws RX2 TX2 7, w ∈ wsX2_tellPart := by decide +kernel
theorem kX2_tellPart_1 : Cond.fieldLink RX2 32 "BeamSeats$Tape" "number" "I" ∈ wsX2_tellPart := List.mem_of_getElem? (i := 4) (by decide +kernel)
theorem kX2_tellPart_2 : Cond.fieldLink RX2 29 "BeamSeats$Tape" "next" "I" ∈ wsX2_tellPart := List.mem_of_getElem? (i := 2) (by decide +kernel)
theorem kX2_tellPart_3 : Cond.fieldLink RX2 26 "BeamSeats$Tape" "values" "[I" ∈ wsX2_tellPart := List.mem_of_getElem? (i := 3) (by decide +kernel)
theorem kX2_tellPart_4 : Cond.fieldLink RX2 19 "BeamSeats$Tape" "tokens" "[I" ∈ wsX2_tellPart := List.mem_of_getElem? (i := 1) (by decide +kernel)
def f_X2_tellPart (N : Nat) (P : Nat → Nat → Int32) (E : Nat → Int32) (p1 : Int32) (p2 : Int32) (p4 : Int32) : Option (Int32 × (Nat → Nat → Int32) × (Nat → Int32)) :=
  q_grd (P 0 1) 121 (
  if (P 2 (P 0 1).toNatClampNeg) = (1 : Int32) then
    q_grd (P 0 1) 121 (
    if (P 4 (P 0 1).toNatClampNeg) = p1 then
      q_bd2 (f_X2_numberBehind N P (0 : Int32) p2) (fun r_5 P_6 =>
      if r_5 = 0 then
        some ((0 : Int32), P_6, E)
      else
        q_grd p4 8 (
        q_let (upd E p4.toNatClampNeg (P_6 0 2)) (fun E_10 =>
        some ((1 : Int32), P_6, E_10))))
    else
      some ((1 : Int32), P, E))
  else
    some ((1 : Int32), P, E))
set_option maxHeartbeats 4000000 in
set_option maxRecDepth 100000 in
theorem c_X2_tellPart (l : Launch) (D : va_G) (y : Nat → ClassId) (t : Nat → Nat) (q : Nat → Nat) (sz N : Nat) (P : Nat → Nat → Int32) (E : Nat → Int32) (p1 : Int32) (p2 : Int32) (p4 : Int32) (res : Int32 × (Nat → Nat → Int32) × (Nat → Int32)) (h : f_X2_tellPart N P E p1 p2 p4 = some res) : Met l yX2_tellPart wsX2_tellPart ({ frames := 2, cells := 0, slots := 0, locals := 44 } : Room) (pPre D y t [.ref (q 0), .int p1, .int p2, .ref (q 5), .int p4] (wTR y q P E) sz) (pQi D y (res.1) (wTR y q (res.2.1) (res.2.2)) (va_A (wTR y q P E) sz)) 0 0 (va_A (wTR y q P E) sz) := by
  refine q_start (Qc := (fun A => pQi D y (res.1) (wTR y q (res.2.1) (res.2.2)) A)) (cc := cX2_tellPart) (maxL := 5) (ret := (some .boolean)) (by decide) rfl (Nat.le_of_ble_eq_true rfl) ?_
  intro p e s m below meth c A ls hx hb hr hts hown hlocks hmn hml hP hK hZ hD hA hS hl
  have hl : lv_has ls 5 [(0, .ref (q 0)), (1, .int p1), (2, .int p2), (3, .ref (q 5)), (4, .int p4)] := hl
  have hown : s.vm.findClass RX2 = some m.cls := hown
  unfold f_X2_tellPart at h
  refine lv_aload_n hx hb dX2_tellPart_0 rfl (lv_at hl 0 rfl) ?_
  refine va_get (D := D) (ci := 2) (v := .ref (q 2)) (C := RX2) (T := TX2) (N := 7) hx hb hts uX2_tellPart_X2 hown hK hP 0 rfl rfl 2 (by decide) (hts _ kX2_tellPart_4) (fun _ h9 => h9) rfl dX2_tellPart_1 ?_
  refine lv_aload_n hx hb dX2_tellPart_4 rfl (lv_at hl 0 rfl) ?_
  refine va_get (D := D) (ci := 2) (v := .int (P 0 1)) (C := RX2) (T := TX2) (N := 7) hx hb hts uX2_tellPart_X2 hown hK hP 0 rfl rfl 5 (by decide) (hts _ kX2_tellPart_2) (fun _ h9 => h9) rfl dX2_tellPart_5 ?_
  obtain ⟨z_1, h⟩ := q_grd_ok h
  refine va_iald hx hb hK hP 2 0 rfl rfl z_1 dX2_tellPart_8 ?_
  refine lv_iconst (v := 1) hx hb dX2_tellPart_9 (by decide) ?_
  refine lv_icmp_ne (tgt := 26) hx hb dX2_tellPart_10 (by decide) (fun c_2 => ?_) (fun c_2 => ?_)
  · have h := q_f c_2 h
    refine lv_iconst (v := 1) hx hb dX2_tellPart_26 (by decide) ?_
    have e9 := Option.some.inj h
    exact q_zret hx hb hr hlocks hK hP hD hS dX2_tellPart_27 rfl (by first | rw [← e9] | rfl) (by first | rw [← e9] | rfl)
  · have h := q_t c_2 h
    refine lv_aload_n hx hb dX2_tellPart_13 rfl (lv_at hl 0 rfl) ?_
    refine va_get (D := D) (ci := 2) (v := .ref (q 4)) (C := RX2) (T := TX2) (N := 7) hx hb hts uX2_tellPart_X2 hown hK hP 0 rfl rfl 4 (by decide) (hts _ kX2_tellPart_3) (fun _ h9 => h9) rfl dX2_tellPart_14 ?_
    refine lv_aload_n hx hb dX2_tellPart_17 rfl (lv_at hl 0 rfl) ?_
    refine va_get (D := D) (ci := 2) (v := .int (P 0 1)) (C := RX2) (T := TX2) (N := 7) hx hb hts uX2_tellPart_X2 hown hK hP 0 rfl rfl 5 (by decide) (hts _ kX2_tellPart_2) (fun _ h9 => h9) rfl dX2_tellPart_18 ?_
    obtain ⟨z_3, h⟩ := q_grd_ok h
    refine va_iald hx hb hK hP 4 0 rfl rfl z_3 dX2_tellPart_21 ?_
    refine lv_iload_n hx hb dX2_tellPart_22 rfl (lv_at hl 1 rfl) ?_
    refine lv_icmp_eq (tgt := 28) hx hb dX2_tellPart_23 (by decide) (fun c_4 => ?_) (fun c_4 => ?_)
    · have h := q_t c_4 h
      refine lv_aload_n hx hb dX2_tellPart_28 rfl (lv_at hl 0 rfl) ?_
      refine lv_iconst (v := 0) hx hb dX2_tellPart_29 (by decide) ?_
      refine lv_iload_n hx hb dX2_tellPart_30 rfl (lv_at hl 2 rfl) ?_
      obtain ⟨r_5, P_6, hc_7, h⟩ := q_bd2_ok h
      refine q_ci (r := r_5) (va_runV (As := [.int (0 : Int32), .int p2]) (rest := []) ⟨hx, hb, hml, hown, hts⟩ (c_X2_numberBehind l D y t q _ N P (0 : Int32) p2 (r_5, P_6) hc_7) (cwV 2 hts gX2_tellPart_X2_numberBehind rfl rfl rfl eX2_numberBehind ⟨Nat.le_of_ble_eq_true rfl, Nat.le_of_ble_eq_true rfl⟩) ⟨q_blind, (va_recv hK hP (ci := 2) (q0 := 0) rfl rfl), (q_pre hP hK hZ hD hA hS [0, 1, 2, 3, 4] rfl (by decide))⟩ rfl rfl hl.1 rfl (lv_room (Nat.le_of_ble_eq_true rfl)) dX2_tellPart_31 ⟨Nat.zero_le _, Nat.zero_le _⟩) hP hD hA hS [0, 1, 2, 3, 4] rfl (by decide) rfl (fun H locs hP hD hS => ?_)
      have hP : va_P D vwCl (wTR y q P_6 E) H := hP
      have hD : va_D A (wTR y q P_6 E) := hD
      refine lv_if_ne (tgt := 39) hx hb dX2_tellPart_34 (by decide) (fun c_8 => ?_) (fun c_8 => ?_)
      · have h := q_f c_8 h
        refine lv_aload_n hx hb dX2_tellPart_39 rfl (lv_at hl 3 rfl) ?_
        refine lv_iload hx hb dX2_tellPart_40 (lv_at hl 4 rfl) ?_
        refine lv_aload_n hx hb dX2_tellPart_42 rfl (lv_at hl 0 rfl) ?_
        refine va_get (D := D) (ci := 2) (v := .int (P_6 0 2)) (C := RX2) (T := TX2) (N := 7) hx hb hts uX2_tellPart_X2 hown hK hP 0 rfl rfl 6 (by decide) (hts _ kX2_tellPart_1) (fun _ h9 => h9) rfl dX2_tellPart_43 ?_
        obtain ⟨z_9, h⟩ := q_grd_ok h
        obtain ⟨E_10, eE_10, h⟩ := q_let_ok h
        refine va_iast hx hb hK hP hD hS 5 0 rfl rfl z_9 dX2_tellPart_46 (fun H locs hP hD hS => ?_)
        have hP : va_P D vwCl (wTR y q P_6 E_10) H := by rw [eE_10]; exact hP
        have hD : va_D A (wTR y q P_6 E_10) := by rw [eE_10]; exact hD
        refine lv_iconst (v := 1) hx hb dX2_tellPart_47 (by decide) ?_
        have e9 := Option.some.inj h
        exact q_zret hx hb hr hlocks hK hP hD hS dX2_tellPart_48 rfl (by first | rw [← e9] | rfl) (by first | rw [← e9] | rfl)
      · have h := q_t c_8 h
        refine lv_iconst (v := 0) hx hb dX2_tellPart_37 (by decide) ?_
        have e9 := Option.some.inj h
        exact q_zret hx hb hr hlocks hK hP hD hS dX2_tellPart_38 rfl (by first | rw [← e9] | rfl) (by first | rw [← e9] | rfl)
    · have h := q_f c_4 h
      refine lv_iconst (v := 1) hx hb dX2_tellPart_26 (by decide) ?_
      have e9 := Option.some.inj h
      exact q_zret hx hb hr hlocks hK hP hD hS dX2_tellPart_27 rfl (by first | rw [← e9] | rfl) (by first | rw [← e9] | rfl)
theorem eX2_tellPart : yX2_tellPart.cls = RX2 ∧ yX2_tellPart.cls ≠ "java/lang/invoke/MethodHandle" ∧ yX2_tellPart.cls ≠ "java/lang/invoke/VarHandle" ∧ (parseMethodDescriptor yX2_tellPart.desc).map (fun d => d.parameters.length) = some 4 := by decide +kernel
theorem uX2_tellThing_X0 : ∀ w ∈ u_ws RX0 TX0 13, w ∈ wsX2_tellThing := by decide +kernel
theorem kX2_tellThing_1 : Cond.fieldLink RX2 76 "BeamSeats$Island" "goals" "[I" ∈ wsX2_tellThing := List.mem_of_getElem? (i := 5) (by decide +kernel)
theorem kX2_tellThing_2 : Cond.fieldLink RX2 73 "BeamSeats$Island" "wets" "[I" ∈ wsX2_tellThing := List.mem_of_getElem? (i := 4) (by decide +kernel)
theorem kX2_tellThing_3 : Cond.fieldLink RX2 66 "BeamSeats$Island" "outs" "[I" ∈ wsX2_tellThing := List.mem_of_getElem? (i := 3) (by decide +kernel)
theorem uX2_tellThing_X2 : ∀ w ∈ u_ws RX2 TX2 7, w ∈ wsX2_tellThing := by decide +kernel
theorem kX2_tellThing_5 : Cond.fieldLink RX2 32 "BeamSeats$Tape" "number" "I" ∈ wsX2_tellThing := List.mem_of_getElem? (i := 2) (by decide +kernel)
theorem kX2_tellThing_6 : Cond.fieldLink RX2 61 "BeamSeats$Island" "size" "I" ∈ wsX2_tellThing := List.mem_of_getElem? (i := 1) (by decide +kernel)
def f_X2_tellThing (N : Nat) (P : Nat → Nat → Int32) (F : Nat → Nat → Int32) (p2 : Int32) : Option (Int32 × (Nat → Nat → Int32) × (Nat → Nat → Int32)) :=
  if (8 : Int32) ≤ (F 0 4) then
    some ((0 : Int32), P, F)
  else
    q_bd2 (f_X2_numberBehind N P (0 : Int32) (59 : Int32)) (fun r_2 P_3 =>
    if r_2 = 0 then
      some ((0 : Int32), P_3, F)
    else
      q_bd2 (f_X0_add N F p2 (P_3 0 2)) (fun r_6 F_7 =>
      q_bd3 (f_X2_tellPart N P_3 (F_7 3) (9 : Int32) (9 : Int32) r_6) (fun r_9 P_10 E_11 =>
      q_let (va_up F_7 3 E_11) (fun F_13 =>
      if r_9 = 0 then
        some ((0 : Int32), P_10, F_13)
      else
        q_bd3 (f_X2_tellPart N P_10 (F_13 4) (10 : Int32) (99 : Int32) r_6) (fun r_15 P_16 E_17 =>
        q_let (va_up F_13 4 E_17) (fun F_19 =>
        if r_15 = 0 then
          some ((0 : Int32), P_16, F_19)
        else
          q_bd3 (f_X2_tellPart N P_16 (F_19 5) (11 : Int32) (59 : Int32) r_6) (fun r_21 P_22 E_23 =>
          q_let (va_up F_19 5 E_23) (fun F_25 =>
          if r_21 = 0 then
            some ((0 : Int32), P_22, F_25)
          else
            some ((1 : Int32), P_22, F_25)))))))))
set_option maxHeartbeats 4000000 in
set_option maxRecDepth 100000 in
theorem c_X2_tellThing (l : Launch) (D : va_G) (y : Nat → ClassId) (t : Nat → Nat) (q : Nat → Nat) (sz N : Nat) (P : Nat → Nat → Int32) (F : Nat → Nat → Int32) (p2 : Int32) (res : Int32 × (Nat → Nat → Int32) × (Nat → Nat → Int32)) (h : f_X2_tellThing N P F p2 = some res) : Met l yX2_tellThing wsX2_tellThing ({ frames := 3, cells := 0, slots := 0, locals := 68 } : Room) (pPre D y t [.ref (q 0), .ref (q 5), .int p2] (wTI y q P F) sz) (pQi D y (res.1) (wTI y q (res.2.1) (res.2.2)) (va_A (wTI y q P F) sz)) 0 0 (va_A (wTI y q P F) sz) := by
  refine q_start (Qc := (fun A => pQi D y (res.1) (wTI y q (res.2.1) (res.2.2)) A)) (cc := cX2_tellThing) (maxL := 4) (ret := (some .boolean)) (by decide) rfl (Nat.le_of_ble_eq_true rfl) ?_
  intro p e s m below meth c A ls hx hb hr hts hown hlocks hmn hml hP hK hZ hD hA hS hl
  have hl : lv_has ls 4 [(0, .ref (q 0)), (1, .ref (q 5)), (2, .int p2)] := hl
  have hown : s.vm.findClass RX2 = some m.cls := hown
  unfold f_X2_tellThing at h
  refine lv_aload_n hx hb dX2_tellThing_0 rfl (lv_at hl 1 rfl) ?_
  refine va_get (D := D) (ci := 0) (v := .int (F 0 4)) (C := RX0) (T := TX0) (N := 13) hx hb hts uX2_tellThing_X0 hown hK hP 5 rfl rfl 4 (by decide) (hts _ kX2_tellThing_6) (fun _ h9 => h9) rfl dX2_tellThing_1 ?_
  refine lv_bipush (v := 8) hx hb dX2_tellThing_4 (by decide) ?_
  refine lv_icmp_ge (tgt := 19) hx hb dX2_tellThing_6 (by decide) (fun c_1 => ?_) (fun c_1 => ?_)
  · have h := q_t c_1 h
    refine lv_iconst (v := 0) hx hb dX2_tellThing_19 (by decide) ?_
    have e9 := Option.some.inj h
    exact q_zret hx hb hr hlocks hK hP hD hS dX2_tellThing_20 rfl (by first | rw [← e9] | rfl) (by first | rw [← e9] | rfl)
  · have h := q_f c_1 h
    refine lv_aload_n hx hb dX2_tellThing_9 rfl (lv_at hl 0 rfl) ?_
    refine lv_iconst (v := 0) hx hb dX2_tellThing_10 (by decide) ?_
    refine lv_bipush (v := 59) hx hb dX2_tellThing_11 (by decide) ?_
    obtain ⟨r_2, P_3, hc_4, h⟩ := q_bd2_ok h
    refine q_ci (r := r_2) (va_runV (As := [.int (0 : Int32), .int (59 : Int32)]) (rest := []) ⟨hx, hb, hml, hown, hts⟩ (c_X2_numberBehind l D y t q _ N P (0 : Int32) (59 : Int32) (r_2, P_3) hc_4) (cwV 2 hts gX2_tellThing_X2_numberBehind rfl rfl rfl eX2_numberBehind ⟨Nat.le_of_ble_eq_true rfl, Nat.le_of_ble_eq_true rfl⟩) ⟨q_blind, (va_recv hK hP (ci := 2) (q0 := 0) rfl rfl), (q_pre hP hK hZ hD hA hS [0, 1, 2, 3, 4] rfl (by decide))⟩ rfl rfl hl.1 rfl (lv_room (Nat.le_of_ble_eq_true rfl)) dX2_tellThing_13 ⟨Nat.zero_le _, Nat.zero_le _⟩) hP hD hA hS [0, 1, 2, 3, 4] rfl (by decide) rfl (fun H locs hP hD hS => ?_)
    have hP : va_P D vwCl (wTI y q P_3 F) H := hP
    have hD : va_D A (wTI y q P_3 F) := hD
    refine lv_if_ne (tgt := 21) hx hb dX2_tellThing_16 (by decide) (fun c_5 => ?_) (fun c_5 => ?_)
    · have h := q_f c_5 h
      refine lv_aload_n hx hb dX2_tellThing_21 rfl (lv_at hl 1 rfl) ?_
      refine lv_iload_n hx hb dX2_tellThing_22 rfl (lv_at hl 2 rfl) ?_
      refine lv_aload_n hx hb dX2_tellThing_23 rfl (lv_at hl 0 rfl) ?_
      refine va_get (D := D) (ci := 2) (v := .int (P_3 0 2)) (C := RX2) (T := TX2) (N := 7) hx hb hts uX2_tellThing_X2 hown hK hP 0 rfl rfl 6 (by decide) (hts _ kX2_tellThing_5) (fun _ h9 => h9) rfl dX2_tellThing_24 ?_
      obtain ⟨r_6, F_7, hc_8, h⟩ := q_bd2_ok h
      refine q_ci (r := r_6) (va_runV (As := [.int p2, .int (P_3 0 2)]) (rest := []) ⟨hx, hb, hml, hown, hts⟩ (c_X0_add l D y t (fun k => q (k + 5)) _ N F p2 (P_3 0 2) (r_6, F_7) hc_8) (cwV 2 hts gX2_tellThing_X0_add rfl rfl rfl eX0_add ⟨Nat.le_of_ble_eq_true rfl, Nat.le_of_ble_eq_true rfl⟩) ⟨q_blind, (va_recv hK hP (ci := 0) (q0 := 5) rfl rfl), (q_pre hP hK hZ hD hA hS [5, 6, 7, 8, 9, 10, 11] rfl (by decide))⟩ rfl rfl hl.1 rfl (lv_room (Nat.le_of_ble_eq_true rfl)) dX2_tellThing_27 ⟨Nat.zero_le _, Nat.zero_le _⟩) hP hD hA hS [5, 6, 7, 8, 9, 10, 11] rfl (by decide) rfl (fun H locs hP hD hS => ?_)
      have hP : va_P D vwCl (wTI y q P_3 F_7) H := hP
      have hD : va_D A (wTI y q P_3 F_7) := hD
      refine lv_istore_n (lv' := [(3, .int r_6), (0, .ref (q 0)), (1, .ref (q 5)), (2, .int p2)]) hx hb dX2_tellThing_30 rfl hl (by decide) rfl (fun ls hl => ?_)
      refine lv_aload_n hx hb dX2_tellThing_31 rfl (lv_at hl 1 rfl) ?_
      refine lv_bipush (v := 9) hx hb dX2_tellThing_32 (by decide) ?_
      refine lv_bipush (v := 9) hx hb dX2_tellThing_34 (by decide) ?_
      refine lv_aload_n hx hb dX2_tellThing_36 rfl (lv_at hl 2 rfl) ?_
      refine va_get (D := D) (ci := 0) (v := .ref (q 8)) (C := RX0) (T := TX0) (N := 13) hx hb hts uX2_tellThing_X0 hown hK hP 5 rfl rfl 9 (by decide) (hts _ kX2_tellThing_3) (fun _ h9 => h9) rfl dX2_tellThing_37 ?_
      refine lv_iload_n hx hb dX2_tellThing_40 rfl (lv_at hl 0 rfl) ?_
      obtain ⟨r_9, P_10, E_11, hc_12, h⟩ := q_bd3_ok h
      obtain ⟨F_13, eF_13, h⟩ := q_let_ok h
      refine q_ci (r := r_9) (va_runV (As := [.int (9 : Int32), .int (9 : Int32), .ref (q 8), .int r_6]) (rest := []) ⟨hx, hb, hml, hown, hts⟩ (c_X2_tellPart l D y t (fun k => if k < 5 then q (k + 0) else q 8) _ N P_3 (F_7 3) (9 : Int32) (9 : Int32) r_6 (r_9, P_10, E_11) hc_12) (cwV 4 hts gX2_tellThing_X2_tellPart rfl rfl rfl eX2_tellPart ⟨Nat.le_of_ble_eq_true rfl, Nat.le_of_ble_eq_true rfl⟩) ⟨q_blind, (va_recv hK hP (ci := 2) (q0 := 0) rfl rfl), (q_pre hP hK hZ hD hA hS [0, 1, 2, 3, 4, 8] rfl (by decide))⟩ rfl rfl hl.1 rfl (lv_room (Nat.le_of_ble_eq_true rfl)) dX2_tellThing_41 ⟨Nat.zero_le _, Nat.zero_le _⟩) hP hD hA hS [0, 1, 2, 3, 4, 8] rfl (by decide) rfl (fun H locs hP hD hS => ?_)
      have hP : va_P D vwCl (wTI y q P_10 F_13) H := by rw [eF_13]; exact hP
      have hD : va_D A (wTI y q P_10 F_13) := by rw [eF_13]; exact hD
      refine lv_if_eq (tgt := 83) hx hb dX2_tellThing_44 (by decide) (fun c_14 => ?_) (fun c_14 => ?_)
      · have h := q_t c_14 h
        refine lv_iconst (v := 0) hx hb dX2_tellThing_83 (by decide) ?_
        have e9 := Option.some.inj h
        exact q_zret hx hb hr hlocks hK hP hD hS dX2_tellThing_84 rfl (by first | rw [← e9] | rfl) (by first | rw [← e9] | rfl)
      · have h := q_f c_14 h
        refine lv_aload_n hx hb dX2_tellThing_47 rfl (lv_at hl 1 rfl) ?_
        refine lv_bipush (v := 10) hx hb dX2_tellThing_48 (by decide) ?_
        refine lv_bipush (v := 99) hx hb dX2_tellThing_50 (by decide) ?_
        refine lv_aload_n hx hb dX2_tellThing_52 rfl (lv_at hl 2 rfl) ?_
        refine va_get (D := D) (ci := 0) (v := .ref (q 9)) (C := RX0) (T := TX0) (N := 13) hx hb hts uX2_tellThing_X0 hown hK hP 5 rfl rfl 10 (by decide) (hts _ kX2_tellThing_2) (fun _ h9 => h9) rfl dX2_tellThing_53 ?_
        refine lv_iload_n hx hb dX2_tellThing_56 rfl (lv_at hl 0 rfl) ?_
        obtain ⟨r_15, P_16, E_17, hc_18, h⟩ := q_bd3_ok h
        obtain ⟨F_19, eF_19, h⟩ := q_let_ok h
        refine q_ci (r := r_15) (va_runV (As := [.int (10 : Int32), .int (99 : Int32), .ref (q 9), .int r_6]) (rest := []) ⟨hx, hb, hml, hown, hts⟩ (c_X2_tellPart l D y t (fun k => if k < 5 then q (k + 0) else q 9) _ N P_10 (F_13 4) (10 : Int32) (99 : Int32) r_6 (r_15, P_16, E_17) hc_18) (cwV 4 hts gX2_tellThing_X2_tellPart rfl rfl rfl eX2_tellPart ⟨Nat.le_of_ble_eq_true rfl, Nat.le_of_ble_eq_true rfl⟩) ⟨q_blind, (va_recv hK hP (ci := 2) (q0 := 0) rfl rfl), (q_pre hP hK hZ hD hA hS [0, 1, 2, 3, 4, 9] rfl (by decide))⟩ rfl rfl hl.1 rfl (lv_room (Nat.le_of_ble_eq_true rfl)) dX2_tellThing_57 ⟨Nat.zero_le _, Nat.zero_le _⟩) hP hD hA hS [0, 1, 2, 3, 4, 9] rfl (by decide) rfl (fun H locs hP hD hS => ?_)
        have hP : va_P D vwCl (wTI y q P_16 F_19) H := by rw [eF_19]; exact hP
        have hD : va_D A (wTI y q P_16 F_19) := by rw [eF_19]; exact hD
        refine lv_if_eq (tgt := 83) hx hb dX2_tellThing_60 (by decide) (fun c_20 => ?_) (fun c_20 => ?_)
        · have h := q_t c_20 h
          refine lv_iconst (v := 0) hx hb dX2_tellThing_83 (by decide) ?_
          have e9 := Option.some.inj h
          exact q_zret hx hb hr hlocks hK hP hD hS dX2_tellThing_84 rfl (by first | rw [← e9] | rfl) (by first | rw [← e9] | rfl)
        · have h := q_f c_20 h
          refine lv_aload_n hx hb dX2_tellThing_63 rfl (lv_at hl 1 rfl) ?_
          refine lv_bipush (v := 11) hx hb dX2_tellThing_64 (by decide) ?_
          refine lv_bipush (v := 59) hx hb dX2_tellThing_66 (by decide) ?_
          refine lv_aload_n hx hb dX2_tellThing_68 rfl (lv_at hl 2 rfl) ?_
          refine va_get (D := D) (ci := 0) (v := .ref (q 10)) (C := RX0) (T := TX0) (N := 13) hx hb hts uX2_tellThing_X0 hown hK hP 5 rfl rfl 11 (by decide) (hts _ kX2_tellThing_1) (fun _ h9 => h9) rfl dX2_tellThing_69 ?_
          refine lv_iload_n hx hb dX2_tellThing_72 rfl (lv_at hl 0 rfl) ?_
          obtain ⟨r_21, P_22, E_23, hc_24, h⟩ := q_bd3_ok h
          obtain ⟨F_25, eF_25, h⟩ := q_let_ok h
          refine q_ci (r := r_21) (va_runV (As := [.int (11 : Int32), .int (59 : Int32), .ref (q 10), .int r_6]) (rest := []) ⟨hx, hb, hml, hown, hts⟩ (c_X2_tellPart l D y t (fun k => if k < 5 then q (k + 0) else q 10) _ N P_16 (F_19 5) (11 : Int32) (59 : Int32) r_6 (r_21, P_22, E_23) hc_24) (cwV 4 hts gX2_tellThing_X2_tellPart rfl rfl rfl eX2_tellPart ⟨Nat.le_of_ble_eq_true rfl, Nat.le_of_ble_eq_true rfl⟩) ⟨q_blind, (va_recv hK hP (ci := 2) (q0 := 0) rfl rfl), (q_pre hP hK hZ hD hA hS [0, 1, 2, 3, 4, 10] rfl (by decide))⟩ rfl rfl hl.1 rfl (lv_room (Nat.le_of_ble_eq_true rfl)) dX2_tellThing_73 ⟨Nat.zero_le _, Nat.zero_le _⟩) hP hD hA hS [0, 1, 2, 3, 4, 10] rfl (by decide) rfl (fun H locs hP hD hS => ?_)
          have hP : va_P D vwCl (wTI y q P_22 F_25) H := by rw [eF_25]; exact hP
          have hD : va_D A (wTI y q P_22 F_25) := by rw [eF_25]; exact hD
          refine lv_if_eq (tgt := 83) hx hb dX2_tellThing_76 (by decide) (fun c_26 => ?_) (fun c_26 => ?_)
          · have h := q_t c_26 h
            refine lv_iconst (v := 0) hx hb dX2_tellThing_83 (by decide) ?_
            have e9 := Option.some.inj h
            exact q_zret hx hb hr hlocks hK hP hD hS dX2_tellThing_84 rfl (by first | rw [← e9] | rfl) (by first | rw [← e9] | rfl)
          · have h := q_f c_26 h
            refine lv_iconst (v := 1) hx hb dX2_tellThing_79 (by decide) ?_
            refine lv_goto (tgt := 84) hx hb dX2_tellThing_80 (by decide) ?_
            have e9 := Option.some.inj h
            exact q_zret hx hb hr hlocks hK hP hD hS dX2_tellThing_84 rfl (by first | rw [← e9] | rfl) (by first | rw [← e9] | rfl)
    · have h := q_t c_5 h
      refine lv_iconst (v := 0) hx hb dX2_tellThing_19 (by decide) ?_
      have e9 := Option.some.inj h
      exact q_zret hx hb hr hlocks hK hP hD hS dX2_tellThing_20 rfl (by first | rw [← e9] | rfl) (by first | rw [← e9] | rfl)
theorem eX2_tellThing : yX2_tellThing.cls = RX2 ∧ yX2_tellThing.cls ≠ "java/lang/invoke/MethodHandle" ∧ yX2_tellThing.cls ≠ "java/lang/invoke/VarHandle" ∧ (parseMethodDescriptor yX2_tellThing.desc).map (fun d => d.parameters.length) = some 2 := by decide +kernel
theorem uX2_tellItem_X0 : ∀ w ∈ u_ws RX0 TX0 13, w ∈ wsX2_tellItem := by decide +kernel
theorem kX2_tellItem_1 : Cond.fieldLink RX2 58 "BeamSeats$Island" "thick" "I" ∈ wsX2_tellItem := List.mem_of_getElem? (i := 7) (by decide +kernel)
theorem uX2_tellItem_X2 : ∀ w ∈ u_ws RX2 TX2 7, w ∈ wsX2_tellItem := by decide +kernel
theorem kX2_tellItem_3 : Cond.fieldLink RX2 32 "BeamSeats$Tape" "number" "I" ∈ wsX2_tellItem := List.mem_of_getElem? (i := 4) (by decide +kernel)
theorem kX2_tellItem_4 : Cond.fieldLink RX2 55 "BeamSeats$Island" "speed" "I" ∈ wsX2_tellItem := List.mem_of_getElem? (i := 6) (by decide +kernel)
theorem kX2_tellItem_5 : Cond.fieldLink RX2 50 "BeamSeats$Island" "bearing" "I" ∈ wsX2_tellItem := List.mem_of_getElem? (i := 5) (by decide +kernel)
theorem kX2_tellItem_6 : Cond.fieldLink RX2 29 "BeamSeats$Tape" "next" "I" ∈ wsX2_tellItem := List.mem_of_getElem? (i := 2) (by decide +kernel)
theorem kX2_tellItem_7 : Cond.fieldLink RX2 26 "BeamSeats$Tape" "values" "[I" ∈ wsX2_tellItem := List.mem_of_getElem? (i := 3) (by decide +kernel)
theorem kX2_tellItem_8 : Cond.fieldLink RX2 19 "BeamSeats$Tape" "tokens" "[I" ∈ wsX2_tellItem := List.mem_of_getElem? (i := 1) (by decide +kernel)
def f_X2_tellItem_B89 (N : Nat) (P : Nat → Nat → Int32) (F : Nat → Nat → Int32) (v2 : Int32) : Option (Int32 × (Nat → Nat → Int32) × (Nat → Nat → Int32)) :=
  if v2 = (8 : Int32) then
    q_bd2 (f_X2_numberBehind N P (1 : Int32) (40 : Int32)) (fun r_9 P_10 =>
    if r_9 = 0 then
      some ((0 : Int32), P_10, F)
    else
      q_let (q_up F 0 3 (P_10 0 2)) (fun F_13 =>
      some ((1 : Int32), P_10, F_13)))
  else
    some ((0 : Int32), P, F)
def f_X2_tellItem_B63 (N : Nat) (P : Nat → Nat → Int32) (F : Nat → Nat → Int32) (v2 : Int32) : Option (Int32 × (Nat → Nat → Int32) × (Nat → Nat → Int32)) :=
  if v2 = (7 : Int32) then
    q_bd2 (f_X2_numberBehind N P (1 : Int32) (10 : Int32)) (fun r_14 P_15 =>
    if r_14 = 0 then
      f_X2_tellItem_B89 N P_15 F v2
    else
      q_let (q_up F 0 2 (P_15 0 2)) (fun F_18 =>
      some ((1 : Int32), P_15, F_18)))
  else
    f_X2_tellItem_B89 N P F v2
def f_X2_tellItem (N : Nat) (P : Nat → Nat → Int32) (F : Nat → Nat → Int32) : Option (Int32 × (Nat → Nat → Int32) × (Nat → Nat → Int32)) :=
  q_grd (P 0 1) 121 (
  if (P 2 (P 0 1).toNatClampNeg) = (1 : Int32) then
    q_grd (P 0 1) 121 (
    q_let (P 4 (P 0 1).toNatClampNeg) (fun x_4 =>
    if (5 : Int32) < x_4 then
      if x_4 = (6 : Int32) then
        q_bd2 (f_X2_numberBehind N P (0 : Int32) (59 : Int32)) (fun r_19 P_20 =>
        if r_19 = 0 then
          f_X2_tellItem_B63 N P_20 F x_4
        else
          q_let (q_up F 0 1 (P_20 0 2)) (fun F_23 =>
          some ((1 : Int32), P_20, F_23)))
      else
        f_X2_tellItem_B63 N P F x_4
    else
      q_bd3 (f_X2_tellThing N P F x_4) (fun r_24 P_25 F_26 =>
      q_gb r_24 (some (r_24, P_25, F_26)))))
  else
    some ((0 : Int32), P, F))
set_option maxHeartbeats 4000000 in
set_option maxRecDepth 100000 in
theorem c_X2_tellItem (l : Launch) (D : va_G) (y : Nat → ClassId) (t : Nat → Nat) (q : Nat → Nat) (sz N : Nat) (P : Nat → Nat → Int32) (F : Nat → Nat → Int32) (res : Int32 × (Nat → Nat → Int32) × (Nat → Nat → Int32)) (h : f_X2_tellItem N P F = some res) : Met l yX2_tellItem wsX2_tellItem ({ frames := 4, cells := 0, slots := 0, locals := 91 } : Room) (pPre D y t [.ref (q 0), .ref (q 5)] (wTI y q P F) sz) (pQi D y (res.1) (wTI y q (res.2.1) (res.2.2)) (va_A (wTI y q P F) sz)) 0 0 (va_A (wTI y q P F) sz) := by
  refine q_start (Qc := (fun A => pQi D y (res.1) (wTI y q (res.2.1) (res.2.2)) A)) (cc := cX2_tellItem) (maxL := 3) (ret := (some .boolean)) (by decide) rfl (Nat.le_of_ble_eq_true rfl) ?_
  intro p e s m below meth c A ls hx hb hr hts hown hlocks hmn hml hP hK hZ hD hA hS hl
  have hl : lv_has ls 3 [(0, .ref (q 0)), (1, .ref (q 5))] := hl
  have hown : s.vm.findClass RX2 = some m.cls := hown
  have B89 : ∀ (P : Nat → Nat → Int32) (F : Nat → Nat → Int32) (v2 : Int32) (H : Heap) (locs : List Loc) (ls : Array Slot), va_P D vwCl (wTI y q P F) H → va_D A (wTI y q P F) → va_S A s.heap H locs → lv_has ls 3 [(0, .ref (q 0)), (1, .ref (q 5)), (2, .int v2)] → f_X2_tellItem_B89 N P F v2 = some res → W p l e ({ frames := 4, cells := 0, slots := 0, locals := 91 } : Room) s m ([.ref (q 0), .ref (q 5)] : List Value).toArray below meth c H locs 0 0 (MQ below (pQi D y (res.1) (wTI y q (res.2.1) (res.2.2)) A) ([.ref (q 0), .ref (q 5)] : List Value).toArray s 0 0 A) (F0 m 89 ls []) := by
    intro P F v2 H locs ls hP hD hS hl h
    unfold f_X2_tellItem_B89 at h
    refine lv_iload_n hx hb dX2_tellItem_89 rfl (lv_at hl 2 rfl) ?_
    refine lv_bipush (v := 8) hx hb dX2_tellItem_90 (by decide) ?_
    refine lv_icmp_ne (tgt := 115) hx hb dX2_tellItem_92 (by decide) (fun c_8 => ?_) (fun c_8 => ?_)
    · have h := q_f c_8 h
      refine lv_iconst (v := 0) hx hb dX2_tellItem_115 (by decide) ?_
      have e9 := Option.some.inj h
      exact q_zret hx hb hr hlocks hK hP hD hS dX2_tellItem_116 rfl (by first | rw [← e9] | rfl) (by first | rw [← e9] | rfl)
    · have h := q_t c_8 h
      refine lv_aload_n hx hb dX2_tellItem_95 rfl (lv_at hl 0 rfl) ?_
      refine lv_iconst (v := 1) hx hb dX2_tellItem_96 (by decide) ?_
      refine lv_bipush (v := 40) hx hb dX2_tellItem_97 (by decide) ?_
      obtain ⟨r_9, P_10, hc_11, h⟩ := q_bd2_ok h
      refine q_ci (r := r_9) (va_runV (As := [.int (1 : Int32), .int (40 : Int32)]) (rest := []) ⟨hx, hb, hml, hown, hts⟩ (c_X2_numberBehind l D y t q _ N P (1 : Int32) (40 : Int32) (r_9, P_10) hc_11) (cwV 2 hts gX2_tellItem_X2_numberBehind rfl rfl rfl eX2_numberBehind ⟨Nat.le_of_ble_eq_true rfl, Nat.le_of_ble_eq_true rfl⟩) ⟨q_blind, (va_recv hK hP (ci := 2) (q0 := 0) rfl rfl), (q_pre hP hK hZ hD hA hS [0, 1, 2, 3, 4] rfl (by decide))⟩ rfl rfl hl.1 rfl (lv_room (Nat.le_of_ble_eq_true rfl)) dX2_tellItem_99 ⟨Nat.zero_le _, Nat.zero_le _⟩) hP hD hA hS [0, 1, 2, 3, 4] rfl (by decide) rfl (fun H locs hP hD hS => ?_)
      have hP : va_P D vwCl (wTI y q P_10 F) H := hP
      have hD : va_D A (wTI y q P_10 F) := hD
      refine lv_if_eq (tgt := 115) hx hb dX2_tellItem_102 (by decide) (fun c_12 => ?_) (fun c_12 => ?_)
      · have h := q_t c_12 h
        refine lv_iconst (v := 0) hx hb dX2_tellItem_115 (by decide) ?_
        have e9 := Option.some.inj h
        exact q_zret hx hb hr hlocks hK hP hD hS dX2_tellItem_116 rfl (by first | rw [← e9] | rfl) (by first | rw [← e9] | rfl)
      · have h := q_f c_12 h
        refine lv_aload_n hx hb dX2_tellItem_105 rfl (lv_at hl 1 rfl) ?_
        refine lv_aload_n hx hb dX2_tellItem_106 rfl (lv_at hl 0 rfl) ?_
        refine va_get (D := D) (ci := 2) (v := .int (P_10 0 2)) (C := RX2) (T := TX2) (N := 7) hx hb hts uX2_tellItem_X2 hown hK hP 0 rfl rfl 6 (by decide) (hts _ kX2_tellItem_3) (fun _ h9 => h9) rfl dX2_tellItem_107 ?_
        obtain ⟨F_13, eF_13, h⟩ := q_let_ok h
        refine va_put (D := D) (ci := 0) (v := .int (P_10 0 2)) (ty := .int) (C := RX0) (T := TX0) (N := 13) hx hb hts uX2_tellItem_X0 tyX0 tyX0_ok nmX0 hown hK hP hD hS 5 rfl rfl 3 (by decide) (hts _ kX2_tellItem_1) (fun _ h9 => h9) rfl (by decide +kernel) rfl rfl (Nat.le_of_ble_eq_true rfl) dX2_tellItem_110 (fun H locs hP hD hS => ?_)
        have hP : va_P D vwCl (wTI y q P_10 F_13) H := by rw [eF_13]; exact hP
        have hD : va_D A (wTI y q P_10 F_13) := by rw [eF_13]; exact hD
        refine lv_iconst (v := 1) hx hb dX2_tellItem_113 (by decide) ?_
        have e9 := Option.some.inj h
        exact q_zret hx hb hr hlocks hK hP hD hS dX2_tellItem_114 rfl (by first | rw [← e9] | rfl) (by first | rw [← e9] | rfl)
  have B63 : ∀ (P : Nat → Nat → Int32) (F : Nat → Nat → Int32) (v2 : Int32) (H : Heap) (locs : List Loc) (ls : Array Slot), va_P D vwCl (wTI y q P F) H → va_D A (wTI y q P F) → va_S A s.heap H locs → lv_has ls 3 [(0, .ref (q 0)), (1, .ref (q 5)), (2, .int v2)] → f_X2_tellItem_B63 N P F v2 = some res → W p l e ({ frames := 4, cells := 0, slots := 0, locals := 91 } : Room) s m ([.ref (q 0), .ref (q 5)] : List Value).toArray below meth c H locs 0 0 (MQ below (pQi D y (res.1) (wTI y q (res.2.1) (res.2.2)) A) ([.ref (q 0), .ref (q 5)] : List Value).toArray s 0 0 A) (F0 m 63 ls []) := by
    intro P F v2 H locs ls hP hD hS hl h
    unfold f_X2_tellItem_B63 at h
    refine lv_iload_n hx hb dX2_tellItem_63 rfl (lv_at hl 2 rfl) ?_
    refine lv_bipush (v := 7) hx hb dX2_tellItem_64 (by decide) ?_
    refine lv_icmp_ne (tgt := 89) hx hb dX2_tellItem_66 (by decide) (fun c_7 => ?_) (fun c_7 => ?_)
    · have h := q_f c_7 h
      exact B89 P F v2 _ _ _ hP hD hS (lv_sub hl [0, 1, 2] rfl) h
    · have h := q_t c_7 h
      refine lv_aload_n hx hb dX2_tellItem_69 rfl (lv_at hl 0 rfl) ?_
      refine lv_iconst (v := 1) hx hb dX2_tellItem_70 (by decide) ?_
      refine lv_bipush (v := 10) hx hb dX2_tellItem_71 (by decide) ?_
      obtain ⟨r_14, P_15, hc_16, h⟩ := q_bd2_ok h
      refine q_ci (r := r_14) (va_runV (As := [.int (1 : Int32), .int (10 : Int32)]) (rest := []) ⟨hx, hb, hml, hown, hts⟩ (c_X2_numberBehind l D y t q _ N P (1 : Int32) (10 : Int32) (r_14, P_15) hc_16) (cwV 2 hts gX2_tellItem_X2_numberBehind rfl rfl rfl eX2_numberBehind ⟨Nat.le_of_ble_eq_true rfl, Nat.le_of_ble_eq_true rfl⟩) ⟨q_blind, (va_recv hK hP (ci := 2) (q0 := 0) rfl rfl), (q_pre hP hK hZ hD hA hS [0, 1, 2, 3, 4] rfl (by decide))⟩ rfl rfl hl.1 rfl (lv_room (Nat.le_of_ble_eq_true rfl)) dX2_tellItem_73 ⟨Nat.zero_le _, Nat.zero_le _⟩) hP hD hA hS [0, 1, 2, 3, 4] rfl (by decide) rfl (fun H locs hP hD hS => ?_)
      have hP : va_P D vwCl (wTI y q P_15 F) H := hP
      have hD : va_D A (wTI y q P_15 F) := hD
      refine lv_if_eq (tgt := 89) hx hb dX2_tellItem_76 (by decide) (fun c_17 => ?_) (fun c_17 => ?_)
      · have h := q_t c_17 h
        exact B89 P_15 F v2 _ _ _ hP hD hS (lv_sub hl [0, 1, 2] rfl) h
      · have h := q_f c_17 h
        refine lv_aload_n hx hb dX2_tellItem_79 rfl (lv_at hl 1 rfl) ?_
        refine lv_aload_n hx hb dX2_tellItem_80 rfl (lv_at hl 0 rfl) ?_
        refine va_get (D := D) (ci := 2) (v := .int (P_15 0 2)) (C := RX2) (T := TX2) (N := 7) hx hb hts uX2_tellItem_X2 hown hK hP 0 rfl rfl 6 (by decide) (hts _ kX2_tellItem_3) (fun _ h9 => h9) rfl dX2_tellItem_81 ?_
        obtain ⟨F_18, eF_18, h⟩ := q_let_ok h
        refine va_put (D := D) (ci := 0) (v := .int (P_15 0 2)) (ty := .int) (C := RX0) (T := TX0) (N := 13) hx hb hts uX2_tellItem_X0 tyX0 tyX0_ok nmX0 hown hK hP hD hS 5 rfl rfl 2 (by decide) (hts _ kX2_tellItem_4) (fun _ h9 => h9) rfl (by decide +kernel) rfl rfl (Nat.le_of_ble_eq_true rfl) dX2_tellItem_84 (fun H locs hP hD hS => ?_)
        have hP : va_P D vwCl (wTI y q P_15 F_18) H := by rw [eF_18]; exact hP
        have hD : va_D A (wTI y q P_15 F_18) := by rw [eF_18]; exact hD
        refine lv_iconst (v := 1) hx hb dX2_tellItem_87 (by decide) ?_
        have e9 := Option.some.inj h
        exact q_zret hx hb hr hlocks hK hP hD hS dX2_tellItem_88 rfl (by first | rw [← e9] | rfl) (by first | rw [← e9] | rfl)
  unfold f_X2_tellItem at h
  refine lv_aload_n hx hb dX2_tellItem_0 rfl (lv_at hl 0 rfl) ?_
  refine va_get (D := D) (ci := 2) (v := .ref (q 2)) (C := RX2) (T := TX2) (N := 7) hx hb hts uX2_tellItem_X2 hown hK hP 0 rfl rfl 2 (by decide) (hts _ kX2_tellItem_8) (fun _ h9 => h9) rfl dX2_tellItem_1 ?_
  refine lv_aload_n hx hb dX2_tellItem_4 rfl (lv_at hl 0 rfl) ?_
  refine va_get (D := D) (ci := 2) (v := .int (P 0 1)) (C := RX2) (T := TX2) (N := 7) hx hb hts uX2_tellItem_X2 hown hK hP 0 rfl rfl 5 (by decide) (hts _ kX2_tellItem_6) (fun _ h9 => h9) rfl dX2_tellItem_5 ?_
  obtain ⟨z_1, h⟩ := q_grd_ok h
  refine va_iald hx hb hK hP 2 0 rfl rfl z_1 dX2_tellItem_8 ?_
  refine lv_iconst (v := 1) hx hb dX2_tellItem_9 (by decide) ?_
  refine lv_icmp_eq (tgt := 15) hx hb dX2_tellItem_10 (by decide) (fun c_2 => ?_) (fun c_2 => ?_)
  · have h := q_t c_2 h
    refine lv_aload_n hx hb dX2_tellItem_15 rfl (lv_at hl 0 rfl) ?_
    refine va_get (D := D) (ci := 2) (v := .ref (q 4)) (C := RX2) (T := TX2) (N := 7) hx hb hts uX2_tellItem_X2 hown hK hP 0 rfl rfl 4 (by decide) (hts _ kX2_tellItem_7) (fun _ h9 => h9) rfl dX2_tellItem_16 ?_
    refine lv_aload_n hx hb dX2_tellItem_19 rfl (lv_at hl 0 rfl) ?_
    refine va_get (D := D) (ci := 2) (v := .int (P 0 1)) (C := RX2) (T := TX2) (N := 7) hx hb hts uX2_tellItem_X2 hown hK hP 0 rfl rfl 5 (by decide) (hts _ kX2_tellItem_6) (fun _ h9 => h9) rfl dX2_tellItem_20 ?_
    obtain ⟨z_3, h⟩ := q_grd_ok h
    refine va_iald hx hb hK hP 4 0 rfl rfl z_3 dX2_tellItem_23 ?_
    refine lv_topi (fun x_4 ex_4 => ?_)
    have h := q_let_at ex_4 h
    refine lv_istore_n (lv' := [(2, .int x_4), (0, .ref (q 0)), (1, .ref (q 5))]) hx hb dX2_tellItem_24 rfl hl (by decide) rfl (fun ls hl => ?_)
    refine lv_iload_n hx hb dX2_tellItem_25 rfl (lv_at hl 0 rfl) ?_
    refine lv_iconst (v := 5) hx hb dX2_tellItem_26 (by decide) ?_
    refine lv_icmp_gt (tgt := 37) hx hb dX2_tellItem_27 (by decide) (fun c_5 => ?_) (fun c_5 => ?_)
    · have h := q_t c_5 h
      refine lv_iload_n hx hb dX2_tellItem_37 rfl (lv_at hl 0 rfl) ?_
      refine lv_bipush (v := 6) hx hb dX2_tellItem_38 (by decide) ?_
      refine lv_icmp_ne (tgt := 63) hx hb dX2_tellItem_40 (by decide) (fun c_6 => ?_) (fun c_6 => ?_)
      · have h := q_f c_6 h
        exact B63 P F x_4 _ _ _ hP hD hS (lv_sub hl [1, 2, 0] rfl) h
      · have h := q_t c_6 h
        refine lv_aload_n hx hb dX2_tellItem_43 rfl (lv_at hl 1 rfl) ?_
        refine lv_iconst (v := 0) hx hb dX2_tellItem_44 (by decide) ?_
        refine lv_bipush (v := 59) hx hb dX2_tellItem_45 (by decide) ?_
        obtain ⟨r_19, P_20, hc_21, h⟩ := q_bd2_ok h
        refine q_ci (r := r_19) (va_runV (As := [.int (0 : Int32), .int (59 : Int32)]) (rest := []) ⟨hx, hb, hml, hown, hts⟩ (c_X2_numberBehind l D y t q _ N P (0 : Int32) (59 : Int32) (r_19, P_20) hc_21) (cwV 2 hts gX2_tellItem_X2_numberBehind rfl rfl rfl eX2_numberBehind ⟨Nat.le_of_ble_eq_true rfl, Nat.le_of_ble_eq_true rfl⟩) ⟨q_blind, (va_recv hK hP (ci := 2) (q0 := 0) rfl rfl), (q_pre hP hK hZ hD hA hS [0, 1, 2, 3, 4] rfl (by decide))⟩ rfl rfl hl.1 rfl (lv_room (Nat.le_of_ble_eq_true rfl)) dX2_tellItem_47 ⟨Nat.zero_le _, Nat.zero_le _⟩) hP hD hA hS [0, 1, 2, 3, 4] rfl (by decide) rfl (fun H locs hP hD hS => ?_)
        have hP : va_P D vwCl (wTI y q P_20 F) H := hP
        have hD : va_D A (wTI y q P_20 F) := hD
        refine lv_if_eq (tgt := 63) hx hb dX2_tellItem_50 (by decide) (fun c_22 => ?_) (fun c_22 => ?_)
        · have h := q_t c_22 h
          exact B63 P_20 F x_4 _ _ _ hP hD hS (lv_sub hl [1, 2, 0] rfl) h
        · have h := q_f c_22 h
          refine lv_aload_n hx hb dX2_tellItem_53 rfl (lv_at hl 2 rfl) ?_
          refine lv_aload_n hx hb dX2_tellItem_54 rfl (lv_at hl 1 rfl) ?_
          refine va_get (D := D) (ci := 2) (v := .int (P_20 0 2)) (C := RX2) (T := TX2) (N := 7) hx hb hts uX2_tellItem_X2 hown hK hP 0 rfl rfl 6 (by decide) (hts _ kX2_tellItem_3) (fun _ h9 => h9) rfl dX2_tellItem_55 ?_
          obtain ⟨F_23, eF_23, h⟩ := q_let_ok h
          refine va_put (D := D) (ci := 0) (v := .int (P_20 0 2)) (ty := .int) (C := RX0) (T := TX0) (N := 13) hx hb hts uX2_tellItem_X0 tyX0 tyX0_ok nmX0 hown hK hP hD hS 5 rfl rfl 1 (by decide) (hts _ kX2_tellItem_5) (fun _ h9 => h9) rfl (by decide +kernel) rfl rfl (Nat.le_of_ble_eq_true rfl) dX2_tellItem_58 (fun H locs hP hD hS => ?_)
          have hP : va_P D vwCl (wTI y q P_20 F_23) H := by rw [eF_23]; exact hP
          have hD : va_D A (wTI y q P_20 F_23) := by rw [eF_23]; exact hD
          refine lv_iconst (v := 1) hx hb dX2_tellItem_61 (by decide) ?_
          have e9 := Option.some.inj h
          exact q_zret hx hb hr hlocks hK hP hD hS dX2_tellItem_62 rfl (by first | rw [← e9] | rfl) (by first | rw [← e9] | rfl)
    · have h := q_f c_5 h
      refine lv_aload_n hx hb dX2_tellItem_30 rfl (lv_at hl 1 rfl) ?_
      refine lv_aload_n hx hb dX2_tellItem_31 rfl (lv_at hl 2 rfl) ?_
      refine lv_iload_n hx hb dX2_tellItem_32 rfl (lv_at hl 0 rfl) ?_
      obtain ⟨r_24, P_25, F_26, hc_27, h⟩ := q_bd3_ok h
      refine q_ci (r := r_24) (va_runV (As := [.ref (q 5), .int x_4]) (rest := []) ⟨hx, hb, hml, hown, hts⟩ (c_X2_tellThing l D y t q _ N P F x_4 (r_24, P_25, F_26) hc_27) (cwV 2 hts gX2_tellItem_X2_tellThing rfl rfl rfl eX2_tellThing ⟨Nat.le_of_ble_eq_true rfl, Nat.le_of_ble_eq_true rfl⟩) ⟨q_blind, (va_recv hK hP (ci := 2) (q0 := 0) rfl rfl), (q_pre hP hK hZ hD hA hS [0, 1, 2, 3, 4, 5, 6, 7, 8, 9, 10, 11] rfl (by decide))⟩ rfl rfl hl.1 rfl (lv_room (Nat.le_of_ble_eq_true rfl)) dX2_tellItem_33 ⟨Nat.zero_le _, Nat.zero_le _⟩) hP hD hA hS [0, 1, 2, 3, 4, 5, 6, 7, 8, 9, 10, 11] rfl (by decide) rfl (fun H locs hP hD hS => ?_)
      have hP : va_P D vwCl (wTI y q P_25 F_26) H := hP
      have hD : va_D A (wTI y q P_25 F_26) := hD
      obtain ⟨hg9, h⟩ := q_gb_ok h
      have e9 := Option.some.inj h
      exact q_zret hx hb hr hlocks hK hP hD hS dX2_tellItem_36 (q_gb_nar hg9) (by first | rw [← e9] | rfl) (by first | rw [← e9] | rfl)
  · have h := q_f c_2 h
    refine lv_iconst (v := 0) hx hb dX2_tellItem_13 (by decide) ?_
    have e9 := Option.some.inj h
    exact q_zret hx hb hr hlocks hK hP hD hS dX2_tellItem_14 rfl (by first | rw [← e9] | rfl) (by first | rw [← e9] | rfl)
theorem eX2_tellItem : yX2_tellItem.cls = RX2 ∧ yX2_tellItem.cls ≠ "java/lang/invoke/MethodHandle" ∧ yX2_tellItem.cls ≠ "java/lang/invoke/VarHandle" ∧ (parseMethodDescriptor yX2_tellItem.desc).map (fun d => d.parameters.length) = some 1 := by decide +kernel
theorem uX2_tell_X2 : ∀ w ∈ u_ws RX2 TX2 7, w ∈ wsX2_tell := by decide +kernel
theorem kX2_tell_1 : Cond.fieldLink RX2 29 "BeamSeats$Tape" "next" "I" ∈ wsX2_tell := List.mem_of_getElem? (i := 1) (by decide +kernel)
theorem kX2_tell_2 : Cond.fieldLink RX2 23 "BeamSeats$Tape" "starts" "[I" ∈ wsX2_tell := List.mem_of_getElem? (i := 3) (by decide +kernel)
theorem kX2_tell_3 : Cond.fieldLink RX2 19 "BeamSeats$Tape" "tokens" "[I" ∈ wsX2_tell := List.mem_of_getElem? (i := 2) (by decide +kernel)
def f_X2_tell_B71 (N : Nat) (P : Nat → Nat → Int32) (F : Nat → Nat → Int32) : Option (Int32 × (Nat → Nat → Int32) × (Nat → Nat → Int32)) :=
  q_grd (P 0 1) 121 (
  some (((-1 : Int32) - (P 3 (P 0 1).toNatClampNeg)), P, F))
def f_X2_tell_L11 (N : Nat) : Nat → Int32 → (Nat → Nat → Int32) → (Nat → Nat → Int32) → Option (Int32 × (Nat → Nat → Int32) × (Nat → Nat → Int32))
  | 0, _, _, _ => none
  | k + 1, v2, P, F =>
    if (120 : Int32) < v2 then
      f_X2_tell_B71 N P F
    else
      q_bd3 (f_X2_tellItem N P F) (fun r_10 P_11 F_12 =>
      if r_10 = 0 then
        f_X2_tell_B71 N P_11 F_12
      else
        q_grd (P_11 0 1) 121 (
        if (P_11 2 (P_11 0 1).toNatClampNeg) = 0 then
          some (v2, P_11, F_12)
        else
          q_grd (P_11 0 1) 121 (
          if (P_11 2 (P_11 0 1).toNatClampNeg) = (3 : Int32) then
            q_let (q_up P_11 0 1 ((P_11 0 1) + (1 : Int32))) (fun P_19 =>
            q_let (v2 + 1) (fun x_20 =>
            f_X2_tell_L11 N k x_20 P_19 F_12))
          else
            f_X2_tell_B71 N P_11 F_12)))
def f_X2_tell (N : Nat) (P : Nat → Nat → Int32) (F : Nat → Nat → Int32) : Option (Int32 × (Nat → Nat → Int32) × (Nat → Nat → Int32)) :=
  q_bd (f_X2_cutTokens N P) (fun P_1 =>
  q_let (q_up P_1 0 1 (0 : Int32)) (fun P_3 =>
  f_X2_tell_L11 N N (1 : Int32) P_3 F))
set_option maxHeartbeats 4000000 in
set_option maxRecDepth 100000 in
theorem c_X2_tell (l : Launch) (D : va_G) (y : Nat → ClassId) (t : Nat → Nat) (q : Nat → Nat) (sz N : Nat) (P : Nat → Nat → Int32) (F : Nat → Nat → Int32) (res : Int32 × (Nat → Nat → Int32) × (Nat → Nat → Int32)) (h : f_X2_tell N P F = some res) : Met l yX2_tell wsX2_tell ({ frames := 8, cells := 0, slots := 0, locals := 178 } : Room) (pPre D y t [.ref (q 0), .ref (q 5)] (wTI y q P F) sz) (pQi D y (res.1) (wTI y q (res.2.1) (res.2.2)) (va_A (wTI y q P F) sz)) 0 0 (va_A (wTI y q P F) sz) := by
  refine q_start (Qc := (fun A => pQi D y (res.1) (wTI y q (res.2.1) (res.2.2)) A)) (cc := cX2_tell) (maxL := 3) (ret := (some .int)) (by decide) rfl (Nat.le_of_ble_eq_true rfl) ?_
  intro p e s m below meth c A ls hx hb hr hts hown hlocks hmn hml hP hK hZ hD hA hS hl
  have hl : lv_has ls 3 [(0, .ref (q 0)), (1, .ref (q 5))] := hl
  have hown : s.vm.findClass RX2 = some m.cls := hown
  have B71 : ∀ (P : Nat → Nat → Int32) (F : Nat → Nat → Int32) (H : Heap) (locs : List Loc) (ls : Array Slot), va_P D vwCl (wTI y q P F) H → va_D A (wTI y q P F) → va_S A s.heap H locs → lv_has ls 3 [(0, .ref (q 0))] → f_X2_tell_B71 N P F = some res → W p l e ({ frames := 8, cells := 0, slots := 0, locals := 178 } : Room) s m ([.ref (q 0), .ref (q 5)] : List Value).toArray below meth c H locs 0 0 (MQ below (pQi D y (res.1) (wTI y q (res.2.1) (res.2.2)) A) ([.ref (q 0), .ref (q 5)] : List Value).toArray s 0 0 A) (F0 m 71 ls []) := by
    intro P F H locs ls hP hD hS hl h
    unfold f_X2_tell_B71 at h
    refine lv_iconst (v := -1) hx hb dX2_tell_71 (by decide) ?_
    refine lv_aload_n hx hb dX2_tell_72 rfl (lv_at hl 0 rfl) ?_
    refine va_get (D := D) (ci := 2) (v := .ref (q 3)) (C := RX2) (T := TX2) (N := 7) hx hb hts uX2_tell_X2 hown hK hP 0 rfl rfl 3 (by decide) (hts _ kX2_tell_2) (fun _ h9 => h9) rfl dX2_tell_73 ?_
    refine lv_aload_n hx hb dX2_tell_76 rfl (lv_at hl 0 rfl) ?_
    refine va_get (D := D) (ci := 2) (v := .int (P 0 1)) (C := RX2) (T := TX2) (N := 7) hx hb hts uX2_tell_X2 hown hK hP 0 rfl rfl 5 (by decide) (hts _ kX2_tell_1) (fun _ h9 => h9) rfl dX2_tell_77 ?_
    obtain ⟨z_9, h⟩ := q_grd_ok h
    refine va_iald hx hb hK hP 3 0 rfl rfl z_9 dX2_tell_80 ?_
    refine lv_isub hx hb dX2_tell_81 ?_
    have e9 := Option.some.inj h
    exact q_iret hx hb hr hlocks hK hP hD hS dX2_tell_82 (by first | rw [← e9] | rfl) (by first | rw [← e9] | rfl)
  unfold f_X2_tell at h
  refine lv_aload_n hx hb dX2_tell_0 rfl (lv_at hl 0 rfl) ?_
  obtain ⟨P_1, hc_2, h⟩ := q_bd_ok h
  refine q_cv (va_runV (As := []) (rest := []) ⟨hx, hb, hml, hown, hts⟩ (c_X2_cutTokens l D y t q _ N P P_1 hc_2) (cwV 0 hts gX2_tell_X2_cutTokens rfl rfl rfl eX2_cutTokens ⟨Nat.le_of_ble_eq_true rfl, Nat.le_of_ble_eq_true rfl⟩) ⟨q_blind, (va_recv hK hP (ci := 2) (q0 := 0) rfl rfl), (q_pre hP hK hZ hD hA hS [0, 1, 2, 3, 4] rfl (by decide))⟩ rfl rfl hl.1 rfl (lv_room (Nat.le_of_ble_eq_true rfl)) dX2_tell_1 ⟨Nat.zero_le _, Nat.zero_le _⟩) hP hD hA hS [0, 1, 2, 3, 4] rfl (by decide) rfl (fun H locs hP hD hS => ?_)
  have hP : va_P D vwCl (wTI y q P_1 F) H := hP
  have hD : va_D A (wTI y q P_1 F) := hD
  refine lv_aload_n hx hb dX2_tell_4 rfl (lv_at hl 0 rfl) ?_
  refine lv_iconst (v := 0) hx hb dX2_tell_5 (by decide) ?_
  obtain ⟨P_3, eP_3, h⟩ := q_let_ok h
  refine va_put (D := D) (ci := 2) (v := .int (0 : Int32)) (ty := .int) (C := RX2) (T := TX2) (N := 7) hx hb hts uX2_tell_X2 tyX2 tyX2_ok nmX2 hown hK hP hD hS 0 rfl rfl 5 (by decide) (hts _ kX2_tell_1) (fun _ h9 => h9) rfl (by decide +kernel) rfl rfl (Nat.le_of_ble_eq_true rfl) dX2_tell_6 (fun H locs hP hD hS => ?_)
  have hP : va_P D vwCl (wTI y q P_3 F) H := by rw [eP_3]; exact hP
  have hD : va_D A (wTI y q P_3 F) := by rw [eP_3]; exact hD
  refine lv_iconst (v := 1) hx hb dX2_tell_9 (by decide) ?_
  refine lv_istore_n (lv' := [(2, .int (1 : Int32)), (0, .ref (q 0)), (1, .ref (q 5))]) hx hb dX2_tell_10 rfl hl (by decide) rfl (fun ls hl => ?_)
  have L11_4 : ∀ (k : Nat) (v2 : Int32) (P : Nat → Nat → Int32) (F : Nat → Nat → Int32), ∀ (H : Heap) (locs : List Loc) (ls : Array Slot), va_P D vwCl (wTI y q P F) H → va_D A (wTI y q P F) → va_S A s.heap H locs → lv_has ls 3 [(0, .ref (q 0)), (1, .ref (q 5)), (2, .int v2)] → f_X2_tell_L11 N k v2 P F = some res → W p l e ({ frames := 8, cells := 0, slots := 0, locals := 178 } : Room) s m ([.ref (q 0), .ref (q 5)] : List Value).toArray below meth c H locs 0 0 (MQ below (pQi D y (res.1) (wTI y q (res.2.1) (res.2.2)) A) ([.ref (q 0), .ref (q 5)] : List Value).toArray s 0 0 A) (F0 m 11 ls []) := by
    intro k
    induction k with
    | zero =>
      intro v2 P F H locs ls hP hD hS hl h
      have h : (none : Option (Int32 × (Nat → Nat → Int32) × (Nat → Nat → Int32))) = some _ := h
      cases h
    | succ k ih11_4 =>
      intro v2 P F H locs ls hP hD hS hl h
      rw [f_X2_tell_L11] at h
      refine lv_iload_n hx hb dX2_tell_11 rfl (lv_at hl 2 rfl) ?_
      refine lv_bipush (v := 120) hx hb dX2_tell_12 (by decide) ?_
      refine lv_icmp_gt (tgt := 71) hx hb dX2_tell_14 (by decide) (fun c_8 => ?_) (fun c_8 => ?_)
      · have h := q_t c_8 h
        exact B71 P F _ _ _ hP hD hS (lv_sub hl [0] rfl) h
      · have h := q_f c_8 h
        refine lv_aload_n hx hb dX2_tell_17 rfl (lv_at hl 0 rfl) ?_
        refine lv_aload_n hx hb dX2_tell_18 rfl (lv_at hl 1 rfl) ?_
        obtain ⟨r_10, P_11, F_12, hc_13, h⟩ := q_bd3_ok h
        refine q_ci (r := r_10) (va_runV (As := [.ref (q 5)]) (rest := []) ⟨hx, hb, hml, hown, hts⟩ (c_X2_tellItem l D y t q _ N P F (r_10, P_11, F_12) hc_13) (cwV 1 hts gX2_tell_X2_tellItem rfl rfl rfl eX2_tellItem ⟨Nat.le_of_ble_eq_true rfl, Nat.le_of_ble_eq_true rfl⟩) ⟨q_blind, (va_recv hK hP (ci := 2) (q0 := 0) rfl rfl), (q_pre hP hK hZ hD hA hS [0, 1, 2, 3, 4, 5, 6, 7, 8, 9, 10, 11] rfl (by decide))⟩ rfl rfl hl.1 rfl (lv_room (Nat.le_of_ble_eq_true rfl)) dX2_tell_19 ⟨Nat.zero_le _, Nat.zero_le _⟩) hP hD hA hS [0, 1, 2, 3, 4, 5, 6, 7, 8, 9, 10, 11] rfl (by decide) rfl (fun H locs hP hD hS => ?_)
        have hP : va_P D vwCl (wTI y q P_11 F_12) H := hP
        have hD : va_D A (wTI y q P_11 F_12) := hD
        refine lv_if_eq (tgt := 71) hx hb dX2_tell_22 (by decide) (fun c_14 => ?_) (fun c_14 => ?_)
        · have h := q_t c_14 h
          exact B71 P_11 F_12 _ _ _ hP hD hS (lv_sub hl [0] rfl) h
        · have h := q_f c_14 h
          refine lv_aload_n hx hb dX2_tell_25 rfl (lv_at hl 0 rfl) ?_
          refine va_get (D := D) (ci := 2) (v := .ref (q 2)) (C := RX2) (T := TX2) (N := 7) hx hb hts uX2_tell_X2 hown hK hP 0 rfl rfl 2 (by decide) (hts _ kX2_tell_3) (fun _ h9 => h9) rfl dX2_tell_26 ?_
          refine lv_aload_n hx hb dX2_tell_29 rfl (lv_at hl 0 rfl) ?_
          refine va_get (D := D) (ci := 2) (v := .int (P_11 0 1)) (C := RX2) (T := TX2) (N := 7) hx hb hts uX2_tell_X2 hown hK hP 0 rfl rfl 5 (by decide) (hts _ kX2_tell_1) (fun _ h9 => h9) rfl dX2_tell_30 ?_
          obtain ⟨z_15, h⟩ := q_grd_ok h
          refine va_iald hx hb hK hP 2 0 rfl rfl z_15 dX2_tell_33 ?_
          refine lv_if_ne (tgt := 39) hx hb dX2_tell_34 (by decide) (fun c_16 => ?_) (fun c_16 => ?_)
          · have h := q_f c_16 h
            refine lv_aload_n hx hb dX2_tell_39 rfl (lv_at hl 0 rfl) ?_
            refine va_get (D := D) (ci := 2) (v := .ref (q 2)) (C := RX2) (T := TX2) (N := 7) hx hb hts uX2_tell_X2 hown hK hP 0 rfl rfl 2 (by decide) (hts _ kX2_tell_3) (fun _ h9 => h9) rfl dX2_tell_40 ?_
            refine lv_aload_n hx hb dX2_tell_43 rfl (lv_at hl 0 rfl) ?_
            refine va_get (D := D) (ci := 2) (v := .int (P_11 0 1)) (C := RX2) (T := TX2) (N := 7) hx hb hts uX2_tell_X2 hown hK hP 0 rfl rfl 5 (by decide) (hts _ kX2_tell_1) (fun _ h9 => h9) rfl dX2_tell_44 ?_
            obtain ⟨z_17, h⟩ := q_grd_ok h
            refine va_iald hx hb hK hP 2 0 rfl rfl z_17 dX2_tell_47 ?_
            refine lv_iconst (v := 3) hx hb dX2_tell_48 (by decide) ?_
            refine lv_icmp_eq (tgt := 55) hx hb dX2_tell_49 (by decide) (fun c_18 => ?_) (fun c_18 => ?_)
            · have h := q_t c_18 h
              refine lv_aload_n hx hb dX2_tell_55 rfl (lv_at hl 0 rfl) ?_
              refine lv_dup hx hb dX2_tell_56 rfl ?_
              refine va_get (D := D) (ci := 2) (v := .int (P_11 0 1)) (C := RX2) (T := TX2) (N := 7) hx hb hts uX2_tell_X2 hown hK hP 0 rfl rfl 5 (by decide) (hts _ kX2_tell_1) (fun _ h9 => h9) rfl dX2_tell_57 ?_
              refine lv_iconst (v := 1) hx hb dX2_tell_60 (by decide) ?_
              refine lv_iadd hx hb dX2_tell_61 ?_
              obtain ⟨P_19, eP_19, h⟩ := q_let_ok h
              refine va_put (D := D) (ci := 2) (v := .int ((P_11 0 1) + (1 : Int32))) (ty := .int) (C := RX2) (T := TX2) (N := 7) hx hb hts uX2_tell_X2 tyX2 tyX2_ok nmX2 hown hK hP hD hS 0 rfl rfl 5 (by decide) (hts _ kX2_tell_1) (fun _ h9 => h9) rfl (by decide +kernel) rfl rfl (Nat.le_of_ble_eq_true rfl) dX2_tell_62 (fun H locs hP hD hS => ?_)
              have hP : va_P D vwCl (wTI y q P_19 F_12) H := by rw [eP_19]; exact hP
              have hD : va_D A (wTI y q P_19 F_12) := by rw [eP_19]; exact hD
              obtain ⟨x_20, ex_20, h⟩ := q_let_ok h
              refine lv_iinc (v := x_20) (lv' := [(2, .int x_20), (0, .ref (q 0)), (1, .ref (q 5))]) hx hb dX2_tell_65 hl (k := 2) rfl (by rw [ex_20]; rfl) (by decide) rfl (fun ls hl => ?_)
              refine lv_goto (tgt := 11) hx hb dX2_tell_68 (by decide) ?_
              exact ih11_4 x_20 P_19 F_12 _ _ _ hP hD hS (lv_sub hl [1, 2, 0] rfl) h
            · have h := q_f c_18 h
              refine lv_goto (tgt := 71) hx hb dX2_tell_52 (by decide) ?_
              exact B71 P_11 F_12 _ _ _ hP hD hS (lv_sub hl [0] rfl) h
          · have h := q_t c_16 h
            refine lv_iload_n hx hb dX2_tell_37 rfl (lv_at hl 2 rfl) ?_
            have e9 := Option.some.inj h
            exact q_iret hx hb hr hlocks hK hP hD hS dX2_tell_38 (by first | rw [← e9] | rfl) (by first | rw [← e9] | rfl)
  exact L11_4 N (1 : Int32) P_3 F _ _ _ hP hD hS (lv_sub hl [1, 2, 0] rfl) h
theorem eX2_tell : yX2_tell.cls = RX2 ∧ yX2_tell.cls ≠ "java/lang/invoke/MethodHandle" ∧ yX2_tell.cls ≠ "java/lang/invoke/VarHandle" ∧ (parseMethodDescriptor yX2_tell.desc).map (fun d => d.parameters.length) = some 1 := by decide +kernel
