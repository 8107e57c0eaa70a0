theorem uX0_becomes_X0 : ∀ w ∈ u_ws RX0 TX0 13, w ∈ wsX0_becomes := by decide +kernel
theorem kX0_becomes_1 : Cond.fieldLink RX0 49 "BeamSeats$Island" "times" "[I" ∈ wsX0_becomes := List.mem_of_getElem? (i := 13) (by decide +kernel)
theorem kX0_becomes_2 : Cond.fieldLink RX0 46 "BeamSeats$Island" "goals" "[I" ∈ wsX0_becomes := List.mem_of_getElem? (i := 12) (by decide +kernel)
theorem kX0_becomes_3 : Cond.fieldLink RX0 43 "BeamSeats$Island" "wets" "[I" ∈ wsX0_becomes := List.mem_of_getElem? (i := 11) (by decide +kernel)
theorem kX0_becomes_4 : Cond.fieldLink RX0 40 "BeamSeats$Island" "outs" "[I" ∈ wsX0_becomes := List.mem_of_getElem? (i := 10) (by decide +kernel)
theorem kX0_becomes_5 : Cond.fieldLink RX0 37 "BeamSeats$Island" "places" "[I" ∈ wsX0_becomes := List.mem_of_getElem? (i := 9) (by decide +kernel)
theorem kX0_becomes_6 : Cond.fieldLink RX0 33 "BeamSeats$Island" "kinds" "[I" ∈ wsX0_becomes := List.mem_of_getElem? (i := 8) (by decide +kernel)
theorem kX0_becomes_7 : Cond.fieldLink RX0 24 "BeamSeats$Island" "size" "I" ∈ wsX0_becomes := List.mem_of_getElem? (i := 5) (by decide +kernel)
theorem kX0_becomes_8 : Cond.fieldLink RX0 30 "BeamSeats$Island" "lostSet" "I" ∈ wsX0_becomes := List.mem_of_getElem? (i := 7) (by decide +kernel)
theorem kX0_becomes_9 : Cond.fieldLink RX0 27 "BeamSeats$Island" "onSet" "I" ∈ wsX0_becomes := List.mem_of_getElem? (i := 6) (by decide +kernel)
theorem kX0_becomes_10 : Cond.fieldLink RX0 21 "BeamSeats$Island" "thick" "I" ∈ wsX0_becomes := List.mem_of_getElem? (i := 4) (by decide +kernel)
theorem kX0_becomes_11 : Cond.fieldLink RX0 18 "BeamSeats$Island" "speed" "I" ∈ wsX0_becomes := List.mem_of_getElem? (i := 3) (by decide +kernel)
theorem kX0_becomes_12 : Cond.fieldLink RX0 15 "BeamSeats$Island" "bearing" "I" ∈ wsX0_becomes := List.mem_of_getElem? (i := 2) (by decide +kernel)
theorem kX0_becomes_13 : Cond.fieldLink RX0 9 "BeamSeats$Island" "second" "I" ∈ wsX0_becomes := List.mem_of_getElem? (i := 1) (by decide +kernel)
def f_X0_becomes_L58 (N : Nat) (E : Nat → Nat → Int32) : Nat → Int32 → (Nat → Nat → Int32) → Option (Int32 × (Nat → Nat → Int32))
  | 0, _, _ => none
  | k + 1, v2, F =>
    if (F 0 4) ≤ v2 then
      some (v2, F)
    else
      q_grd v2 8 (
      q_grd v2 8 (
      q_let (q_up F 1 v2.toNatClampNeg (E 1 v2.toNatClampNeg)) (fun F_14 =>
      q_grd v2 8 (
      q_grd v2 8 (
      q_let (q_up F_14 2 v2.toNatClampNeg (E 2 v2.toNatClampNeg)) (fun F_17 =>
      q_grd v2 8 (
      q_grd v2 8 (
      q_let (q_up F_17 3 v2.toNatClampNeg (E 3 v2.toNatClampNeg)) (fun F_20 =>
      q_grd v2 8 (
      q_grd v2 8 (
      q_let (q_up F_20 4 v2.toNatClampNeg (E 4 v2.toNatClampNeg)) (fun F_23 =>
      q_grd v2 8 (
      q_grd v2 8 (
      q_let (q_up F_23 5 v2.toNatClampNeg (E 5 v2.toNatClampNeg)) (fun F_26 =>
      q_grd v2 8 (
      q_grd v2 8 (
      q_let (q_up F_26 6 v2.toNatClampNeg (E 6 v2.toNatClampNeg)) (fun F_29 =>
      q_let (v2 + 1) (fun x_30 =>
      f_X0_becomes_L58 N E k x_30 F_29)))))))))))))))))))
def f_X0_becomes (N : Nat) (F : Nat → Nat → Int32) (E : Nat → Nat → Int32) : Option ((Nat → Nat → Int32)) :=
  q_let (q_up F 0 0 (E 0 0)) (fun F_1 =>
  q_let (q_up F_1 0 1 (E 0 1)) (fun F_2 =>
  q_let (q_up F_2 0 2 (E 0 2)) (fun F_3 =>
  q_let (q_up F_3 0 3 (E 0 3)) (fun F_4 =>
  q_let (q_up F_4 0 4 (E 0 4)) (fun F_5 =>
  q_let (q_up F_5 0 5 (E 0 5)) (fun F_6 =>
  q_let (q_up F_6 0 6 (E 0 6)) (fun F_7 =>
  q_bd2 (f_X0_becomes_L58 N E N (0 : Int32) F_7) (fun x_9 F_10 =>
  some F_10))))))))
set_option maxHeartbeats 4000000 in
set_option maxRecDepth 100000 in
theorem c_X0_becomes (l : Launch) (D : va_G) (y : Nat → ClassId) (t : Nat → Nat) (q : Nat → Nat) (sz N : Nat) (F : Nat → Nat → Int32) (E : Nat → Nat → Int32) (res : (Nat → Nat → Int32)) (h : f_X0_becomes N F E = some res) : Met l yX0_becomes wsX0_becomes ({ frames := 0, cells := 0, slots := 0, locals := 0 } : Room) (pPre D y t [.ref (q 0), .ref (q 7)] (wII y q F E) sz) (pQv D y (wII y q res E) (va_A (wII y q F E) sz)) 0 0 (va_A (wII y q F E) sz) := by
  refine q_start (Qc := (fun A => pQv D y (wII y q res E) A)) (cc := cX0_becomes) (maxL := 3) (ret := none) (by decide) rfl (Nat.le_of_ble_eq_true rfl) ?_
  intro p e s m below meth c A ls hx hb hr hts hown hlocks hmn hml hP hK hZ hD hA hS hl
  have hl : lv_has ls 3 [(0, .ref (q 0)), (1, .ref (q 7))] := hl
  have hown : s.vm.findClass RX0 = some m.cls := hown
  unfold f_X0_becomes at h
  refine lv_aload_n hx hb dX0_becomes_0 rfl (lv_at hl 0 rfl) ?_
  refine lv_aload_n hx hb dX0_becomes_1 rfl (lv_at hl 1 rfl) ?_
  refine va_get (D := D) (ci := 0) (v := .int (E 0 0)) (C := RX0) (T := TX0) (N := 13) hx hb hts uX0_becomes_X0 hown hK hP 7 rfl rfl 0 (by decide) (hts _ kX0_becomes_13) (fun _ h9 => h9) rfl dX0_becomes_2 ?_
  obtain ⟨F_1, eF_1, h⟩ := q_let_ok h
  refine va_put (D := D) (ci := 0) (v := .int (E 0 0)) (ty := .int) (C := RX0) (T := TX0) (N := 13) hx hb hts uX0_becomes_X0 tyX0 tyX0_ok nmX0 hown hK hP hD hS 0 rfl rfl 0 (by decide) (hts _ kX0_becomes_13) (fun _ h9 => h9) rfl (by decide +kernel) rfl rfl (Nat.le_of_ble_eq_true rfl) dX0_becomes_5 (fun H locs hP hD hS => ?_)
  have hP : va_P D vwCl (wII y q F_1 E) H := by rw [eF_1]; exact hP
  have hD : va_D A (wII y q F_1 E) := by rw [eF_1]; exact hD
  refine lv_aload_n hx hb dX0_becomes_8 rfl (lv_at hl 0 rfl) ?_
  refine lv_aload_n hx hb dX0_becomes_9 rfl (lv_at hl 1 rfl) ?_
  refine va_get (D := D) (ci := 0) (v := .int (E 0 1)) (C := RX0) (T := TX0) (N := 13) hx hb hts uX0_becomes_X0 hown hK hP 7 rfl rfl 1 (by decide) (hts _ kX0_becomes_12) (fun _ h9 => h9) rfl dX0_becomes_10 ?_
  obtain ⟨F_2, eF_2, h⟩ := q_let_ok h
  refine va_put (D := D) (ci := 0) (v := .int (E 0 1)) (ty := .int) (C := RX0) (T := TX0) (N := 13) hx hb hts uX0_becomes_X0 tyX0 tyX0_ok nmX0 hown hK hP hD hS 0 rfl rfl 1 (by decide) (hts _ kX0_becomes_12) (fun _ h9 => h9) rfl (by decide +kernel) rfl rfl (Nat.le_of_ble_eq_true rfl) dX0_becomes_13 (fun H locs hP hD hS => ?_)
  have hP : va_P D vwCl (wII y q F_2 E) H := by rw [eF_2]; exact hP
  have hD : va_D A (wII y q F_2 E) := by rw [eF_2]; exact hD
  refine lv_aload_n hx hb dX0_becomes_16 rfl (lv_at hl 0 rfl) ?_
  refine lv_aload_n hx hb dX0_becomes_17 rfl (lv_at hl 1 rfl) ?_
  refine va_get (D := D) (ci := 0) (v := .int (E 0 2)) (C := RX0) (T := TX0) (N := 13) hx hb hts uX0_becomes_X0 hown hK hP 7 rfl rfl 2 (by decide) (hts _ kX0_becomes_11) (fun _ h9 => h9) rfl dX0_becomes_18 ?_
  obtain ⟨F_3, eF_3, h⟩ := q_let_ok h
  refine va_put (D := D) (ci := 0) (v := .int (E 0 2)) (ty := .int) (C := RX0) (T := TX0) (N := 13) hx hb hts uX0_becomes_X0 tyX0 tyX0_ok nmX0 hown hK hP hD hS 0 rfl rfl 2 (by decide) (hts _ kX0_becomes_11) (fun _ h9 => h9) rfl (by decide +kernel) rfl rfl (Nat.le_of_ble_eq_true rfl) dX0_becomes_21 (fun H locs hP hD hS => ?_)
  have hP : va_P D vwCl (wII y q F_3 E) H := by rw [eF_3]; exact hP
  have hD : va_D A (wII y q F_3 E) := by rw [eF_3]; exact hD
  refine lv_aload_n hx hb dX0_becomes_24 rfl (lv_at hl 0 rfl) ?_
  refine lv_aload_n hx hb dX0_becomes_25 rfl (lv_at hl 1 rfl) ?_
  refine va_get (D := D) (ci := 0) (v := .int (E 0 3)) (C := RX0) (T := TX0) (N := 13) hx hb hts uX0_becomes_X0 hown hK hP 7 rfl rfl 3 (by decide) (hts _ kX0_becomes_10) (fun _ h9 => h9) rfl dX0_becomes_26 ?_
  obtain ⟨F_4, eF_4, h⟩ := q_let_ok h
  refine va_put (D := D) (ci := 0) (v := .int (E 0 3)) (ty := .int) (C := RX0) (T := TX0) (N := 13) hx hb hts uX0_becomes_X0 tyX0 tyX0_ok nmX0 hown hK hP hD hS 0 rfl rfl 3 (by decide) (hts _ kX0_becomes_10) (fun _ h9 => h9) rfl (by decide +kernel) rfl rfl (Nat.le_of_ble_eq_true rfl) dX0_becomes_29 (fun H locs hP hD hS => ?_)
  have hP : va_P D vwCl (wII y q F_4 E) H := by rw [eF_4]; exact hP
  have hD : va_D A (wII y q F_4 E) := by rw [eF_4]; exact hD
  refine lv_aload_n hx hb dX0_becomes_32 rfl (lv_at hl 0 rfl) ?_
  refine lv_aload_n hx hb dX0_becomes_33 rfl (lv_at hl 1 rfl) ?_
  refine va_get (D := D) (ci := 0) (v := .int (E 0 4)) (C := RX0) (T := TX0) (N := 13) hx hb hts uX0_becomes_X0 hown hK hP 7 rfl rfl 4 (by decide) (hts _ kX0_becomes_7) (fun _ h9 => h9) rfl dX0_becomes_34 ?_
  obtain ⟨F_5, eF_5, h⟩ := q_let_ok h
  refine va_put (D := D) (ci := 0) (v := .int (E 0 4)) (ty := .int) (C := RX0) (T := TX0) (N := 13) hx hb hts uX0_becomes_X0 tyX0 tyX0_ok nmX0 hown hK hP hD hS 0 rfl rfl 4 (by decide) (hts _ kX0_becomes_7) (fun _ h9 => h9) rfl (by decide +kernel) rfl rfl (Nat.le_of_ble_eq_true rfl) dX0_becomes_37 (fun H locs hP hD hS => ?_)
  have hP : va_P D vwCl (wII y q F_5 E) H := by rw [eF_5]; exact hP
  have hD : va_D A (wII y q F_5 E) := by rw [eF_5]; exact hD
  refine lv_aload_n hx hb dX0_becomes_40 rfl (lv_at hl 0 rfl) ?_
  refine lv_aload_n hx hb dX0_becomes_41 rfl (lv_at hl 1 rfl) ?_
  refine va_get (D := D) (ci := 0) (v := .int (E 0 5)) (C := RX0) (T := TX0) (N := 13) hx hb hts uX0_becomes_X0 hown hK hP 7 rfl rfl 5 (by decide) (hts _ kX0_becomes_9) (fun _ h9 => h9) rfl dX0_becomes_42 ?_
  obtain ⟨F_6, eF_6, h⟩ := q_let_ok h
  refine va_put (D := D) (ci := 0) (v := .int (E 0 5)) (ty := .int) (C := RX0) (T := TX0) (N := 13) hx hb hts uX0_becomes_X0 tyX0 tyX0_ok nmX0 hown hK hP hD hS 0 rfl rfl 5 (by decide) (hts _ kX0_becomes_9) (fun _ h9 => h9) rfl (by decide +kernel) rfl rfl (Nat.le_of_ble_eq_true rfl) dX0_becomes_45 (fun H locs hP hD hS => ?_)
  have hP : va_P D vwCl (wII y q F_6 E) H := by rw [eF_6]; exact hP
  have hD : va_D A (wII y q F_6 E) := by rw [eF_6]; exact hD
  refine lv_aload_n hx hb dX0_becomes_48 rfl (lv_at hl 0 rfl) ?_
  refine lv_aload_n hx hb dX0_becomes_49 rfl (lv_at hl 1 rfl) ?_
  refine va_get (D := D) (ci := 0) (v := .int (E 0 6)) (C := RX0) (T := TX0) (N := 13) hx hb hts uX0_becomes_X0 hown hK hP 7 rfl rfl 6 (by decide) (hts _ kX0_becomes_8) (fun _ h9 => h9) rfl dX0_becomes_50 ?_
  obtain ⟨F_7, eF_7, h⟩ := q_let_ok h
  refine va_put (D := D) (ci := 0) (v := .int (E 0 6)) (ty := .int) (C := RX0) (T := TX0) (N := 13) hx hb hts uX0_becomes_X0 tyX0 tyX0_ok nmX0 hown hK hP hD hS 0 rfl rfl 6 (by decide) (hts _ kX0_becomes_8) (fun _ h9 => h9) rfl (by decide +kernel) rfl rfl (Nat.le_of_ble_eq_true rfl) dX0_becomes_53 (fun H locs hP hD hS => ?_)
  have hP : va_P D vwCl (wII y q F_7 E) H := by rw [eF_7]; exact hP
  have hD : va_D A (wII y q F_7 E) := by rw [eF_7]; exact hD
  refine lv_iconst (v := 0) hx hb dX0_becomes_56 (by decide) ?_
  refine lv_istore_n (lv' := [(2, .int (0 : Int32)), (0, .ref (q 0)), (1, .ref (q 7))]) hx hb dX0_becomes_57 rfl hl (by decide) rfl (fun ls hl => ?_)
  obtain ⟨x_9, F_10, hL8, h⟩ := q_bd2_ok h
  have K58_8 : ∀ (H : Heap) (locs : List Loc) (ls : Array Slot), va_P D vwCl (wII y q F_10 E) H → va_D A (wII y q F_10 E) → va_S A s.heap H locs → lv_has ls 3 [(0, .ref (q 0)), (1, .ref (q 7)), (2, .int x_9)] → W p l e ({ frames := 0, cells := 0, slots := 0, locals := 0 } : Room) s m ([.ref (q 0), .ref (q 7)] : List Value).toArray below meth c H locs 0 0 (MQ below (pQv D y (wII y q res E) A) ([.ref (q 0), .ref (q 7)] : List Value).toArray s 0 0 A) (F0 m 144 ls []) := by
    intro H locs ls hP hD hS hl
    have e9 := Option.some.inj h
    exact q_vret hx hb hr hlocks hK hP hD hS dX0_becomes_144 (by first | rw [← e9] | rfl)
  have L58_8 : ∀ (E : Nat → Nat → Int32) (k : Nat) (v2 : Int32) (F : Nat → Nat → Int32), (∀ (H : Heap) (locs : List Loc) (ls : Array Slot), va_P D vwCl (wII y q F_10 E) H → va_D A (wII y q F_10 E) → va_S A s.heap H locs → lv_has ls 3 [(0, .ref (q 0)), (1, .ref (q 7)), (2, .int x_9)] → W p l e ({ frames := 0, cells := 0, slots := 0, locals := 0 } : Room) s m ([.ref (q 0), .ref (q 7)] : List Value).toArray below meth c H locs 0 0 (MQ below (pQv D y (wII y q res E) A) ([.ref (q 0), .ref (q 7)] : List Value).toArray s 0 0 A) (F0 m 144 ls [])) → ∀ (H : Heap) (locs : List Loc) (ls : Array Slot), va_P D vwCl (wII y q F E) H → va_D A (wII y q F E) → va_S A s.heap H locs → lv_has ls 3 [(0, .ref (q 0)), (1, .ref (q 7)), (2, .int v2)] → f_X0_becomes_L58 N E k v2 F = some (x_9, F_10) → W p l e ({ frames := 0, cells := 0, slots := 0, locals := 0 } : Room) s m ([.ref (q 0), .ref (q 7)] : List Value).toArray below meth c H locs 0 0 (MQ below (pQv D y (wII y q res E) A) ([.ref (q 0), .ref (q 7)] : List Value).toArray s 0 0 A) (F0 m 58 ls []) := by
    intro E k
    induction k with
    | zero =>
      intro v2 F K58_8 H locs ls hP hD hS hl h
      have h : (none : Option (Int32 × (Nat → Nat → Int32))) = some _ := h
      cases h
    | succ k ih58_8 =>
      intro v2 F K58_8 H locs ls hP hD hS hl h
      rw [f_X0_becomes_L58] at h
      refine lv_iload_n hx hb dX0_becomes_58 rfl (lv_at hl 2 rfl) ?_
      refine lv_aload_n hx hb dX0_becomes_59 rfl (lv_at hl 0 rfl) ?_
      refine va_get (D := D) (ci := 0) (v := .int (F 0 4)) (C := RX0) (T := TX0) (N := 13) hx hb hts uX0_becomes_X0 hown hK hP 0 rfl rfl 4 (by decide) (hts _ kX0_becomes_7) (fun _ h9 => h9) rfl dX0_becomes_60 ?_
      refine lv_icmp_ge (tgt := 144) hx hb dX0_becomes_63 (by decide) (fun c_11 => ?_) (fun c_11 => ?_)
      · have h := q_t c_11 h
        cases h
        exact K58_8 _ _ _ hP hD hS (lv_sub hl [0, 1, 2] rfl)
      · have h := q_f c_11 h
        refine lv_aload_n hx hb dX0_becomes_66 rfl (lv_at hl 0 rfl) ?_
        refine va_get (D := D) (ci := 0) (v := .ref (q 1)) (C := RX0) (T := TX0) (N := 13) hx hb hts uX0_becomes_X0 hown hK hP 0 rfl rfl 7 (by decide) (hts _ kX0_becomes_6) (fun _ h9 => h9) rfl dX0_becomes_67 ?_
        refine lv_iload_n hx hb dX0_becomes_70 rfl (lv_at hl 2 rfl) ?_
        refine lv_aload_n hx hb dX0_becomes_71 rfl (lv_at hl 1 rfl) ?_
        refine va_get (D := D) (ci := 0) (v := .ref (q 8)) (C := RX0) (T := TX0) (N := 13) hx hb hts uX0_becomes_X0 hown hK hP 7 rfl rfl 7 (by decide) (hts _ kX0_becomes_6) (fun _ h9 => h9) rfl dX0_becomes_72 ?_
        refine lv_iload_n hx hb dX0_becomes_75 rfl (lv_at hl 2 rfl) ?_
        obtain ⟨z_12, h⟩ := q_grd_ok h
        refine va_iald hx hb hK hP 8 0 rfl rfl z_12 dX0_becomes_76 ?_
        obtain ⟨z_13, h⟩ := q_grd_ok h
        obtain ⟨F_14, eF_14, h⟩ := q_let_ok h
        refine va_iast hx hb hK hP hD hS 1 0 rfl rfl z_13 dX0_becomes_77 (fun H locs hP hD hS => ?_)
        have hP : va_P D vwCl (wII y q F_14 E) H := by rw [eF_14]; exact hP
        have hD : va_D A (wII y q F_14 E) := by rw [eF_14]; exact hD
        refine lv_aload_n hx hb dX0_becomes_78 rfl (lv_at hl 0 rfl) ?_
        refine va_get (D := D) (ci := 0) (v := .ref (q 2)) (C := RX0) (T := TX0) (N := 13) hx hb hts uX0_becomes_X0 hown hK hP 0 rfl rfl 8 (by decide) (hts _ kX0_becomes_5) (fun _ h9 => h9) rfl dX0_becomes_79 ?_
        refine lv_iload_n hx hb dX0_becomes_82 rfl (lv_at hl 2 rfl) ?_
        refine lv_aload_n hx hb dX0_becomes_83 rfl (lv_at hl 1 rfl) ?_
        refine va_get (D := D) (ci := 0) (v := .ref (q 9)) (C := RX0) (T := TX0) (N := 13) hx hb hts uX0_becomes_X0 hown hK hP 7 rfl rfl 8 (by decide) (hts _ kX0_becomes_5) (fun _ h9 => h9) rfl dX0_becomes_84 ?_
        refine lv_iload_n hx hb dX0_becomes_87 rfl (lv_at hl 2 rfl) ?_
        obtain ⟨z_15, h⟩ := q_grd_ok h
        refine va_iald hx hb hK hP 9 0 rfl rfl z_15 dX0_becomes_88 ?_
        obtain ⟨z_16, h⟩ := q_grd_ok h
        obtain ⟨F_17, eF_17, h⟩ := q_let_ok h
        refine va_iast hx hb hK hP hD hS 2 0 rfl rfl z_16 dX0_becomes_89 (fun H locs hP hD hS => ?_)
        have hP : va_P D vwCl (wII y q F_17 E) H := by rw [eF_17]; exact hP
        have hD : va_D A (wII y q F_17 E) := by rw [eF_17]; exact hD
        refine lv_aload_n hx hb dX0_becomes_90 rfl (lv_at hl 0 rfl) ?_
        refine va_get (D := D) (ci := 0) (v := .ref (q 3)) (C := RX0) (T := TX0) (N := 13) hx hb hts uX0_becomes_X0 hown hK hP 0 rfl rfl 9 (by decide) (hts _ kX0_becomes_4) (fun _ h9 => h9) rfl dX0_becomes_91 ?_
        refine lv_iload_n hx hb dX0_becomes_94 rfl (lv_at hl 2 rfl) ?_
        refine lv_aload_n hx hb dX0_becomes_95 rfl (lv_at hl 1 rfl) ?_
        refine va_get (D := D) (ci := 0) (v := .ref (q 10)) (C := RX0) (T := TX0) (N := 13) hx hb hts uX0_becomes_X0 hown hK hP 7 rfl rfl 9 (by decide) (hts _ kX0_becomes_4) (fun _ h9 => h9) rfl dX0_becomes_96 ?_
        refine lv_iload_n hx hb dX0_becomes_99 rfl (lv_at hl 2 rfl) ?_
        obtain ⟨z_18, h⟩ := q_grd_ok h
        refine va_iald hx hb hK hP 10 0 rfl rfl z_18 dX0_becomes_100 ?_
        obtain ⟨z_19, h⟩ := q_grd_ok h
        obtain ⟨F_20, eF_20, h⟩ := q_let_ok h
        refine va_iast hx hb hK hP hD hS 3 0 rfl rfl z_19 dX0_becomes_101 (fun H locs hP hD hS => ?_)
        have hP : va_P D vwCl (wII y q F_20 E) H := by rw [eF_20]; exact hP
        have hD : va_D A (wII y q F_20 E) := by rw [eF_20]; exact hD
        refine lv_aload_n hx hb dX0_becomes_102 rfl (lv_at hl 0 rfl) ?_
        refine va_get (D := D) (ci := 0) (v := .ref (q 4)) (C := RX0) (T := TX0) (N := 13) hx hb hts uX0_becomes_X0 hown hK hP 0 rfl rfl 10 (by decide) (hts _ kX0_becomes_3) (fun _ h9 => h9) rfl dX0_becomes_103 ?_
        refine lv_iload_n hx hb dX0_becomes_106 rfl (lv_at hl 2 rfl) ?_
        refine lv_aload_n hx hb dX0_becomes_107 rfl (lv_at hl 1 rfl) ?_
        refine va_get (D := D) (ci := 0) (v := .ref (q 11)) (C := RX0) (T := TX0) (N := 13) hx hb hts uX0_becomes_X0 hown hK hP 7 rfl rfl 10 (by decide) (hts _ kX0_becomes_3) (fun _ h9 => h9) rfl dX0_becomes_108 ?_
        refine lv_iload_n hx hb dX0_becomes_111 rfl (lv_at hl 2 rfl) ?_
        obtain ⟨z_21, h⟩ := q_grd_ok h
        refine va_iald hx hb hK hP 11 0 rfl rfl z_21 dX0_becomes_112 ?_
        obtain ⟨z_22, h⟩ := q_grd_ok h
        obtain ⟨F_23, eF_23, h⟩ := q_let_ok h
        refine va_iast hx hb hK hP hD hS 4 0 rfl rfl z_22 dX0_becomes_113 (fun H locs hP hD hS => ?_)
        have hP : va_P D vwCl (wII y q F_23 E) H := by rw [eF_23]; exact hP
        have hD : va_D A (wII y q F_23 E) := by rw [eF_23]; exact hD
        refine lv_aload_n hx hb dX0_becomes_114 rfl (lv_at hl 0 rfl) ?_
        refine va_get (D := D) (ci := 0) (v := .ref (q 5)) (C := RX0) (T := TX0) (N := 13) hx hb hts uX0_becomes_X0 hown hK hP 0 rfl rfl 11 (by decide) (hts _ kX0_becomes_2) (fun _ h9 => h9) rfl dX0_becomes_115 ?_
        refine lv_iload_n hx hb dX0_becomes_118 rfl (lv_at hl 2 rfl) ?_
        refine lv_aload_n hx hb dX0_becomes_119 rfl (lv_at hl 1 rfl) ?_
        refine va_get (D := D) (ci := 0) (v := .ref (q 12)) (C := RX0) (T := TX0) (N := 13) hx hb hts uX0_becomes_X0 hown hK hP 7 rfl rfl 11 (by decide) (hts _ kX0_becomes_2) (fun _ h9 => h9) rfl dX0_becomes_120 ?_
        refine lv_iload_n hx hb dX0_becomes_123 rfl (lv_at hl 2 rfl) ?_
        obtain ⟨z_24, h⟩ := q_grd_ok h
        refine va_iald hx hb hK hP 12 0 rfl rfl z_24 dX0_becomes_124 ?_
        obtain ⟨z_25, h⟩ := q_grd_ok h
        obtain ⟨F_26, eF_26, h⟩ := q_let_ok h
        refine va_iast hx hb hK hP hD hS 5 0 rfl rfl z_25 dX0_becomes_125 (fun H locs hP hD hS => ?_)
        have hP : va_P D vwCl (wII y q F_26 E) H := by rw [eF_26]; exact hP
        have hD : va_D A (wII y q F_26 E) := by rw [eF_26]; exact hD
        refine lv_aload_n hx hb dX0_becomes_126 rfl (lv_at hl 0 rfl) ?_
        refine va_get (D := D) (ci := 0) (v := .ref (q 6)) (C := RX0) (T := TX0) (N := 13) hx hb hts uX0_becomes_X0 hown hK hP 0 rfl rfl 12 (by decide) (hts _ kX0_becomes_1) (fun _ h9 => h9) rfl dX0_becomes_127 ?_
        refine lv_iload_n hx hb dX0_becomes_130 rfl (lv_at hl 2 rfl) ?_
        refine lv_aload_n hx hb dX0_becomes_131 rfl (lv_at hl 1 rfl) ?_
        refine va_get (D := D) (ci := 0) (v := .ref (q 13)) (C := RX0) (T := TX0) (N := 13) hx hb hts uX0_becomes_X0 hown hK hP 7 rfl rfl 12 (by decide) (hts _ kX0_becomes_1) (fun _ h9 => h9) rfl dX0_becomes_132 ?_
        refine lv_iload_n hx hb dX0_becomes_135 rfl (lv_at hl 2 rfl) ?_
        obtain ⟨z_27, h⟩ := q_grd_ok h
        refine va_iald hx hb hK hP 13 0 rfl rfl z_27 dX0_becomes_136 ?_
        obtain ⟨z_28, h⟩ := q_grd_ok h
        obtain ⟨F_29, eF_29, h⟩ := q_let_ok h
        refine va_iast hx hb hK hP hD hS 6 0 rfl rfl z_28 dX0_becomes_137 (fun H locs hP hD hS => ?_)
        have hP : va_P D vwCl (wII y q F_29 E) H := by rw [eF_29]; exact hP
        have hD : va_D A (wII y q F_29 E) := by rw [eF_29]; exact hD
        obtain ⟨x_30, ex_30, h⟩ := q_let_ok h
        refine lv_iinc (v := x_30) (lv' := [(2, .int x_30), (0, .ref (q 0)), (1, .ref (q 7))]) hx hb dX0_becomes_138 hl (k := 2) rfl (by rw [ex_30]; rfl) (by decide) rfl (fun ls hl => ?_)
        refine lv_goto (tgt := 58) hx hb dX0_becomes_141 (by decide) ?_
        exact ih58_8 x_30 F_29 K58_8 _ _ _ hP hD hS (lv_sub hl [1, 2, 0] rfl) h
  exact L58_8 E N (0 : Int32) F_7 K58_8 _ _ _ hP hD hS (lv_sub hl [1, 2, 0] rfl) hL8
theorem eX0_becomes : yX0_becomes.cls = RX0 ∧ yX0_becomes.cls ≠ "java/lang/invoke/MethodHandle" ∧ yX0_becomes.cls ≠ "java/lang/invoke/VarHandle" ∧ (parseMethodDescriptor yX0_becomes.desc).map (fun d => d.parameters.length) = some 1 := by decide +kernel
theorem uX1_renew_X1 : ∀ w ∈ u_ws RX1 TX1 3, w ∈ wsX1_renew := by decide +kernel
theorem kX1_renew_1 : Cond.fieldLink RX1 18 "BeamSeats$Sheet" "numbers" "[J" ∈ wsX1_renew := List.mem_of_getElem? (i := 3) (by decide +kernel)
theorem kX1_renew_2 : Cond.fieldLink RX1 15 "BeamSeats$Sheet" "size" "I" ∈ wsX1_renew := List.mem_of_getElem? (i := 2) (by decide +kernel)
theorem kX1_renew_3 : Cond.fieldLink RX1 9 "BeamSeats$Sheet" "bits" "I" ∈ wsX1_renew := List.mem_of_getElem? (i := 1) (by decide +kernel)
def f_X1_renew_L20 (N : Nat) (B : Nat → Int32) : Nat → Int32 → (Nat → Int64) → Option (Int32 × (Nat → Int64))
  | 0, _, _ => none
  | k + 1, v3, L =>
    if (B 1) ≤ v3 then
      some (v3, L)
    else
      q_grd v3 40 (
      q_let (vp_updL L v3.toNatClampNeg (0 : Int64)) (fun L_9 =>
      q_let (v3 + 1) (fun x_10 =>
      f_X1_renew_L20 N B k x_10 L_9)))
def f_X1_renew (N : Nat) (B : Nat → Int32) (L : Nat → Int64) (p1 : Int32) (p2 : Int32) : Option ((Nat → Int32) × (Nat → Int64)) :=
  q_let (upd B 0 p1) (fun B_1 =>
  if p1 = 0 then
    q_let (upd B_1 1 (0 : Int32)) (fun B_11 =>
    q_bd2 (f_X1_renew_L20 N B_11 N (0 : Int32) L) (fun x_13 L_14 =>
    some (B_11, L_14)))
  else
    q_let (upd B_1 1 p2) (fun B_3 =>
    q_bd2 (f_X1_renew_L20 N B_3 N (0 : Int32) L) (fun x_5 L_6 =>
    some (B_3, L_6))))
set_option maxHeartbeats 4000000 in
set_option maxRecDepth 100000 in
theorem c_X1_renew (l : Launch) (D : va_G) (y : Nat → ClassId) (t : Nat → Nat) (q : Nat → Nat) (sz N : Nat) (B : Nat → Int32) (L : Nat → Int64) (p1 : Int32) (p2 : Int32) (res : (Nat → Int32) × (Nat → Int64)) (h : f_X1_renew N B L p1 p2 = some res) : Met l yX1_renew wsX1_renew ({ frames := 0, cells := 0, slots := 0, locals := 0 } : Room) (pPre D y t [.ref (q 0), .int p1, .int p2] (wS y q B L) sz) (pQv D y (wS y q (res.1) (res.2)) (va_A (wS y q B L) sz)) 0 0 (va_A (wS y q B L) sz) := by
  refine q_start (Qc := (fun A => pQv D y (wS y q (res.1) (res.2)) A)) (cc := cX1_renew) (maxL := 4) (ret := none) (by decide) rfl (Nat.le_of_ble_eq_true rfl) ?_
  intro p e s m below meth c A ls hx hb hr hts hown hlocks hmn hml hP hK hZ hD hA hS hl
  have hl : lv_has ls 4 [(0, .ref (q 0)), (1, .int p1), (2, .int p2)] := hl
  have hown : s.vm.findClass RX1 = some m.cls := hown
  unfold f_X1_renew at h
  refine lv_aload_n hx hb dX1_renew_0 rfl (lv_at hl 0 rfl) ?_
  refine lv_iload_n hx hb dX1_renew_1 rfl (lv_at hl 1 rfl) ?_
  obtain ⟨B_1, eB_1, h⟩ := q_let_ok h
  refine va_put (D := D) (ci := 1) (v := .int p1) (ty := .int) (C := RX1) (T := TX1) (N := 3) hx hb hts uX1_renew_X1 tyX1 tyX1_ok nmX1 hown hK hP hD hS 0 rfl rfl 0 (by decide) (hts _ kX1_renew_3) (fun _ h9 => h9) rfl (by decide +kernel) rfl rfl (Nat.le_of_ble_eq_true rfl) dX1_renew_2 (fun H locs hP hD hS => ?_)
  have hP : va_P D vwCl (wS y q B_1 L) H := by rw [eB_1]; exact hP
  have hD : va_D A (wS y q B_1 L) := by rw [eB_1]; exact hD
  refine lv_aload_n hx hb dX1_renew_5 rfl (lv_at hl 0 rfl) ?_
  refine lv_iload_n hx hb dX1_renew_6 rfl (lv_at hl 1 rfl) ?_
  refine lv_if_ne (tgt := 14) hx hb dX1_renew_7 (by decide) (fun c_2 => ?_) (fun c_2 => ?_)
  · have h := q_f c_2 h
    refine lv_iload_n hx hb dX1_renew_14 rfl (lv_at hl 2 rfl) ?_
    obtain ⟨B_3, eB_3, h⟩ := q_let_ok h
    refine va_put (D := D) (ci := 1) (v := .int p2) (ty := .int) (C := RX1) (T := TX1) (N := 3) hx hb hts uX1_renew_X1 tyX1 tyX1_ok nmX1 hown hK hP hD hS 0 rfl rfl 1 (by decide) (hts _ kX1_renew_2) (fun _ h9 => h9) rfl (by decide +kernel) rfl rfl (Nat.le_of_ble_eq_true rfl) dX1_renew_15 (fun H locs hP hD hS => ?_)
    have hP : va_P D vwCl (wS y q B_3 L) H := by rw [eB_3]; exact hP
    have hD : va_D A (wS y q B_3 L) := by rw [eB_3]; exact hD
    refine lv_iconst (v := 0) hx hb dX1_renew_18 (by decide) ?_
    refine lv_istore_n (lv' := [(3, .int (0 : Int32)), (0, .ref (q 0)), (1, .int p1), (2, .int p2)]) hx hb dX1_renew_19 rfl hl (by decide) rfl (fun ls hl => ?_)
    obtain ⟨x_5, L_6, hL4, h⟩ := q_bd2_ok h
    have K20_4 : ∀ (H : Heap) (locs : List Loc) (ls : Array Slot), va_P D vwCl (wS y q B_3 L_6) H → va_D A (wS y q B_3 L_6) → va_S A s.heap H locs → lv_has ls 4 [(0, .ref (q 0)), (3, .int x_5)] → W p l e ({ frames := 0, cells := 0, slots := 0, locals := 0 } : Room) s m ([.ref (q 0), .int p1, .int p2] : List Value).toArray below meth c H locs 0 0 (MQ below (pQv D y (wS y q (res.1) (res.2)) A) ([.ref (q 0), .int p1, .int p2] : List Value).toArray s 0 0 A) (F0 m 41 ls []) := by
      intro H locs ls hP hD hS hl
      have e9 := Option.some.inj h
      exact q_vret hx hb hr hlocks hK hP hD hS dX1_renew_41 (by first | rw [← e9] | rfl)
    have L20_4 : ∀ (B : Nat → Int32) (k : Nat) (v3 : Int32) (L : Nat → Int64), (∀ (H : Heap) (locs : List Loc) (ls : Array Slot), va_P D vwCl (wS y q B L_6) H → va_D A (wS y q B L_6) → va_S A s.heap H locs → lv_has ls 4 [(0, .ref (q 0)), (3, .int x_5)] → W p l e ({ frames := 0, cells := 0, slots := 0, locals := 0 } : Room) s m ([.ref (q 0), .int p1, .int p2] : List Value).toArray below meth c H locs 0 0 (MQ below (pQv D y (wS y q (res.1) (res.2)) A) ([.ref (q 0), .int p1, .int p2] : List Value).toArray s 0 0 A) (F0 m 41 ls [])) → ∀ (H : Heap) (locs : List Loc) (ls : Array Slot), va_P D vwCl (wS y q B L) H → va_D A (wS y q B L) → va_S A s.heap H locs → lv_has ls 4 [(0, .ref (q 0)), (3, .int v3)] → f_X1_renew_L20 N B k v3 L = some (x_5, L_6) → W p l e ({ frames := 0, cells := 0, slots := 0, locals := 0 } : Room) s m ([.ref (q 0), .int p1, .int p2] : List Value).toArray below meth c H locs 0 0 (MQ below (pQv D y (wS y q (res.1) (res.2)) A) ([.ref (q 0), .int p1, .int p2] : List Value).toArray s 0 0 A) (F0 m 20 ls []) := by
      intro B k
      induction k with
      | zero =>
        intro v3 L K20_4 H locs ls hP hD hS hl h
        have h : (none : Option (Int32 × (Nat → Int64))) = some _ := h
        cases h
      | succ k ih20_4 =>
        intro v3 L K20_4 H locs ls hP hD hS hl h
        rw [f_X1_renew_L20] at h
        refine lv_iload_n hx hb dX1_renew_20 rfl (lv_at hl 1 rfl) ?_
        refine lv_aload_n hx hb dX1_renew_21 rfl (lv_at hl 0 rfl) ?_
        refine va_get (D := D) (ci := 1) (v := .int (B 1)) (C := RX1) (T := TX1) (N := 3) hx hb hts uX1_renew_X1 hown hK hP 0 rfl rfl 1 (by decide) (hts _ kX1_renew_2) (fun _ h9 => h9) rfl dX1_renew_22 ?_
        refine lv_icmp_ge (tgt := 41) hx hb dX1_renew_25 (by decide) (fun c_7 => ?_) (fun c_7 => ?_)
        · have h := q_t c_7 h
          cases h
          exact K20_4 _ _ _ hP hD hS (lv_sub hl [0, 1] rfl)
        · have h := q_f c_7 h
          refine lv_aload_n hx hb dX1_renew_28 rfl (lv_at hl 0 rfl) ?_
          refine va_get (D := D) (ci := 1) (v := .ref (q 1)) (C := RX1) (T := TX1) (N := 3) hx hb hts uX1_renew_X1 hown hK hP 0 rfl rfl 2 (by decide) (hts _ kX1_renew_1) (fun _ h9 => h9) rfl dX1_renew_29 ?_
          refine lv_iload_n hx hb dX1_renew_32 rfl (lv_at hl 1 rfl) ?_
          refine lv_lconst (v := 0) hx hb dX1_renew_33 (by decide) ?_
          obtain ⟨z_8, h⟩ := q_grd_ok h
          obtain ⟨L_9, eL_9, h⟩ := q_let_ok h
          refine va_last hx hb hK hP hD hS 1 2 rfl rfl z_8 dX1_renew_34 (fun H locs hP hD hS => ?_)
          have hP : va_P D vwCl (wS y q B L_9) H := by rw [eL_9]; exact hP
          have hD : va_D A (wS y q B L_9) := by rw [eL_9]; exact hD
          obtain ⟨x_10, ex_10, h⟩ := q_let_ok h
          refine lv_iinc (v := x_10) (lv' := [(3, .int x_10), (0, .ref (q 0))]) hx hb dX1_renew_35 hl (k := 1) rfl (by rw [ex_10]; rfl) (by decide) rfl (fun ls hl => ?_)
          refine lv_goto (tgt := 20) hx hb dX1_renew_38 (by decide) ?_
          exact ih20_4 x_10 L_9 K20_4 _ _ _ hP hD hS (lv_sub hl [1, 0] rfl) h
    exact L20_4 B_3 N (0 : Int32) L K20_4 _ _ _ hP hD hS (lv_sub hl [1, 0] rfl) hL4
  · have h := q_t c_2 h
    refine lv_iconst (v := 0) hx hb dX1_renew_10 (by decide) ?_
    refine lv_goto (tgt := 15) hx hb dX1_renew_11 (by decide) ?_
    obtain ⟨B_11, eB_11, h⟩ := q_let_ok h
    refine va_put (D := D) (ci := 1) (v := .int (0 : Int32)) (ty := .int) (C := RX1) (T := TX1) (N := 3) hx hb hts uX1_renew_X1 tyX1 tyX1_ok nmX1 hown hK hP hD hS 0 rfl rfl 1 (by decide) (hts _ kX1_renew_2) (fun _ h9 => h9) rfl (by decide +kernel) rfl rfl (Nat.le_of_ble_eq_true rfl) dX1_renew_15 (fun H locs hP hD hS => ?_)
    have hP : va_P D vwCl (wS y q B_11 L) H := by rw [eB_11]; exact hP
    have hD : va_D A (wS y q B_11 L) := by rw [eB_11]; exact hD
    refine lv_iconst (v := 0) hx hb dX1_renew_18 (by decide) ?_
    refine lv_istore_n (lv' := [(3, .int (0 : Int32)), (0, .ref (q 0)), (1, .int p1), (2, .int p2)]) hx hb dX1_renew_19 rfl hl (by decide) rfl (fun ls hl => ?_)
    obtain ⟨x_13, L_14, hL12, h⟩ := q_bd2_ok h
    have K20_12 : ∀ (H : Heap) (locs : List Loc) (ls : Array Slot), va_P D vwCl (wS y q B_11 L_14) H → va_D A (wS y q B_11 L_14) → va_S A s.heap H locs → lv_has ls 4 [(0, .ref (q 0)), (3, .int x_13)] → W p l e ({ frames := 0, cells := 0, slots := 0, locals := 0 } : Room) s m ([.ref (q 0), .int p1, .int p2] : List Value).toArray below meth c H locs 0 0 (MQ below (pQv D y (wS y q (res.1) (res.2)) A) ([.ref (q 0), .int p1, .int p2] : List Value).toArray s 0 0 A) (F0 m 41 ls []) := by
      intro H locs ls hP hD hS hl
      have e9 := Option.some.inj h
      exact q_vret hx hb hr hlocks hK hP hD hS dX1_renew_41 (by first | rw [← e9] | rfl)
    have L20_12 : ∀ (B : Nat → Int32) (k : Nat) (v3 : Int32) (L : Nat → Int64), (∀ (H : Heap) (locs : List Loc) (ls : Array Slot), va_P D vwCl (wS y q B L_14) H → va_D A (wS y q B L_14) → va_S A s.heap H locs → lv_has ls 4 [(0, .ref (q 0)), (3, .int x_13)] → W p l e ({ frames := 0, cells := 0, slots := 0, locals := 0 } : Room) s m ([.ref (q 0), .int p1, .int p2] : List Value).toArray below meth c H locs 0 0 (MQ below (pQv D y (wS y q (res.1) (res.2)) A) ([.ref (q 0), .int p1, .int p2] : List Value).toArray s 0 0 A) (F0 m 41 ls [])) → ∀ (H : Heap) (locs : List Loc) (ls : Array Slot), va_P D vwCl (wS y q B L) H → va_D A (wS y q B L) → va_S A s.heap H locs → lv_has ls 4 [(0, .ref (q 0)), (3, .int v3)] → f_X1_renew_L20 N B k v3 L = some (x_13, L_14) → W p l e ({ frames := 0, cells := 0, slots := 0, locals := 0 } : Room) s m ([.ref (q 0), .int p1, .int p2] : List Value).toArray below meth c H locs 0 0 (MQ below (pQv D y (wS y q (res.1) (res.2)) A) ([.ref (q 0), .int p1, .int p2] : List Value).toArray s 0 0 A) (F0 m 20 ls []) := by
      intro B k
      induction k with
      | zero =>
        intro v3 L K20_12 H locs ls hP hD hS hl h
        have h : (none : Option (Int32 × (Nat → Int64))) = some _ := h
        cases h
      | succ k ih20_12 =>
        intro v3 L K20_12 H locs ls hP hD hS hl h
        rw [f_X1_renew_L20] at h
        refine lv_iload_n hx hb dX1_renew_20 rfl (lv_at hl 1 rfl) ?_
        refine lv_aload_n hx hb dX1_renew_21 rfl (lv_at hl 0 rfl) ?_
        refine va_get (D := D) (ci := 1) (v := .int (B 1)) (C := RX1) (T := TX1) (N := 3) hx hb hts uX1_renew_X1 hown hK hP 0 rfl rfl 1 (by decide) (hts _ kX1_renew_2) (fun _ h9 => h9) rfl dX1_renew_22 ?_
        refine lv_icmp_ge (tgt := 41) hx hb dX1_renew_25 (by decide) (fun c_15 => ?_) (fun c_15 => ?_)
        · have h := q_t c_15 h
          cases h
          exact K20_12 _ _ _ hP hD hS (lv_sub hl [0, 1] rfl)
        · have h := q_f c_15 h
          refine lv_aload_n hx hb dX1_renew_28 rfl (lv_at hl 0 rfl) ?_
          refine va_get (D := D) (ci := 1) (v := .ref (q 1)) (C := RX1) (T := TX1) (N := 3) hx hb hts uX1_renew_X1 hown hK hP 0 rfl rfl 2 (by decide) (hts _ kX1_renew_1) (fun _ h9 => h9) rfl dX1_renew_29 ?_
          refine lv_iload_n hx hb dX1_renew_32 rfl (lv_at hl 1 rfl) ?_
          refine lv_lconst (v := 0) hx hb dX1_renew_33 (by decide) ?_
          obtain ⟨z_16, h⟩ := q_grd_ok h
          obtain ⟨L_17, eL_17, h⟩ := q_let_ok h
          refine va_last hx hb hK hP hD hS 1 2 rfl rfl z_16 dX1_renew_34 (fun H locs hP hD hS => ?_)
          have hP : va_P D vwCl (wS y q B L_17) H := by rw [eL_17]; exact hP
          have hD : va_D A (wS y q B L_17) := by rw [eL_17]; exact hD
          obtain ⟨x_18, ex_18, h⟩ := q_let_ok h
          refine lv_iinc (v := x_18) (lv' := [(3, .int x_18), (0, .ref (q 0))]) hx hb dX1_renew_35 hl (k := 1) rfl (by rw [ex_18]; rfl) (by decide) rfl (fun ls hl => ?_)
          refine lv_goto (tgt := 20) hx hb dX1_renew_38 (by decide) ?_
          exact ih20_12 x_18 L_17 K20_12 _ _ _ hP hD hS (lv_sub hl [1, 0] rfl) h
    exact L20_12 B_11 N (0 : Int32) L K20_12 _ _ _ hP hD hS (lv_sub hl [1, 0] rfl) hL12
theorem eX1_renew : yX1_renew.cls = RX1 ∧ yX1_renew.cls ≠ "java/lang/invoke/MethodHandle" ∧ yX1_renew.cls ≠ "java/lang/invoke/VarHandle" ∧ (parseMethodDescriptor yX1_renew.desc).map (fun d => d.parameters.length) = some 2 := by decide +kernel
theorem uX1_put_X1 : ∀ w ∈ u_ws RX1 TX1 3, w ∈ wsX1_put := by decide +kernel
theorem kX1_put_1 : Cond.fieldLink RX1 18 "BeamSeats$Sheet" "numbers" "[J" ∈ wsX1_put := List.mem_of_getElem? (i := 2) (by decide +kernel)
theorem kX1_put_2 : Cond.fieldLink RX1 9 "BeamSeats$Sheet" "bits" "I" ∈ wsX1_put := List.mem_of_getElem? (i := 1) (by decide +kernel)
def f_X1_put (N : Nat) (B : Nat → Int32) (L : Nat → Int64) (p1 : Int32) (p2 : Int64) : Option ((Nat → Int64)) :=
  if (B 0) = (8 : Int32) then
    q_grd p1 40 (
    q_let (vp_updL L p1.toNatClampNeg (((p2.toInt32).toInt8.toInt32).toInt64)) (fun L_8 =>
    some L_8))
  else
    if (B 0) = (16 : Int32) then
      q_grd p1 40 (
      q_let (vp_updL L p1.toNatClampNeg (((p2.toInt32).toInt16.toInt32).toInt64)) (fun L_6 =>
      some L_6))
    else
      q_grd p1 40 (
      q_let (vp_updL L p1.toNatClampNeg p2) (fun L_4 =>
      some L_4))
set_option maxHeartbeats 4000000 in
set_option maxRecDepth 100000 in
theorem c_X1_put (l : Launch) (D : va_G) (y : Nat → ClassId) (t : Nat → Nat) (q : Nat → Nat) (sz N : Nat) (B : Nat → Int32) (L : Nat → Int64) (p1 : Int32) (p2 : Int64) (res : (Nat → Int64)) (h : f_X1_put N B L p1 p2 = some res) : Met l yX1_put wsX1_put ({ frames := 0, cells := 0, slots := 0, locals := 0 } : Room) (pPre D y t [.ref (q 0), .int p1, .long p2] (wS y q B L) sz) (pQv D y (wS y q B res) (va_A (wS y q B L) sz)) 0 0 (va_A (wS y q B L) sz) := by
  refine q_start (Qc := (fun A => pQv D y (wS y q B res) A)) (cc := cX1_put) (maxL := 4) (ret := none) (by decide) rfl (Nat.le_of_ble_eq_true rfl) ?_
  intro p e s m below meth c A ls hx hb hr hts hown hlocks hmn hml hP hK hZ hD hA hS hl
  have hl : lv_has ls 4 [(0, .ref (q 0)), (1, .int p1), (2, .long p2)] := hl
  have hown : s.vm.findClass RX1 = some m.cls := hown
  unfold f_X1_put at h
  refine lv_aload_n hx hb dX1_put_0 rfl (lv_at hl 0 rfl) ?_
  refine va_get (D := D) (ci := 1) (v := .int (B 0)) (C := RX1) (T := TX1) (N := 3) hx hb hts uX1_put_X1 hown hK hP 0 rfl rfl 0 (by decide) (hts _ kX1_put_2) (fun _ h9 => h9) rfl dX1_put_1 ?_
  refine lv_bipush (v := 8) hx hb dX1_put_4 (by decide) ?_
  refine lv_icmp_ne (tgt := 22) hx hb dX1_put_6 (by decide) (fun c_1 => ?_) (fun c_1 => ?_)
  · have h := q_f c_1 h
    refine lv_aload_n hx hb dX1_put_22 rfl (lv_at hl 0 rfl) ?_
    refine va_get (D := D) (ci := 1) (v := .int (B 0)) (C := RX1) (T := TX1) (N := 3) hx hb hts uX1_put_X1 hown hK hP 0 rfl rfl 0 (by decide) (hts _ kX1_put_2) (fun _ h9 => h9) rfl dX1_put_23 ?_
    refine lv_bipush (v := 16) hx hb dX1_put_26 (by decide) ?_
    refine lv_icmp_ne (tgt := 44) hx hb dX1_put_28 (by decide) (fun c_2 => ?_) (fun c_2 => ?_)
    · have h := q_f c_2 h
      refine lv_aload_n hx hb dX1_put_44 rfl (lv_at hl 0 rfl) ?_
      refine va_get (D := D) (ci := 1) (v := .ref (q 1)) (C := RX1) (T := TX1) (N := 3) hx hb hts uX1_put_X1 hown hK hP 0 rfl rfl 2 (by decide) (hts _ kX1_put_1) (fun _ h9 => h9) rfl dX1_put_45 ?_
      refine lv_iload_n hx hb dX1_put_48 rfl (lv_at hl 1 rfl) ?_
      refine lv_lload_n hx hb dX1_put_49 rfl (lv_at hl 2 rfl) ?_
      obtain ⟨z_3, h⟩ := q_grd_ok h
      obtain ⟨L_4, eL_4, h⟩ := q_let_ok h
      refine va_last hx hb hK hP hD hS 1 2 rfl rfl z_3 dX1_put_50 (fun H locs hP hD hS => ?_)
      have hP : va_P D vwCl (wS y q B L_4) H := by rw [eL_4]; exact hP
      have hD : va_D A (wS y q B L_4) := by rw [eL_4]; exact hD
      have e9 := Option.some.inj h
      exact q_vret hx hb hr hlocks hK hP hD hS dX1_put_51 (by first | rw [← e9] | rfl)
    · have h := q_t c_2 h
      refine lv_aload_n hx hb dX1_put_31 rfl (lv_at hl 0 rfl) ?_
      refine va_get (D := D) (ci := 1) (v := .ref (q 1)) (C := RX1) (T := TX1) (N := 3) hx hb hts uX1_put_X1 hown hK hP 0 rfl rfl 2 (by decide) (hts _ kX1_put_1) (fun _ h9 => h9) rfl dX1_put_32 ?_
      refine lv_iload_n hx hb dX1_put_35 rfl (lv_at hl 1 rfl) ?_
      refine lv_lload_n hx hb dX1_put_36 rfl (lv_at hl 2 rfl) ?_
      refine lv_l2i hx hb dX1_put_37 rfl ?_
      refine lv_i2s hx hb dX1_put_38 rfl ?_
      refine lv_i2l hx hb dX1_put_39 rfl ?_
      obtain ⟨z_5, h⟩ := q_grd_ok h
      obtain ⟨L_6, eL_6, h⟩ := q_let_ok h
      refine va_last hx hb hK hP hD hS 1 2 rfl rfl z_5 dX1_put_40 (fun H locs hP hD hS => ?_)
      have hP : va_P D vwCl (wS y q B L_6) H := by rw [eL_6]; exact hP
      have hD : va_D A (wS y q B L_6) := by rw [eL_6]; exact hD
      refine lv_goto (tgt := 51) hx hb dX1_put_41 (by decide) ?_
      have e9 := Option.some.inj h
      exact q_vret hx hb hr hlocks hK hP hD hS dX1_put_51 (by first | rw [← e9] | rfl)
  · have h := q_t c_1 h
    refine lv_aload_n hx hb dX1_put_9 rfl (lv_at hl 0 rfl) ?_
    refine va_get (D := D) (ci := 1) (v := .ref (q 1)) (C := RX1) (T := TX1) (N := 3) hx hb hts uX1_put_X1 hown hK hP 0 rfl rfl 2 (by decide) (hts _ kX1_put_1) (fun _ h9 => h9) rfl dX1_put_10 ?_
    refine lv_iload_n hx hb dX1_put_13 rfl (lv_at hl 1 rfl) ?_
    refine lv_lload_n hx hb dX1_put_14 rfl (lv_at hl 2 rfl) ?_
    refine lv_l2i hx hb dX1_put_15 rfl ?_
    refine lv_i2b hx hb dX1_put_16 rfl ?_
    refine lv_i2l hx hb dX1_put_17 rfl ?_
    obtain ⟨z_7, h⟩ := q_grd_ok h
    obtain ⟨L_8, eL_8, h⟩ := q_let_ok h
    refine va_last hx hb hK hP hD hS 1 2 rfl rfl z_7 dX1_put_18 (fun H locs hP hD hS => ?_)
    have hP : va_P D vwCl (wS y q B L_8) H := by rw [eL_8]; exact hP
    have hD : va_D A (wS y q B L_8) := by rw [eL_8]; exact hD
    refine lv_goto (tgt := 51) hx hb dX1_put_19 (by decide) ?_
    have e9 := Option.some.inj h
    exact q_vret hx hb hr hlocks hK hP hD hS dX1_put_51 (by first | rw [← e9] | rfl)
theorem eX1_put : yX1_put.cls = RX1 ∧ yX1_put.cls ≠ "java/lang/invoke/MethodHandle" ∧ yX1_put.cls ≠ "java/lang/invoke/VarHandle" ∧ (parseMethodDescriptor yX1_put.desc).map (fun d => d.parameters.length) = some 2 := by decide +kernel
theorem uX1_hasNumbers_X1 : ∀ w ∈ u_ws RX1 TX1 3, w ∈ wsX1_hasNumbers := by decide +kernel
theorem kX1_hasNumbers_1 : Cond.fieldLink RX1 15 "BeamSeats$Sheet" "size" "I" ∈ wsX1_hasNumbers := List.mem_of_getElem? (i := 1) (by decide +kernel)
def f_X1_hasNumbers (N : Nat) (B : Nat → Int32) (L : Nat → Int64) (p1 : Int32) (p2 : Int32) : Option (Int32) :=
  if p1 < 0 then
    some (0 : Int32)
  else
    if p2 < 0 then
      some (0 : Int32)
    else
      if (B 1) < p1 then
        some (0 : Int32)
      else
        if ((B 1) - p1) < p2 then
          some (0 : Int32)
        else
          some (1 : Int32)
set_option maxHeartbeats 4000000 in
set_option maxRecDepth 100000 in
theorem c_X1_hasNumbers (l : Launch) (D : va_G) (y : Nat → ClassId) (t : Nat → Nat) (q : Nat → Nat) (sz N : Nat) (B : Nat → Int32) (L : Nat → Int64) (p1 : Int32) (p2 : Int32) (res : Int32) (h : f_X1_hasNumbers N B L p1 p2 = some res) : Met l yX1_hasNumbers wsX1_hasNumbers ({ frames := 0, cells := 0, slots := 0, locals := 0 } : Room) (pPre D y t [.ref (q 0), .int p1, .int p2] (wS y q B L) sz) (pQi D y res (wS y q B L) (va_A (wS y q B L) sz)) 0 0 (va_A (wS y q B L) sz) := by
  refine q_start (Qc := (fun A => pQi D y res (wS y q B L) A)) (cc := cX1_hasNumbers) (maxL := 3) (ret := (some .boolean)) (by decide) rfl (Nat.le_of_ble_eq_true rfl) ?_
  intro p e s m below meth c A ls hx hb hr hts hown hlocks hmn hml hP hK hZ hD hA hS hl
  have hl : lv_has ls 3 [(0, .ref (q 0)), (1, .int p1), (2, .int p2)] := hl
  have hown : s.vm.findClass RX1 = some m.cls := hown
  unfold f_X1_hasNumbers at h
  refine lv_iload_n hx hb dX1_hasNumbers_0 rfl (lv_at hl 1 rfl) ?_
  refine lv_if_lt (tgt := 30) hx hb dX1_hasNumbers_1 (by decide) (fun c_1 => ?_) (fun c_1 => ?_)
  · have h := q_t c_1 h
    refine lv_iconst (v := 0) hx hb dX1_hasNumbers_30 (by decide) ?_
    have e9 := Option.some.inj h
    exact q_zret hx hb hr hlocks hK hP hD hS dX1_hasNumbers_31 rfl (by first | rw [← e9] | rfl) (by first | rw [← e9] | rfl)
  · have h := q_f c_1 h
    refine lv_iload_n hx hb dX1_hasNumbers_4 rfl (lv_at hl 2 rfl) ?_
    refine lv_if_lt (tgt := 30) hx hb dX1_hasNumbers_5 (by decide) (fun c_2 => ?_) (fun c_2 => ?_)
    · have h := q_t c_2 h
      refine lv_iconst (v := 0) hx hb dX1_hasNumbers_30 (by decide) ?_
      have e9 := Option.some.inj h
      exact q_zret hx hb hr hlocks hK hP hD hS dX1_hasNumbers_31 rfl (by first | rw [← e9] | rfl) (by first | rw [← e9] | rfl)
    · have h := q_f c_2 h
      refine lv_iload_n hx hb dX1_hasNumbers_8 rfl (lv_at hl 1 rfl) ?_
      refine lv_aload_n hx hb dX1_hasNumbers_9 rfl (lv_at hl 0 rfl) ?_
      refine va_get (D := D) (ci := 1) (v := .int (B 1)) (C := RX1) (T := TX1) (N := 3) hx hb hts uX1_hasNumbers_X1 hown hK hP 0 rfl rfl 1 (by decide) (hts _ kX1_hasNumbers_1) (fun _ h9 => h9) rfl dX1_hasNumbers_10 ?_
      refine lv_icmp_gt (tgt := 30) hx hb dX1_hasNumbers_13 (by decide) (fun c_3 => ?_) (fun c_3 => ?_)
      · have h := q_t c_3 h
        refine lv_iconst (v := 0) hx hb dX1_hasNumbers_30 (by decide) ?_
        have e9 := Option.some.inj h
        exact q_zret hx hb hr hlocks hK hP hD hS dX1_hasNumbers_31 rfl (by first | rw [← e9] | rfl) (by first | rw [← e9] | rfl)
      · have h := q_f c_3 h
        refine lv_iload_n hx hb dX1_hasNumbers_16 rfl (lv_at hl 2 rfl) ?_
        refine lv_aload_n hx hb dX1_hasNumbers_17 rfl (lv_at hl 0 rfl) ?_
        refine va_get (D := D) (ci := 1) (v := .int (B 1)) (C := RX1) (T := TX1) (N := 3) hx hb hts uX1_hasNumbers_X1 hown hK hP 0 rfl rfl 1 (by decide) (hts _ kX1_hasNumbers_1) (fun _ h9 => h9) rfl dX1_hasNumbers_18 ?_
        refine lv_iload_n hx hb dX1_hasNumbers_21 rfl (lv_at hl 1 rfl) ?_
        refine lv_isub hx hb dX1_hasNumbers_22 ?_
        refine lv_icmp_gt (tgt := 30) hx hb dX1_hasNumbers_23 (by decide) (fun c_4 => ?_) (fun c_4 => ?_)
        · have h := q_t c_4 h
          refine lv_iconst (v := 0) hx hb dX1_hasNumbers_30 (by decide) ?_
          have e9 := Option.some.inj h
          exact q_zret hx hb hr hlocks hK hP hD hS dX1_hasNumbers_31 rfl (by first | rw [← e9] | rfl) (by first | rw [← e9] | rfl)
        · have h := q_f c_4 h
          refine lv_iconst (v := 1) hx hb dX1_hasNumbers_26 (by decide) ?_
          refine lv_goto (tgt := 31) hx hb dX1_hasNumbers_27 (by decide) ?_
          have e9 := Option.some.inj h
          exact q_zret hx hb hr hlocks hK hP hD hS dX1_hasNumbers_31 rfl (by first | rw [← e9] | rfl) (by first | rw [← e9] | rfl)
theorem eX1_hasNumbers : yX1_hasNumbers.cls = RX1 ∧ yX1_hasNumbers.cls ≠ "java/lang/invoke/MethodHandle" ∧ yX1_hasNumbers.cls ≠ "java/lang/invoke/VarHandle" ∧ (parseMethodDescriptor yX1_hasNumbers.desc).map (fun d => d.parameters.length) = some 2 := by decide +kernel
