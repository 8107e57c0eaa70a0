/-! ===== the statics stand ===== -/
theorem z_all {s : State} {b : Nat} (hts : ∀ w ∈ lw_tbl, w.before #[Value.ref b] s = true) (hg : (Jvm.Cond.and given_1 narrow_1).before #[Value.ref b] s = true) : ∃ t : Nat → Nat, ZZ t (AA s) s s.heap := by
  have hs := flat_of_before _ hg
  have hA : ∀ a : Nat, a < s.heap.size → ¬ AA s a := fun a h => Nat.not_le.mpr h
  obtain ⟨t0, e0, T0⟩ := va_Tof (tm := .static "BeamSeats" "KIND_ABOVE" "[I") (ty := .int) (N := 6) (f := fun j => .int (kab j)) (A := AA s) (by decide) (hs _ z_a1) (va_eqt (hs _ z_a2)) (fun j hj => va_eqt (hs _ (z_kin j hj))) hA
  obtain ⟨t1, e1, T1⟩ := va_Tof (tm := .static "BeamSeatsModel" "NAMES" "[I") (ty := .int) (N := 84) (f := fun j => .int (nms j)) (A := AA s) (by decide) (hs _ z_a3) (va_eqt (hs _ z_a4)) (fun j hj => va_eqt (hs _ (z_nin j hj))) hA
  have hlen : ∀ i : Nat, i < 13 → strLen.getD i 0 < 2 ^ 31 := by decide
  obtain ⟨aK, aV, hS, hev⟩ := vk_Sof (N := 13) (tm := stm) (len := strLen) (byt := strByt) (A := AA s) hlen (fun i hi => hs _ (z_ex i hi)) (fun i hi => hs _ (z_co i hi)) (fun i hi => hs _ (z_ar i hi)) (fun i hi => hs _ (z_le i hi)) (fun i hi j hj => hs _ (z_el i hi j hj)) (fun i j hi hj hij => by
    rcases Nat.lt_or_ge i j with h | h
    · exact Or.inl (hs _ (z_ne j hj i h))
    · exact Or.inr (hs _ (z_ne i hi j (by omega)))) hA
  obtain ⟨t, ht⟩ : ∃ t : Nat → Nat, t = fun k => if k = 0 then t0 else if k = 1 then t1 else if k < 20 then aK (k - 2) else aV (k - 20) := ⟨_, rfl⟩
  have f0 : t 0 = t0 := by rw [ht]; rfl
  have f1 : t 1 = t1 := by rw [ht]; rfl
  have fK : ∀ i, i < 13 → t (2 + i) = aK i := fun i hi => by
    rw [ht]
    show (if 2 + i = 0 then t0 else if 2 + i = 1 then t1 else if 2 + i < 20 then aK (2 + i - 2) else aV (2 + i - 20)) = aK i
    rw [if_neg (by omega), if_neg (by omega), if_pos (by omega), show 2 + i - 2 = i by omega]
  have fV : ∀ i, i < 13 → t (20 + i) = aV i := fun i hi => by
    rw [ht]
    show (if 20 + i = 0 then t0 else if 20 + i = 1 then t1 else if 20 + i < 20 then aK (20 + i - 2) else aV (20 + i - 20)) = aV i
    rw [if_neg (by omega), if_neg (by omega), if_neg (by omega), show 20 + i - 20 = i by omega]
  refine ⟨t, ⟨?_, ?_⟩, ⟨?_, ?_⟩, ?_, ?_, ⟨?_, ?_⟩, ?_, ?_⟩
  · rw [f0]; exact va_Zof (hts _ z_l1) (hts _ z_i1) e0 hA
  · rw [f0]; exact T0
  · rw [f1]; exact va_Zof (hts _ z_l2) (hts _ z_i2) e1 hA
  · rw [f1]; exact T1
  · exact va_Zof (hts _ z_l3) (hts _ z_i3) (va_eqi (hs _ z_a5)) hA
  · exact va_Zqof (hts _ z_l4) (hts _ z_i4) (hs _ z_a6) hA
  · intro i hi
    show va_O "java/lang/String" (t (2 + i)) (AA s) s s.heap ∧ va_OF "java/lang/String" "coder" "B" (.int 0) (t (2 + i)) (AA s) s s.heap ∧ va_OF "java/lang/String" "value" "[B" (.ref (t (20 + i))) (t (2 + i)) (AA s) s s.heap ∧ va_T .byte (t (20 + i)) (strLen.getD i 0) (fun j => .int ((strByt.getD i []).getD j 0)) (AA s) s s.heap
    rw [fK i hi, fV i hi]
    exact hS.1 i hi
  · intro i j hi hj
    show t (2 + i) = t (2 + j) → i = j
    rw [fK i hi, fK j hj]
    exact hS.2 i j hi hj
  · intro i hi
    rw [fK i hi]
    exact vk_R.of (hts _ (z_sr i hi)) (hev i hi)
  · exact ⟨va_Nw.of rfl (hts _ z_n1), va_Nw.of rfl (hts _ z_n2), va_Nw.of rfl (hts _ z_n3), va_Nw.of rfl (hts _ z_n4)⟩
theorem z_cls {s : State} {b : Nat} (hts : ∀ w ∈ lw_tbl, w.before #[Value.ref b] s = true) : ∃ (D : va_G) (y : Nat → ClassId), va_K D vwCl (TYs y) s ∧ va_AO RX1 s := by
  obtain ⟨c0, i0, k0⟩ := u_known (C := RX0) (T := TX0) (N := 13) (n := 13) hts inL_X0 (hts _ z_in0)
  obtain ⟨c1, i1, k1⟩ := u_known (C := RX1) (T := TX1) (N := 3) (n := 3) hts inL_X1 (hts _ z_in1)
  obtain ⟨c2, i2, k2⟩ := u_known (C := RX2) (T := TX2) (N := 7) (n := 7) hts inL_X2 (hts _ z_in2)
  obtain ⟨c3, i3, k3⟩ := u_known (C := RX3) (T := TX3) (N := 7) (n := 7) hts inL_X3 (hts _ z_in3)
  obtain ⟨c4, i4, k4⟩ := u_known (C := RX4) (T := TX4) (N := 15) (n := 15) hts inL_X4 (hts _ z_in4)
  have ao : va_AO RX1 s := va_AO.of (hts _ z_ao)
  obtain ⟨comp, cs, ks, h1, h2, h3, h4, h5⟩ := Cond.arrayOver_spec (hts _ z_ao)
  obtain ⟨y0, ky0, cy0, p0, r0, s0⟩ := Cond.arrayClass_spec (hts _ z_c0)
  have a0 : ArrOfT s y0 .int ∧ va_RA s y0 .int := ⟨fun n z => ⟨fun k h => (by cases h), ky0, r0, cy0, s0⟩, p0⟩
  obtain ⟨y1, ky1, cy1, p1, r1, s1⟩ := Cond.arrayClass_spec (hts _ z_c1)
  have a1 : ArrOfT s y1 .byte ∧ va_RA s y1 .byte := ⟨fun n z => ⟨fun k h => (by cases h), ky1, r1, cy1, s1⟩, p1⟩
  obtain ⟨y2, ky2, cy2, p2, r2, s2⟩ := Cond.arrayClass_spec (hts _ z_c2)
  have a2 : ArrOfT s y2 .long ∧ va_RA s y2 .long := ⟨fun n z => ⟨fun k h => (by cases h), ky2, r2, cy2, s2⟩, p2⟩
  refine ⟨(fun k => match k with | 0 => c0 | 1 => c1 | 2 => c2 | 3 => c3 | _ => c4, fun k => match k with | 0 => i0 | 1 => i1 | 2 => i2 | 3 => i3 | _ => i4), fun k => match k with | 0 => y0 | 1 => y1 | 2 => y2 | _ => cs, ⟨?_, ?_⟩, ao⟩
  · intro k q hq
    match k, hq with
    | 0, hq => cases hq; exact k0
    | 1, hq => cases hq; exact k1
    | 2, hq => cases hq; exact k2
    | 3, hq => cases hq; exact k3
    | 4, hq => cases hq; exact k4
    | k + 5, hq => simp at hq
  · intro k q hq
    match k, hq with
    | 0, hq => cases hq; exact a0
    | 1, hq => cases hq; exact a1
    | 2, hq => cases hq; exact a2
    | 3, hq => cases hq; exact ⟨fun N z => ⟨(fun k h => by cases h), ks, h3, comp, h4⟩, ks, comp, h3, h4, h1, h5⟩
    | k + 4, hq => simp [TYs] at hq
