/-! ===== pure 5: a second ===== -/
def sOn (a : Nat → Nat) (i : Nat) : Nat → Nat := upN (upN a (8 + 8 * i) 1) (12 + 8 * i) (if a (12 + 8 * i) < 9999 then a (12 + 8 * i) + 1 else 9999)
def sOff (a : Nat → Nat) (i b : Nat) : Nat → Nat := upN (upN a (8 + 8 * i) 0) (6 + 8 * i) b
def sLose (a : Nat → Nat) (i : Nat) : Nat → Nat := upN a (11 + 8 * i) 1
/-- what stays over a step -/
def kp (a b : Nat → Nat) : Prop := b 0 = a 0 ∧ b 1 = a 1 ∧ b 2 = a 2 ∧ b 3 = a 3 ∧ b 4 = a 4
theorem kp.rf {a : Nat → Nat} : kp a a := ⟨rfl, rfl, rfl, rfl, rfl⟩
theorem kp.tr {a b c : Nat → Nat} (h : kp a b) (g : kp b c) : kp a c := ⟨g.1.trans h.1, g.2.1.trans h.2.1, g.2.2.1.trans h.2.2.1, g.2.2.2.1.trans h.2.2.2.1, g.2.2.2.2.trans h.2.2.2.2⟩
theorem kp.up {a : Nat → Nat} {k v : Nat} (h : 4 < k) : kp a (upN a k v) := ⟨upN_n (by omega), upN_n (by omega), upN_n (by omega), upN_n (by omega), upN_n (by omega)⟩
theorem kp_on {a : Nat → Nat} {i : Nat} : kp a (sOn a i) := (kp.up (by omega)).tr (kp.up (by omega))
theorem kp_off {a : Nat → Nat} {i b : Nat} : kp a (sOff a i b) := (kp.up (by omega)).tr (kp.up (by omega))
theorem kp_lose {a : Nat → Nat} {i : Nat} : kp a (sLose a i) := kp.up (by omega)
theorem wf_sOn {a : Nat → Nat} {i : Nat} (hw : wf a) (hi : i < a 4) : wf (sOn a i) := by
  have h := (hw.2.2.2.2 i hi).2.2.2.2.2.2.2
  have h1 : wf (upN a (8 + 8 * i) 1) := wf_on hw hi (by omega)
  refine wf_times h1 (by rw [upN4 (by omega)]; exact hi) ?_
  split <;> omega
theorem wf_sOff {a : Nat → Nat} {i b : Nat} (hw : wf a) (hi : i < a 4) (hb : b < 60) : wf (sOff a i b) := wf_at (wf_on hw hi (by omega)) (by rw [upN4 (by omega)]; exact hi) hb
theorem wf_sLose {a : Nat → Nat} {i : Nat} (hw : wf a) (hi : i < a 4) : wf (sLose a i) := wf_lost hw hi (by omega)
theorem b_set2 : ∀ s, s < 256 → ∀ i, i < 8 → (nI s ||| ((1 : Int32) <<< (nI i &&& 31))) = nI (s + (1 - s / 2 ^ i % 2) * 2 ^ i) := by decide +kernel
theorem c_setbit {a : Nat → Nat} {k i : Nat} (h4 : a 4 ≤ 8) (hb : ∀ j, j < a 4 → a (5 + k + 8 * j) ≤ 1) (hi : i < a 4) : (nI (sSet a k (a 4)) ||| ((1 : Int32) <<< (nI i &&& 31))) = nI (sSet (upN a (5 + k + 8 * i) 1) k (a 4)) := by
  rw [b_set2 _ (sSet_256 h4 hb) i (by omega), sSet_bit _ h4 hb i hi]
  have h := sSet_up (a := a) (k := k) (i := i) (v := 1) (a 4) hi
  congr 1
  rcases le1 (hb i hi) with e | e <;> rw [e] at h ⊢ <;> omega
theorem c_clrbit {a : Nat → Nat} {k i : Nat} (h4 : a 4 ≤ 8) (hb : ∀ j, j < a 4 → a (5 + k + 8 * j) ≤ 1) (hi : i < a 4) : (nI (sSet a k (a 4)) &&& (((1 : Int32) <<< (nI i &&& 31)) ^^^ (-1 : Int32))) = nI (sSet (upN a (5 + k + 8 * i) 0) k (a 4)) := by
  rw [b_clr _ (sSet_256 h4 hb) i (by omega), sSet_bit _ h4 hb i hi]
  have h := sSet_up (a := a) (k := k) (i := i) (v := 0) (a 4) hi
  congr 1
  omega
theorem e_times {x : Nat} (h : x < 10000) : (if (9999 : Int32) < nI x + 1 then (9999 : Int32) else nI x + 1) = nI (if x < 9999 then x + 1 else 9999) := by
  rw [nI_1, show (9999 : Int32) = nI 9999 from rfl, i_lt (by omega) (by omega)]
  by_cases e : x < 9999
  · rw [if_neg (by omega), if_pos e]
  · rw [if_pos (by omega), if_neg e]
theorem r_held {N x h : Nat} (hx : x < 100000) (hh : h < 100000) : f_X4_held N (nI x) 0 (nI h) = some (nI (if x ≤ h then x else h)) := by
  rw [f_X4_held, if_pos (nI_pos' (by omega)), i_le hx hh]
  split <;> rfl
theorem r_heldT {N x : Nat} (h : x < 10000) : f_X4_held N (nI x + 1) 0 9999 = some (nI (if x < 9999 then x + 1 else 9999)) := by
  rw [nI_1, show (9999 : Int32) = nI 9999 from rfl, r_held (by omega) (by omega)]
  by_cases e : x < 9999
  · rw [if_pos (by omega), if_pos e]
  · rw [if_neg (by omega), if_neg e]
/-- the other rows of the reference stay -/
def sX (F F' : Nat → Nat → Int32) : Prop := ∀ j, j ≠ 1 → F' j = F j
theorem sX.rf {F : Nat → Nat → Int32} : sX F F := fun _ _ => rfl
theorem sX.tr {F F' F'' : Nat → Nat → Int32} (h : sX F F') (g : sX F' F'') : sX F F'' := fun j hj => (g j hj).trans (h j hj)
theorem sX.up {F : Nat → Nat → Int32} {k : Nat} {v : Int32} : sX F (q_up F 1 k v) := fun _ hj => qu_n hj
theorem mR_q {F : Nat → Nat → Int32} {a : Nat → Nat} {k v : Nat} (hM : mRel (F 1) a) (hk : k ≠ 4) : mRel (q_up F 1 k (nI v) 1) (upN a k v) := by rw [qu_s]; exact mR_up hM hk
section SEC
variable {N : Nat} {F R : Nat → Nat → Int32} {G : Nat → Int64} {a : Nat → Nat} {i : Nat}
theorem r_comeOn (hM : mRel (F 1) a) (hw : wf a) (hi : i < a 4) : ∃ F', f_X4_comesOn N F G (nI i) = some F' ∧ mRel (F' 1) (sOn a i) ∧ sX F F' := by
  have h8 : i < 8 := Nat.lt_of_lt_of_le hi hw.2.2.2.1
  have ht := (hw.2.2.2.2 i hi).2.2.2.2.2.2.2
  have e : (q_up F 1 (8 + 8 * i) 1) 1 (12 + 8 * i) = nI (a (12 + 8 * i)) := by rw [qu_s, pk_un (by omega)]; exact hM _ (by omega)
  refine ⟨_, ?_, mR_q (mR_q (v := 1) hM (by omega)) (by omega), sX.up.tr sX.up⟩
  rw [f_X4_comesOn, r_put3 h8, p_bd, r_it7 h8, p_bd, e, r_heldT ht, p_bd, r_put7 h8, p_bd]
  rfl
theorem c_comeOn (hR : cRel R a) (hw : wf a) (hi : i < a 4) : ∃ R', f_X0_comeOn N R (nI i) = some R' ∧ cRel R' (sOn a i) := by
  have h8 : i < 8 := Nat.lt_of_lt_of_le hi hw.2.2.2.1
  have ht := (hw.2.2.2.2 i hi).2.2.2.2.2.2.2
  have h1 := cR_on (v := 1) hR hi
  refine ⟨_, ?_, cR_times h1 (by rw [upN4 (by omega)]; exact hi)⟩
  rw [f_X0_comeOn, p_let, p_grd _ h8 (by decide), p_let, p_grd _ h8 (by decide), p_let, p_cl (by omega), hR.2.2.2.2.2.1, c_setbit hw.2.2.2.1 hw.on hi, qu_n (by decide), (hR.2.2.2.2.2.2.2 i hi).2.2.2.2.2, e_times ht]
theorem r_goOff {b : Nat} (hM : mRel (F 1) a) (hw : wf a) (hi : i < a 4) : ∃ F', f_X4_goesOff N F G (nI i) (nI b) = some F' ∧ mRel (F' 1) (sOff a i b) ∧ sX F F' := by
  have h8 : i < 8 := Nat.lt_of_lt_of_le hi hw.2.2.2.1
  refine ⟨_, ?_, mR_q (mR_q (v := 0) hM (by omega)) (by omega), sX.up.tr sX.up⟩
  rw [f_X4_goesOff, r_put3 h8, p_bd, r_put1 h8, p_bd]
  rfl
theorem c_goOff (hR : cRel R a) (hw : wf a) (hi : i < a 4) : ∃ R', f_X0_goOff N R (nI i) = some R' ∧ cRel R' (sOff a i (a 1)) := by
  have h8 : i < 8 := Nat.lt_of_lt_of_le hi hw.2.2.2.1
  have h1 := cR_on (v := 0) hR hi
  refine ⟨_, ?_, cR_at h1 (by rw [upN4 (by omega)]; exact hi)⟩
  rw [f_X0_goOff, p_let, p_grd _ h8 (by decide), p_let, p_cl (by omega), hR.2.2.2.2.2.1, c_clrbit hw.2.2.2.1 hw.on hi]
  have e : (q_up R 0 5 (nI (sSet (upN a (5 + 3 + 8 * i) 0) 3 (a 4)))) 0 1 = nI (a 1) := by rw [qu_s, pk_un (by decide)]; exact hR.2.1
  rw [e]
theorem c_loseBit (hR : cRel R a) (hw : wf a) (hi : i < a 4) : cRel (q_up R 0 6 (R 0 6 ||| ((1 : Int32) <<< (nI i &&& 31)))) (sLose a i) := by
  rw [hR.2.2.2.2.2.2.1, c_setbit hw.2.2.2.1 hw.lost hi]
  exact cR_lost (v := 1) hR hi
/-! one passes by -/
def sPass (a : Nat → Nat) (u i : Nat) : Nat → Nat :=
  if a (8 + 8 * i) = 1 then (if gOff a i (a 1) = 1 then sOff a i (a 1) else if a 1 = 58 then sLose (sOff a i (a 1)) i else a)
  else if u / 2 ^ i % 2 = 0 ∧ a (11 + 8 * i) = 0 ∧ a (6 + 8 * i) = a 1 ∧ gOn a i = 1 ∧ bor a i = 1 then sOn a i else a
theorem kp_pass {u : Nat} : kp a (sPass a u i) := by
  unfold sPass
  split
  · split
    · exact kp_off
    · split
      · exact kp_off.tr kp_lose
      · exact kp.rf
  · split
    · exact kp_on
    · exact kp.rf
theorem wf_pass {u : Nat} (hw : wf a) (hi : i < a 4) : wf (sPass a u i) := by
  unfold sPass
  split
  · split
    · exact wf_sOff hw hi hw.1
    · split
      · exact wf_sLose (wf_sOff hw hi hw.1) (by rw [kp_off.2.2.2.2]; exact hi)
      · exact hw
  · split
    · exact wf_sOn hw hi
    · exact hw
theorem gOn01 : gOn a i = 0 ∨ gOn a i = 1 := by
  unfold gOn
  repeat' split
  all_goals first | exact Or.inl rfl | exact Or.inr rfl
theorem gOff01 {b : Nat} : gOff a i b = 0 ∨ gOff a i b = 1 := by
  unfold gOff
  repeat' split
  all_goals first | exact Or.inl rfl | exact Or.inr rfl
theorem bor01 : bor a i = 0 ∨ bor a i = 1 := by
  unfold bor
  split
  · exact Or.inl rfl
  · exact Or.inr rfl
theorem r_pass57 {u : Nat} (hM : mRel (F 1) a) (hw : wf a) (hi : i < a 4) (hu : u < 256) (h0 : a (8 + 8 * i) = 0) (hN : 9 ≤ N) : ∃ F', f_X4_passes_B57 N F G (nI i) (nI (a 1)) (nI u) = some F' ∧ mRel (F' 1) (sPass a u i) ∧ sX F F' := by
  have h8 : i < 8 := Nat.lt_of_lt_of_le hi hw.2.2.2.1
  obtain ⟨hk, hat, ho, hon, hwet, hg, hl, ht⟩ := hw.2.2.2.2 i hi
  have h1 := hw.1
  have e : sPass a u i = if u / 2 ^ i % 2 = 0 ∧ a (11 + 8 * i) = 0 ∧ a (6 + 8 * i) = a 1 ∧ gOn a i = 1 ∧ bor a i = 1 then sOn a i else a := by unfold sPass; rw [if_neg (by omega)]
  rw [e]
  have hub : u / 2 ^ i % 2 < 2 := Nat.mod_lt _ (by decide)
  rw [f_X4_passes_B57, r_on hM hw hi, p_bd, i_e0 (by omega), if_pos h0, b_bit u hu i h8, i_e0 (by omega)]
  by_cases c1 : u / 2 ^ i % 2 = 0
  · rw [if_pos c1, r_it6 h8, p_bd, hM _ (by omega), i_e0 (by omega)]
    by_cases c2 : a (11 + 8 * i) = 0
    · rw [if_pos c2, r_it1 h8, p_bd, hM _ (by omega), i_eq (by omega) (by omega)]
      by_cases c3 : a (6 + 8 * i) = a 1
      · rw [if_pos c3, r_gOn hM hw hi hN, p_bd]
        rcases gOn01 (a := a) (i := i) with c4 | c4
        · rw [c4, if_pos (show nI 0 = 0 from rfl), if_neg (by omega)]
          exact ⟨F, rfl, hM, sX.rf⟩
        · rw [c4, if_neg (show ¬ nI 1 = 0 by decide), r_bor hM hw hi hN, p_bd]
          rcases bor01 (a := a) (i := i) with c5 | c5
          · rw [c5, if_pos (show nI 0 = 0 from rfl), if_neg (by omega)]
            exact ⟨F, rfl, hM, sX.rf⟩
          · rw [c5, if_neg (show ¬ nI 1 = 0 by decide), if_pos ⟨c1, c2, c3, rfl, rfl⟩]
            obtain ⟨F', e1, e2, e3⟩ := r_comeOn (N := N) (G := G) hM hw hi
            rw [e1, p_bd]
            exact ⟨F', rfl, e2, e3⟩
      · rw [if_neg c3, if_neg (by omega)]
        exact ⟨F, rfl, hM, sX.rf⟩
    · rw [if_neg c2, if_neg (by omega)]
      exact ⟨F, rfl, hM, sX.rf⟩
  · rw [if_neg c1, if_neg (by omega)]
    exact ⟨F, rfl, hM, sX.rf⟩
theorem r_pass {u : Nat} (hM : mRel (F 1) a) (hw : wf a) (hi : i < a 4) (hu : u < 256) (hN : 9 ≤ N) : ∃ F', f_X4_passes N F G (nI i) (nI (a 1)) (nI u) = some F' ∧ mRel (F' 1) (sPass a u i) ∧ sX F F' := by
  have h8 : i < 8 := Nat.lt_of_lt_of_le hi hw.2.2.2.1
  obtain ⟨hk, hat, ho, hon, hwet, hg, hl, ht⟩ := hw.2.2.2.2 i hi
  have h1 := hw.1
  rw [f_X4_passes, r_on hM hw hi, p_bd, i_e0 (by omega)]
  rcases le1 hon with h0 | h0
  · rw [if_pos h0, f_X4_passes_B26, r_on hM hw hi, p_bd, i_e0 (by omega), if_pos h0]
    exact r_pass57 hM hw hi hu h0 hN
  · rw [if_neg (by omega), r_gOff hM hw hi h1 hN, p_bd]
    have e : sPass a u i = if gOff a i (a 1) = 1 then sOff a i (a 1) else if a 1 = 58 then sLose (sOff a i (a 1)) i else a := by unfold sPass; rw [if_pos h0]
    rw [e]
    rcases gOff01 (a := a) (i := i) (b := a 1) with c4 | c4
    · rw [c4, if_pos (show nI 0 = 0 from rfl), if_neg (by omega), f_X4_passes_B26, r_on hM hw hi, p_bd, i_e0 (by omega), if_neg (by omega), i_e58 (by omega)]
      by_cases c5 : a 1 = 58
      · rw [if_pos c5, if_pos c5]
        obtain ⟨F', e1, e2, e3⟩ := r_goOff (N := N) (G := G) (b := a 1) hM hw hi
        rw [e1, p_bd, r_put6 h8, p_bd]
        exact ⟨_, rfl, mR_q (v := 1) e2 (by omega), e3.tr sX.up⟩
      · rw [if_neg c5, if_neg c5, f_X4_passes_B57, r_on hM hw hi, p_bd, i_e0 (by omega), if_neg (by omega)]
        exact ⟨F, rfl, hM, sX.rf⟩
    · rw [c4, if_neg (show ¬ nI 1 = 0 by decide), if_pos rfl]
      obtain ⟨F', e1, e2, e3⟩ := r_goOff (N := N) (G := G) (b := a 1) hM hw hi
      rw [e1, p_bd]
      exact ⟨F', rfl, e2, e3⟩
theorem c_leave (hR : cRel R a) (hw : wf a) (hi : i < a 4) (h0 : a (8 + 8 * i) = 1) (u : Nat) : ∃ R', f_X0_leaveOrBeLost N R (nI i) = some R' ∧ cRel R' (sPass a u i) := by
  have h1 := hw.1
  have e : sPass a u i = if gOff a i (a 1) = 1 then sOff a i (a 1) else if a 1 = 58 then sLose (sOff a i (a 1)) i else a := by unfold sPass; rw [if_pos h0]
  rw [e, f_X0_leaveOrBeLost, c_gOff hR hw hi h0, p_bd]
  obtain ⟨R', e1, e2⟩ := c_goOff (N := N) hR hw hi
  rcases gOff01 (a := a) (i := i) (b := a 1) with c4 | c4
  · rw [c4, if_pos (show nI 0 = 0 from rfl), hR.2.1, i_e58 (by omega), if_neg (show ¬ 0 = 1 by decide)]
    by_cases c5 : a 1 = 58
    · rw [if_pos c5, if_pos c5, e1, p_bd, p_let]
      exact ⟨_, rfl, c_loseBit e2 (wf_sOff hw hi h1) (by rw [kp_off.2.2.2.2]; exact hi)⟩
    · rw [if_neg c5, if_neg c5]
      exact ⟨R, rfl, hR⟩
  · rw [c4, if_neg (show ¬ nI 1 = 0 by decide), if_pos rfl, e1, p_bd]
    exact ⟨R', rfl, e2⟩
/-- a step of the class's loop over things -/
theorem c_passStep {u f : Nat} (hR : cRel R a) (hw : wf a) (hi : i < a 4) (hu : u < 256) (hN : 9 ≤ N) : ∃ R', f_X0_passBearing_L2 N (nI u) (f + 1) (nI i) R = f_X0_passBearing_L2 N (nI u) f (nI (i + 1)) R' ∧ cRel R' (sPass a u i) := by
  have h4 := hw.2.2.2.1
  have h8 : i < 8 := Nat.lt_of_lt_of_le hi h4
  obtain ⟨hk, hat, ho, hon, hwet, hg, hl, ht⟩ := hw.2.2.2.2 i hi
  have h1 := hw.1
  have hb3 : sSet a 3 (a 4) / 2 ^ i % 2 = a (8 + 8 * i) := sSet_bit _ h4 hw.on i hi
  have hb6 : sSet a 6 (a 4) / 2 ^ i % 2 = a (11 + 8 * i) := sSet_bit _ h4 hw.lost i hi
  have q3 := sSet_256 h4 hw.on
  have q6 := sSet_256 h4 hw.lost
  obtain ⟨g1, g2, g3, g4, g5, g6⟩ := hR.2.2.2.2.2.2.2 i hi
  rw [f_X0_passBearing_L2, hR.2.2.2.2.1, if_neg (nI_ge hi (by omega)), p_let, hR.2.2.2.2.2.1]
  have e1 : (nI (sSet a 3 (a 4)) &&& ((1 : Int32) <<< (nI i &&& 31)) = 0) = (a (8 + 8 * i) = 0) := by rw [← hb3]; exact propext (b_and0 _ q3 i h8)
  simp only [e1]
  rcases le1 hon with h0 | h0
  · rw [if_pos h0, p_grd _ h8 (by decide), p_cl (by omega), g2, hR.2.1, i_eq (by omega) (by omega)]
    have e : sPass a u i = if u / 2 ^ i % 2 = 0 ∧ a (11 + 8 * i) = 0 ∧ a (6 + 8 * i) = a 1 ∧ gOn a i = 1 ∧ bor a i = 1 then sOn a i else a := by unfold sPass; rw [if_neg (by omega)]
    rw [e]
    by_cases c3 : a (6 + 8 * i) = a 1
    · rw [if_pos c3, hR.2.2.2.2.2.2.1, nI_or]
      have e2 : (nI (u ||| sSet a 6 (a 4)) &&& ((1 : Int32) <<< (nI i &&& 31)) = 0) = (u / 2 ^ i % 2 = 0 ∧ a (11 + 8 * i) = 0) := by
        rw [← hb6]
        exact propext ((b_and0 _ (b_orlt hu q6) i h8).trans b_or2)
      simp only [e2]
      by_cases c12 : u / 2 ^ i % 2 = 0 ∧ a (11 + 8 * i) = 0
      · rw [if_pos c12, c_gOn hR hw hi h0, p_bd]
        rcases gOn01 (a := a) (i := i) with c4 | c4
        · rw [c4, if_pos (show nI 0 = 0 from rfl), p_let, nI_1, if_neg (by omega)]
          exact ⟨R, rfl, hR⟩
        · rw [c4, if_neg (show ¬ nI 1 = 0 by decide), c_bor hR hw hi hN, p_bd]
          rcases bor01 (a := a) (i := i) with c5 | c5
          · rw [c5, if_pos (show nI 0 = 0 from rfl), p_let, nI_1, if_neg (by omega)]
            exact ⟨R, rfl, hR⟩
          · rw [c5, if_neg (show ¬ nI 1 = 0 by decide), if_pos ⟨c12.1, c12.2, c3, rfl, rfl⟩]
            obtain ⟨R', e1, e2⟩ := c_comeOn (N := N) hR hw hi
            rw [e1, p_bd, p_let, nI_1]
            exact ⟨R', rfl, e2⟩
      · rw [if_neg c12, p_let, nI_1, if_neg (fun z => c12 ⟨z.1, z.2.1⟩)]
        exact ⟨R, rfl, hR⟩
    · rw [if_neg c3, p_let, nI_1, if_neg (fun z => c3 z.2.2.1)]
      exact ⟨R, rfl, hR⟩
  · rw [if_neg (by omega)]
    obtain ⟨R', e1, e2⟩ := c_leave (N := N) hR hw hi h0 u
    rw [e1, p_bd, p_let, nI_1]
    exact ⟨R', rfl, e2⟩
end SEC
/-! all pass by -/
def sPAf : (Nat → Nat) → Nat → Nat → Nat → (Nat → Nat)
  | a, _, _, 0 => a
  | a, u, i, m + 1 => sPAf (sPass a u i) u (i + 1) m
theorem kp_PA {u : Nat} : ∀ m i a, kp a (sPAf a u i m) := by
  intro m
  induction m with
  | zero => intro i a; exact kp.rf
  | succ m ih => intro i a; exact kp_pass.tr (ih (i + 1) _)
theorem wf_PA {u : Nat} : ∀ m i a, wf a → i + m ≤ a 4 → wf (sPAf a u i m) := by
  intro m
  induction m with
  | zero => intro i a h _; exact h
  | succ m ih => intro i a h hi; exact ih (i + 1) _ (wf_pass h (by omega)) (by rw [kp_pass.2.2.2.2]; omega)
theorem c_passAll {N u : Nat} (hu : u < 256) (hN : 9 ≤ N) : ∀ m i f R a, cRel R a → wf a → i + m = a 4 → m < f → ∃ R', f_X0_passBearing_L2 N (nI u) f (nI i) R = some (nI (a 4), R') ∧ cRel R' (sPAf a u i m) := by
  intro m
  induction m with
  | zero =>
    intro i f R a hR hw hi hf
    obtain ⟨f, rfl⟩ : ∃ g, f = g + 1 := ⟨f - 1, by omega⟩
    have h4 := hw.2.2.2.1
    rw [f_X0_passBearing_L2, hR.2.2.2.2.1, if_pos (nI_le (by omega) (by omega)), show i = a 4 by omega]
    exact ⟨R, rfl, hR⟩
  | succ m ih =>
    intro i f R a hR hw hi hf
    obtain ⟨f, rfl⟩ : ∃ g, f = g + 1 := ⟨f - 1, by omega⟩
    obtain ⟨R', e1, e2⟩ := c_passStep (f := f) hR hw (show i < a 4 by omega) hu hN
    have h4 : sPass a u i 4 = a 4 := kp_pass.2.2.2.2
    obtain ⟨R2, e3, e4⟩ := ih (i + 1) f R' (sPass a u i) e2 (wf_pass hw (by omega)) (by rw [h4]; omega) (by omega)
    rw [e1, e3, h4]
    exact ⟨R2, rfl, e4⟩
theorem r_passAll {N u : Nat} {G : Nat → Int64} {z : Int32} (hu : u < 256) (hN : 9 ≤ N) : ∀ m i f F a, mRel (F 1) a → wf a → i + m = a 4 → m < f → ∃ F', f_X4_goes_L37 N G (nI u) z f (nI i) F = some (nI (a 4), F') ∧ mRel (F' 1) (sPAf a u i m) ∧ sX F F' := by
  intro m
  induction m with
  | zero =>
    intro i f F a hM hw hi hf
    obtain ⟨f, rfl⟩ : ∃ g, f = g + 1 := ⟨f - 1, by omega⟩
    have h4 := hw.2.2.2.1
    rw [f_X4_goes_L37, p_gM4, p_c4, hM 4 (by omega), if_pos (nI_le (by omega) (by omega)), show i = a 4 by omega]
    exact ⟨F, rfl, hM, sX.rf⟩
  | succ m ih =>
    intro i f F a hM hw hi hf
    obtain ⟨f, rfl⟩ : ∃ g, f = g + 1 := ⟨f - 1, by omega⟩
    have h48 := hw.2.2.2.1
    obtain ⟨F', e1, e2, e5⟩ := r_pass (N := N) (G := G) hM hw (show i < a 4 by omega) hu hN
    have h4 : sPass a u i 4 = a 4 := kp_pass.2.2.2.2
    obtain ⟨F2, e3, e4, e6⟩ := ih (i + 1) f F' (sPass a u i) e2 (wf_pass hw (by omega)) (by rw [h4]; omega) (by omega)
    rw [f_X4_goes_L37, p_gM4, p_c4, hM 4 (by omega), if_neg (nI_ge (by omega) (by omega)), p_gM1, p_c1, hM 1 (by omega), e1, p_bd, p_let, nI_1, e3, h4]
    exact ⟨F2, rfl, e4, e5.tr e6⟩
