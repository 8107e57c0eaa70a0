/-! ===== pure 11: of, set, thing; what is ahead ===== -/
section PR3
variable {N : Nat} {b R T K P B F : Nat → Nat → Int32} {L : Nat → Nat → Int64} {G : Nat → Int64} {p1 p2 p3 : Int32}
theorem r_ofG {i k : Nat} {a : Nat → Nat} (hM : mRel (F 1) a) (hi : i < a 4) (h4 : a 4 ≤ 8) (hk : k < 8) : f_X4_of N F G (nI i) (nI k) = some (nI (a (5 + k + 8 * i)), F) := by
  rw [f_X4_of, r_has (hM 4 (by omega)) h4, p_bd, bI_t (hasI_nI (by omega) hi), if_neg z10, r_in, p_bd, bI_t ⟨nI_pos' (by omega), nI_le (b := 9) (by omega) (by omega)⟩, if_neg z10, if_neg (show ¬ (8 : Int32) ≤ nI k from nI_ge (b := 8) hk (by decide)), r_it (by omega) hk, p_bd, hM _ (by omega)]
theorem pr_of (h : gRel b R K P B L F G) (hN : 600 ≤ N) : ∃ r b' F', f_X3_of N b R T K P B L p1 p2 = some (r, b') ∧ f_X4_of N F G p1 p2 = some (r, F') ∧ gRel b' R K P B L F' G := by
  obtain ⟨a, hw, hR, hM⟩ := h.1
  have h4 := hw.2.2.2.1
  by_cases c : hasI (a 4) p1
  · obtain ⟨i, hi, rfl⟩ := hasI_of (by omega) c
    have h8 : i < 8 := by omega
    obtain ⟨hk, hat, ho, hon, hwet, hg, hl, ht⟩ := hw.2.2.2.2 i hi
    obtain ⟨g1, g2, g3, g4, g5, g6⟩ := hR.2.2.2.2.2.2.2 i hi
    have rg := fun k hk => r_ofG (N := N) (G := G) (k := k) hM hi h4 hk
    rw [f_X3_of, c_has hR.2.2.2.2.1, p_bd, bI_t c, if_neg z10]
    by_cases e0 : p2 = 0
    · rw [if_pos e0, p_grd _ h8 (by decide), p_cl (by omega), g1, e0]
      exact ⟨_, _, _, rfl, rg 0 (by decide), h⟩
    rw [if_neg e0]
    by_cases e1 : p2 = 1
    · rw [if_pos e1, p_grd _ h8 (by decide), p_cl (by omega), g2, e1]
      exact ⟨_, _, _, rfl, rg 1 (by decide), h⟩
    rw [if_neg e1]
    by_cases e2 : p2 = 2
    · rw [if_pos e2, p_grd _ h8 (by decide), p_cl (by omega), g3, e2]
      exact ⟨_, _, _, rfl, rg 2 (by decide), h⟩
    rw [if_neg e2]
    by_cases e3 : p2 = 3
    · rw [if_pos e3, c_on hR hw hi, p_bd, i_e0 (by omega), e3]
      have q := rg 3 (by decide)
      rcases le1 hon with d | d
      · rw [if_pos d]
        refine ⟨_, _, _, rfl, ?_, h⟩
        rw [show f_X4_of N F G (nI i) 3 = _ from q]
        show some (nI (a (8 + 8 * i)), F) = _
        rw [d]; rfl
      · rw [if_neg (by omega)]
        refine ⟨_, _, _, rfl, ?_, h⟩
        rw [show f_X4_of N F G (nI i) 3 = _ from q]
        show some (nI (a (8 + 8 * i)), F) = _
        rw [d]; rfl
    rw [if_neg e3]
    by_cases e4 : p2 = 4
    · rw [if_pos e4, p_grd _ h8 (by decide), p_cl (by omega), g4, e4]
      exact ⟨_, _, _, rfl, rg 4 (by decide), h⟩
    rw [if_neg e4]
    by_cases e5 : p2 = 5
    · rw [if_pos e5, p_grd _ h8 (by decide), p_cl (by omega), g5, e5]
      exact ⟨_, _, _, rfl, rg 5 (by decide), h⟩
    rw [if_neg e5]
    by_cases e6 : p2 = 6
    · rw [if_pos e6, c_lost hR hw hi, p_bd, i_e0 (by omega), e6]
      have q := rg 6 (by decide)
      rcases le1 hl with d | d
      · rw [if_pos d]
        refine ⟨_, _, _, rfl, ?_, h⟩
        rw [show f_X4_of N F G (nI i) 6 = _ from q]
        show some (nI (a (11 + 8 * i)), F) = _
        rw [d]; rfl
      · rw [if_neg (by omega)]
        refine ⟨_, _, _, rfl, ?_, h⟩
        rw [show f_X4_of N F G (nI i) 6 = _ from q]
        show some (nI (a (11 + 8 * i)), F) = _
        rw [d]; rfl
    rw [if_neg e6]
    by_cases e7 : p2 = 7
    · rw [if_pos e7, p_grd _ h8 (by decide), p_cl (by omega), g6, e7]
      exact ⟨_, _, _, rfl, rg 7 (by decide), h⟩
    rw [if_neg e7]
    by_cases e8 : p2 = 8
    · rw [if_pos e8, c_wt2 hR hw hi, p_bd, e8]
      refine ⟨_, _, F, rfl, ?_, h⟩
      rw [f_X4_of, r_has (hM 4 (by omega)) h4, p_bd, bI_t c, if_neg z10, r_in, p_bd, bI_t (by decide), if_neg z10, if_pos (by decide), if_pos rfl, r_wt hM hw hi, p_bd]
    rw [if_neg e8]
    by_cases e9 : p2 = 9
    · rw [if_pos e9, c_dr hR hw hi, p_bd, e9]
      refine ⟨_, _, F, rfl, ?_, h⟩
      rw [f_X4_of, r_has (hM 4 (by omega)) h4, p_bd, bI_t c, if_neg z10, r_in, p_bd, bI_t (by decide), if_neg z10, if_pos (by decide), if_neg (by decide), r_dr hM hw hi, p_bd]
    rw [if_neg e9, c_f0, p_bd2]
    refine ⟨_, _, fF F 0, rfl, ?_, h.fnd⟩
    have d : ¬ ((0 : Int32) ≤ p2 ∧ p2 ≤ 9) := by
      intro z
      obtain ⟨v, -, hv, rfl⟩ := rngL (l := 0) (h := 9) (by decide) (by decide) z
      rcases (show v = 0 ∨ v = 1 ∨ v = 2 ∨ v = 3 ∨ v = 4 ∨ v = 5 ∨ v = 6 ∨ v = 7 ∨ v = 8 ∨ v = 9 by omega) with rfl | rfl | rfl | rfl | rfl | rfl | rfl | rfl | rfl | rfl
      · exact e0 rfl
      · exact e1 rfl
      · exact e2 rfl
      · exact e3 rfl
      · exact e4 rfl
      · exact e5 rfl
      · exact e6 rfl
      · exact e7 rfl
      · exact e8 rfl
      · exact e9 rfl
    rw [f_X4_of, r_has (hM 4 (by omega)) h4, p_bd, bI_t c, if_neg z10, r_in, p_bd, bI_f d, if_pos rfl, f_X4_of_B19, r_f0, p_bd2]
  · rw [f_X3_of, f_X4_of, c_has hR.2.2.2.2.1, r_has (hM 4 (by omega)) h4, p_bd, p_bd, bI_f c, if_pos rfl, if_pos rfl, f_X4_of_B19, c_f0, r_f0, p_bd2, p_bd2]
    exact ⟨_, _, _, rfl, rfl, h.fnd⟩
/-! set -/
theorem r_setBad : f_X4_set_B37 N F G = some (-1000000001, fF F 0) := by rw [f_X4_set_B37, r_f0, p_bd2]
theorem c_setBad : f_X3_set_B35 N b R T K P B L = some (-1000000001, fb b 0, R) := by rw [f_X3_set_B35, c_f0, p_bd2]
theorem pr_set (h : gRel b R K P B L F G) (hN : 600 ≤ N) : ∃ r b' R' F', f_X3_set N b R T K P B L p1 p2 p3 = some (r, b', R') ∧ f_X4_set N F G p1 p2 p3 = some (r, F') ∧ gRel b' R' K P B L F' G := by
  obtain ⟨a, hw, hR, hM⟩ := h.1
  have h4 := hw.2.2.2.1
  rw [f_X3_set, f_X4_set, r_has (hM 4 (by omega)) h4, p_bd]
  by_cases c : hasI (a 4) p1
  · obtain ⟨i, hi, rfl⟩ := hasI_of (by omega) c
    have h8 : i < 8 := by omega
    obtain ⟨g1, g2, g3, g4, g5, g6⟩ := hR.2.2.2.2.2.2.2 i hi
    have ix : ∀ k, (5 : Int32) + 8 * nI i + nI k = nI (5 + k + 8 * i) := fun k => r_ix
    rw [bI_t c, if_neg z10]
    by_cases e2 : p2 = 2
    · subst e2
      rw [if_pos rfl, c_has hR.2.2.2.2.1, p_bd, bI_t c, if_neg z10, show f_X3_mostToSet N 2 = some 9 from rfl, show f_X4_mostOf N 2 = some 9 from rfl, p_bd, p_bd, c_within, r_in, p_bd, p_bd]
      by_cases d : (0 : Int32) ≤ p3 ∧ p3 ≤ 9
      · rw [bI_t d, if_neg z10, if_neg z10]
        obtain ⟨v, -, hv, rfl⟩ := rngL (l := 0) (h := 9) (by decide) (by decide) d
        rw [p_grd _ h8 (by decide), p_let, p_grd _ h8 (by decide), p_let, p_cl (by omega), g3, show (5 : Int32) + 8 * nI i + 2 = nI (7 + 8 * i) from ix 2, r_bcm (by omega), p_bd2, hM _ (by omega)]
        exact ⟨_, _, _, _, rfl, rfl, h.isl sX.up ⟨_, wf_out hw hi (by omega), cR_out hR hi, mR_q hM (by omega)⟩⟩
      · rw [bI_f d, if_pos rfl, if_pos rfl, c_setBad, r_setBad]
        exact ⟨_, _, _, _, rfl, rfl, h.fnd⟩
    rw [if_neg e2]
    by_cases e4 : p2 = 4
    · subst e4
      rw [if_pos rfl, c_has hR.2.2.2.2.1, p_bd, bI_t c, if_neg z10, show f_X3_mostToSet N 4 = some 99 from rfl, show f_X4_mostOf N 4 = some 99 from rfl, p_bd, p_bd, c_within, r_in, p_bd, p_bd]
      by_cases d : (0 : Int32) ≤ p3 ∧ p3 ≤ 99
      · rw [bI_t d, if_neg z10, if_neg z10]
        obtain ⟨v, -, hv, rfl⟩ := rngL (l := 0) (h := 99) (by decide) (by decide) d
        rw [p_grd _ h8 (by decide), p_let, p_grd _ h8 (by decide), p_let, p_cl (by omega), g4, show (5 : Int32) + 8 * nI i + 4 = nI (9 + 8 * i) from ix 4, r_bcm (by omega), p_bd2, hM _ (by omega)]
        exact ⟨_, _, _, _, rfl, rfl, h.isl sX.up ⟨_, wf_wet hw hi (by omega), cR_wet hR hi, mR_q hM (by omega)⟩⟩
      · rw [bI_f d, if_pos rfl, if_pos rfl, c_setBad, r_setBad]
        exact ⟨_, _, _, _, rfl, rfl, h.fnd⟩
    rw [if_neg e4]
    by_cases e5 : p2 = 5
    · subst e5
      rw [if_pos rfl, c_has hR.2.2.2.2.1, p_bd, bI_t c, if_neg z10, show f_X3_mostToSet N 5 = some 59 from rfl, show f_X4_mostOf N 5 = some 59 from rfl, p_bd, p_bd, c_within, r_in, p_bd, p_bd]
      by_cases d : (0 : Int32) ≤ p3 ∧ p3 ≤ 59
      · rw [bI_t d, if_neg z10, if_neg z10]
        obtain ⟨v, -, hv, rfl⟩ := rngL (l := 0) (h := 59) (by decide) (by decide) d
        rw [p_grd _ h8 (by decide), p_let, p_grd _ h8 (by decide), p_let, p_cl (by omega), g5, show (5 : Int32) + 8 * nI i + 5 = nI (10 + 8 * i) from ix 5, r_bcm (by omega), p_bd2, hM _ (by omega)]
        exact ⟨_, _, _, _, rfl, rfl, h.isl sX.up ⟨_, wf_goal hw hi (by omega), cR_goal hR hi, mR_q hM (by omega)⟩⟩
      · rw [bI_f d, if_pos rfl, if_pos rfl, c_setBad, r_setBad]
        exact ⟨_, _, _, _, rfl, rfl, h.fnd⟩
    rw [if_neg e5]
    by_cases e7 : p2 = 7
    · subst e7
      rw [if_pos rfl, c_has hR.2.2.2.2.1, p_bd, bI_t c, if_neg z10, show f_X3_mostToSet N 7 = some 9999 from rfl, show f_X4_mostOf N 7 = some 9999 from rfl, p_bd, p_bd, c_within, r_in, p_bd, p_bd]
      by_cases d : (0 : Int32) ≤ p3 ∧ p3 ≤ 9999
      · rw [bI_t d, if_neg z10, if_neg z10]
        obtain ⟨v, -, hv, rfl⟩ := rngL (l := 0) (h := 9999) (by decide) (by decide) d
        rw [p_grd _ h8 (by decide), p_let, p_grd _ h8 (by decide), p_let, p_cl (by omega), g6, show (5 : Int32) + 8 * nI i + 7 = nI (12 + 8 * i) from ix 7, r_bcm (by omega), p_bd2, hM _ (by omega)]
        exact ⟨_, _, _, _, rfl, rfl, h.isl sX.up ⟨_, wf_times hw hi (by omega), cR_times hR hi, mR_q hM (by omega)⟩⟩
      · rw [bI_f d, if_pos rfl, if_pos rfl, c_setBad, r_setBad]
        exact ⟨_, _, _, _, rfl, rfl, h.fnd⟩
    rw [if_neg e7]
    rw [c_has hR.2.2.2.2.1, p_bd, bI_t c, if_neg z10, c_setBad]
    have mo : f_X4_mostOf N p2 = some (-1) := by
      rw [f_X4_mostOf, if_neg e2]
      by_cases e3 : p2 = 3
      · rw [if_pos e3]
      rw [if_neg e3, if_neg e4, if_neg e5]
      by_cases e6 : p2 = 6
      · rw [if_pos e6]
      rw [if_neg e6, if_neg e7]
    have d : ¬ ((0 : Int32) ≤ p3 ∧ p3 ≤ -1) := by
      intro z
      have z1 := z.1
      have z2 := z.2
      rw [fa_le] at z1 z2
      have q1 : (-1 : Int32).toInt = -1 := rfl
      have q2 : (0 : Int32).toInt = 0 := rfl
      omega
    rw [mo, p_bd, r_in, p_bd, bI_f d, if_pos rfl, r_setBad]
    exact ⟨_, _, _, _, rfl, rfl, h.fnd⟩
  · rw [bI_f c, if_pos rfl, r_setBad]
    have hb : ∀ {k : Int32 → Option (Int32 × (Nat → Nat → Int32) × (Nat → Nat → Int32))}, q_bd (f_X0_has N R p1) (fun r => if r = 0 then f_X3_set_B35 N b R T K P B L else k r) = some (-1000000001, fb b 0, R) := by
      intro k
      rw [c_has hR.2.2.2.2.1, p_bd, bI_f c, if_pos rfl, c_setBad]
    refine ⟨-1000000001, fb b 0, R, fF F 0, ?_, rfl, h.fnd⟩
    split
    · exact hb
    · split
      · exact hb
      · split
        · exact hb
        · split
          · exact hb
          · exact hb
/-! thing -/
def sAdd (a : Nat → Nat) (k p o w g : Nat) : Nat → Nat := fun j => if j = 4 then a 4 + 1 else if j = 5 + 8 * a 4 then k else if j = 6 + 8 * a 4 then p else if j = 7 + 8 * a 4 then o else if j = 8 + 8 * a 4 then 0 else if j = 9 + 8 * a 4 then w else if j = 10 + 8 * a 4 then g else if j = 11 + 8 * a 4 then 0 else if j = 12 + 8 * a 4 then 0 else a j
theorem sAdd_old {a : Nat → Nat} {k p o w g j : Nat} (h : j < 5 + 8 * a 4) (h4 : j ≠ 4) : sAdd a k p o w g j = a j := by
  unfold sAdd
  rw [if_neg h4, if_neg (by omega), if_neg (by omega), if_neg (by omega), if_neg (by omega), if_neg (by omega), if_neg (by omega), if_neg (by omega), if_neg (by omega)]
theorem sAdd_n {a : Nat → Nat} {k p o w g : Nat} : sAdd a k p o w g 4 = a 4 + 1 := if_pos rfl
theorem sAdd5 {a : Nat → Nat} {k p o w g : Nat} : sAdd a k p o w g (5 + 8 * a 4) = k := by
  unfold sAdd
  rw [if_neg (by omega), if_pos rfl]
theorem sAdd6 {a : Nat → Nat} {k p o w g : Nat} : sAdd a k p o w g (6 + 8 * a 4) = p := by
  unfold sAdd
  rw [if_neg (by omega), if_neg (by omega), if_pos rfl]
theorem sAdd7 {a : Nat → Nat} {k p o w g : Nat} : sAdd a k p o w g (7 + 8 * a 4) = o := by
  unfold sAdd
  rw [if_neg (by omega), if_neg (by omega), if_neg (by omega), if_pos rfl]
theorem sAdd8 {a : Nat → Nat} {k p o w g : Nat} : sAdd a k p o w g (8 + 8 * a 4) = 0 := by
  unfold sAdd
  rw [if_neg (by omega), if_neg (by omega), if_neg (by omega), if_neg (by omega), if_pos rfl]
theorem sAdd9 {a : Nat → Nat} {k p o w g : Nat} : sAdd a k p o w g (9 + 8 * a 4) = w := by
  unfold sAdd
  rw [if_neg (by omega), if_neg (by omega), if_neg (by omega), if_neg (by omega), if_neg (by omega), if_pos rfl]
theorem sAdd10 {a : Nat → Nat} {k p o w g : Nat} : sAdd a k p o w g (10 + 8 * a 4) = g := by
  unfold sAdd
  rw [if_neg (by omega), if_neg (by omega), if_neg (by omega), if_neg (by omega), if_neg (by omega), if_neg (by omega), if_pos rfl]
theorem sAdd11 {a : Nat → Nat} {k p o w g : Nat} : sAdd a k p o w g (11 + 8 * a 4) = 0 := by
  unfold sAdd
  rw [if_neg (by omega), if_neg (by omega), if_neg (by omega), if_neg (by omega), if_neg (by omega), if_neg (by omega), if_neg (by omega), if_pos rfl]
theorem sAdd12 {a : Nat → Nat} {k p o w g : Nat} : sAdd a k p o w g (12 + 8 * a 4) = 0 := by
  unfold sAdd
  rw [if_neg (by omega), if_neg (by omega), if_neg (by omega), if_neg (by omega), if_neg (by omega), if_neg (by omega), if_neg (by omega), if_neg (by omega), if_pos rfl]
theorem wf_add {a : Nat → Nat} {k p o w g : Nat} (hw : wf a) (h8 : a 4 < 8) (hk : k < 6) (hp : p < 60) (ho : o < 10) (hww : w < 100) (hg : g < 60) : wf (sAdd a k p o w g) := by
  obtain ⟨h1, h2, h3, h4, h5⟩ := hw
  refine ⟨by rw [sAdd_old (by omega) (by decide)]; exact h1, by rw [sAdd_old (by omega) (by decide)]; exact h2, by rw [sAdd_old (by omega) (by decide)]; exact h3, by rw [sAdd_n]; omega, ?_⟩
  intro i hi
  rw [sAdd_n] at hi
  by_cases e : i = a 4
  · subst e
    unfold wfT
    rw [sAdd5, sAdd6, sAdd7, sAdd8, sAdd9, sAdd10, sAdd11, sAdd12]
    omega
  · unfold wfT
    rw [sAdd_old (by omega) (by omega), sAdd_old (by omega) (by omega), sAdd_old (by omega) (by omega), sAdd_old (by omega) (by omega), sAdd_old (by omega) (by omega), sAdd_old (by omega) (by omega), sAdd_old (by omega) (by omega), sAdd_old (by omega) (by omega)]
    exact h5 i (by omega)
theorem sSet_add {a : Nat → Nat} {k p o w g : Nat} {x : Nat} (hx : x = 3 ∨ x = 6) : sSet (sAdd a k p o w g) x (a 4 + 1) = sSet a x (a 4) := by
  rw [sSet, sSet_cong (b := a) (a 4) (fun i hi => sAdd_old (by omega) (by omega))]
  rcases hx with rfl | rfl
  · rw [show 5 + 3 + 8 * a 4 = 8 + 8 * a 4 from rfl, sAdd8]; omega
  · rw [show 5 + 6 + 8 * a 4 = 11 + 8 * a 4 from rfl, sAdd11]; omega
/-- the class's island with one more, whatever the six rows hold at its place -/
theorem cR_add {a : Nat → Nat} {k p o w g : Nat} {R' : Nat → Nat → Int32} (hR : cRel R a) (h0 : ∀ j, j ≠ 4 → R' 0 j = R 0 j) (h4 : R' 0 4 = nI (a 4 + 1)) (hj : ∀ j i, 1 ≤ j → j ≤ 6 → i < a 4 → R' j i = R j i) (r1 : R' 1 (a 4) = nI k) (r2 : R' 2 (a 4) = nI p) (r3 : R' 3 (a 4) = nI o) (r4 : R' 4 (a 4) = nI w) (r5 : R' 5 (a 4) = nI g) (r6 : R' 6 (a 4) = nI 0) : cRel R' (sAdd a k p o w g) := by
  obtain ⟨q0, q1, q2, q3, q4, q5, q6, q7⟩ := hR
  refine ⟨by rw [h0 0 (by decide), sAdd_old (by omega) (by decide)]; exact q0, by rw [h0 1 (by decide), sAdd_old (by omega) (by decide)]; exact q1, by rw [h0 2 (by decide), sAdd_old (by omega) (by decide)]; exact q2, by rw [h0 3 (by decide), sAdd_old (by omega) (by decide)]; exact q3, by rw [h4, sAdd_n], by rw [h0 5 (by decide), sAdd_n, sSet_add (Or.inl rfl)]; exact q5, by rw [h0 6 (by decide), sAdd_n, sSet_add (Or.inr rfl)]; exact q6, ?_⟩
  intro i hi
  rw [sAdd_n] at hi
  by_cases e : i = a 4
  · subst e
    rw [sAdd5, sAdd6, sAdd7, sAdd9, sAdd10, sAdd12]
    exact ⟨r1, r2, r3, r4, r5, r6⟩
  · rw [sAdd_old (by omega) (by omega), sAdd_old (by omega) (by omega), sAdd_old (by omega) (by omega), sAdd_old (by omega) (by omega), sAdd_old (by omega) (by omega), sAdd_old (by omega) (by omega)]
    have g := q7 i (by omega)
    exact ⟨by rw [hj 1 i (by omega) (by omega) (by omega)]; exact g.1, by rw [hj 2 i (by omega) (by omega) (by omega)]; exact g.2.1, by rw [hj 3 i (by omega) (by omega) (by omega)]; exact g.2.2.1, by rw [hj 4 i (by omega) (by omega) (by omega)]; exact g.2.2.2.1, by rw [hj 5 i (by omega) (by omega) (by omega)]; exact g.2.2.2.2.1, by rw [hj 6 i (by omega) (by omega) (by omega)]; exact g.2.2.2.2.2⟩
theorem c_add {a : Nat → Nat} {k p : Nat} (hR : cRel R a) (h8 : a 4 < 8) : ∃ R', f_X0_add N R (nI k) (nI p) = some (nI (a 4), R') ∧ cRel R' (sAdd a k p 3 50 30) := by
  refine ⟨_, ?_, cR_add (R' := q_up (q_up (q_up (q_up (q_up (q_up (q_up R 1 (a 4) (nI k)) 2 (a 4) (nI p)) 3 (a 4) 3) 4 (a 4) 50) 5 (a 4) 30) 6 (a 4) 0) 0 4 (nI (a 4 + 1))) hR (fun j hj => ?_) ?_ (fun j i h1 h2 h3 => ?_) ?_ ?_ ?_ ?_ ?_ ?_⟩
  · rw [f_X0_add, p_let, hR.2.2.2.2.1]
    simp only [p_grd _ h8 (show 8 < 2 ^ 31 by decide), p_let, p_cl (show a 4 < 2 ^ 31 by omega)]
    have e : (q_up (q_up (q_up (q_up (q_up (q_up R 1 (a 4) (nI k)) 2 (a 4) (nI p)) 3 (a 4) 3) 4 (a 4) 50) 5 (a 4) 30) 6 (a 4) 0) 0 4 = nI (a 4) := hR.2.2.2.2.1
    rw [e, nI_1]
  · rw [qu_s, pk_un hj]; rfl
  · rw [qu_s, pk_us]
  · rcases (show j = 1 ∨ j = 2 ∨ j = 3 ∨ j = 4 ∨ j = 5 ∨ j = 6 by omega) with rfl | rfl | rfl | rfl | rfl | rfl <;> exact pk_un (by omega)
  · exact pk_us
  · exact pk_us
  · exact pk_us
  · exact pk_us
  · exact pk_us
  · exact pk_us
theorem r_add {a : Nat → Nat} {k p o w g : Nat} (hM : mRel (F 1) a) (h8 : a 4 < 8) : ∃ F', f_X4_comesAs N F G (nI k) (nI p) (nI o) (nI w) (nI g) = some (nI (a 4), F') ∧ mRel (F' 1) (sAdd a k p o w g) ∧ sX F F' := by
  refine ⟨_, ?_, ?_, ((((((((sX.up (k := 4) (v := nI (a 4 + 1))).tr (sX.up (k := 5 + 8 * a 4) (v := nI k))).tr (sX.up (k := 6 + 8 * a 4) (v := nI p))).tr (sX.up (k := 7 + 8 * a 4) (v := nI o))).tr (sX.up (k := 8 + 8 * a 4) (v := 0))).tr (sX.up (k := 9 + 8 * a 4) (v := nI w))).tr (sX.up (k := 10 + 8 * a 4) (v := nI g))).tr (sX.up (k := 11 + 8 * a 4) (v := 0))).tr (sX.up (k := 12 + 8 * a 4) (v := 0))⟩
  · rw [f_X4_comesAs, p_gM4, p_let, p_gM4, p_gM4, p_let, p_c4, hM 4 (by omega), nI_1, r_put0 h8, p_bd, r_put1 h8, p_bd, r_put2 h8, p_bd, r_put3 h8, p_bd, r_put4 h8, p_bd, r_put5 h8, p_bd, r_put6 h8, p_bd, r_put7 h8, p_bd]
  · intro j hj
    rw [sAdd_n] at hj
    rw [qu_s, qu_s, qu_s, qu_s, qu_s, qu_s, qu_s, qu_s, qu_s]
    by_cases e12 : j = 12 + 8 * a 4
    · subst e12; rw [pk_us, sAdd12]; rfl
    rw [pk_un e12]
    by_cases e11 : j = 11 + 8 * a 4
    · subst e11; rw [pk_us, sAdd11]; rfl
    rw [pk_un e11]
    by_cases e10 : j = 10 + 8 * a 4
    · subst e10; rw [pk_us, sAdd10]
    rw [pk_un e10]
    by_cases e9 : j = 9 + 8 * a 4
    · subst e9; rw [pk_us, sAdd9]
    rw [pk_un e9]
    by_cases e8 : j = 8 + 8 * a 4
    · subst e8; rw [pk_us, sAdd8]; rfl
    rw [pk_un e8]
    by_cases e7 : j = 7 + 8 * a 4
    · subst e7; rw [pk_us, sAdd7]
    rw [pk_un e7]
    by_cases e6 : j = 6 + 8 * a 4
    · subst e6; rw [pk_us, sAdd6]
    rw [pk_un e6]
    by_cases e5 : j = 5 + 8 * a 4
    · subst e5; rw [pk_us, sAdd5]
    rw [pk_un e5]
    by_cases e4 : j = 4
    · subst e4; rw [pk_us, sAdd_n]
    rw [pk_un e4, sAdd_old (by omega) e4]
    exact hM j (by omega)
theorem pr_thing (h : gRel b R K P B L F G) (hN : 600 ≤ N) : ∃ r b' R' F', f_X3_thing N b R T K P B L p1 p2 = some (r, b', R') ∧ f_X4_thing N F G p1 p2 = some (r, F') ∧ gRel b' R' K P B L F' G := by
  obtain ⟨a, hw, hR, hM⟩ := h.1
  have h4 := hw.2.2.2.1
  rw [f_X3_thing, f_X4_thing, c_within, r_in, p_bd, p_bd]
  by_cases c : (0 : Int32) ≤ p1 ∧ p1 ≤ 5
  · rw [bI_t c, if_neg z10, if_neg z10, c_within, r_isB, p_bd, p_bd]
    by_cases d : (0 : Int32) ≤ p2 ∧ p2 ≤ 59
    · rw [bI_t d, if_neg z10, if_neg z10, p_gM4, p_c4, hR.2.2.2.2.1, hM 4 (by omega), show (8 : Int32) = nI 8 from rfl, i_lt (by omega) (by omega), i_eq (by omega) (by omega)]
      obtain ⟨k, -, hk, rfl⟩ := rngL (l := 0) (h := 5) (by decide) (by decide) c
      obtain ⟨p, -, hp, rfl⟩ := rngL (l := 0) (h := 59) (by decide) (by decide) d
      by_cases e : a 4 < 8
      · rw [if_pos e, if_neg (by omega)]
        obtain ⟨R', e1, e2⟩ := c_add (N := N) (k := k) (p := p) hR e
        obtain ⟨F', e3, e4, e5⟩ := r_add (N := N) (G := G) (k := k) (p := p) (o := 3) (w := 50) (g := 30) hM e
        rw [e1, show f_X4_comesAs N F G (nI k) (nI p) 3 50 30 = _ from e3, p_bd2, p_bd2]
        exact ⟨_, _, _, _, rfl, rfl, h.isl e5 ⟨_, wf_add hw e (by omega) (by omega) (by omega) (by omega) (by omega), e2, e4⟩⟩
      · rw [if_neg e, if_pos (by omega), c_f1, r_f1, p_bd2, p_bd2]
        exact ⟨_, _, _, _, rfl, rfl, h.fnd⟩
    · rw [bI_f d, if_pos rfl, if_pos rfl, f_X3_thing_B19, f_X4_thing_B17, c_f0, r_f0, p_bd2, p_bd2]
      exact ⟨_, _, _, _, rfl, rfl, h.fnd⟩
  · rw [bI_f c, if_pos rfl, if_pos rfl, f_X3_thing_B19, f_X4_thing_B17, c_f0, r_f0, p_bd2, p_bd2]
    exact ⟨_, _, _, _, rfl, rfl, h.fnd⟩
end PR3
