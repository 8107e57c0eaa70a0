/-! ===== pure 9: calls, by both ===== -/
theorem rngL {p : Int32} {l h : Nat} (hl : l < 100000) (hh : h < 100000) (c : nI l ≤ p ∧ p ≤ nI h) : ∃ v, l ≤ v ∧ v ≤ h ∧ p = nI v := by
  obtain ⟨c1, c2⟩ := c
  have h0 : ¬ p < 0 := by
    intro z
    rw [fa_le, nI_toInt (by omega)] at c1
    rw [fa_lt] at z
    have e : (0 : Int32).toInt = 0 := rfl
    omega
  obtain ⟨j, hj, rfl⟩ := nI_of h0
  rw [nI_leI (by omega) hj] at c1
  rw [nI_leI hj (by omega)] at c2
  exact ⟨j, c1, c2, rfl⟩
theorem z10 : ¬ (1 : Int32) = 0 := by decide
section FND
variable {N : Nat} {b R T K P B F : Nat → Nat → Int32} {L : Nat → Nat → Int64} {G : Nat → Int64}
theorem c_f0 : f_X3_found N b R T K P B L (-1000000001) = some (-1000000001, fb b 0) := c_found (k := 0) (by decide) (by decide)
theorem c_f1 : f_X3_found N b R T K P B L (-1000000002) = some (-1000000002, fb b 1) := c_found (k := 1) (by decide) (by decide)
theorem c_f2 : f_X3_found N b R T K P B L (-1000000003) = some (-1000000003, fb b 2) := c_found (k := 2) (by decide) (by decide)
theorem c_f3 : f_X3_found N b R T K P B L (-1000000004) = some (-1000000004, fb b 3) := c_found (k := 3) (by decide) (by decide)
theorem c_f4 : f_X3_found N b R T K P B L (-1000000005) = some (-1000000005, fb b 4) := c_found (k := 4) (by decide) (by decide)
theorem c_f5 : f_X3_found N b R T K P B L (-1000000006) = some (-1000000006, fb b 5) := c_found (k := 5) (by decide) (by decide)
theorem c_f6 : f_X3_found N b R T K P B L (-1000000007) = some (-1000000007, fb b 6) := c_found (k := 6) (by decide) (by decide)
theorem r_f0 : f_X4_finds N F G (-1000000001) = some (-1000000001, fF F 0) := r_finds (k := 0) (by decide) (by decide)
theorem r_f1 : f_X4_finds N F G (-1000000002) = some (-1000000002, fF F 1) := r_finds (k := 1) (by decide) (by decide)
theorem r_f2 : f_X4_finds N F G (-1000000003) = some (-1000000003, fF F 2) := r_finds (k := 2) (by decide) (by decide)
theorem r_f3 : f_X4_finds N F G (-1000000004) = some (-1000000004, fF F 3) := r_finds (k := 3) (by decide) (by decide)
theorem r_f4 : f_X4_finds N F G (-1000000005) = some (-1000000005, fF F 4) := r_finds (k := 4) (by decide) (by decide)
theorem r_f5 : f_X4_finds N F G (-1000000006) = some (-1000000006, fF F 5) := r_finds (k := 5) (by decide) (by decide)
theorem r_f6 : f_X4_finds N F G (-1000000007) = some (-1000000007, fF F 6) := r_finds (k := 6) (by decide) (by decide)
theorem r_isB {p : Int32} : f_X4_isBearing N p = some (bI (0 ≤ p ∧ p ≤ 59)) := by rw [f_X4_isBearing, r_in, p_bd, q_gbI]
theorem r_bcm {k : Nat} {v : Int32} (hk : k < 69) : f_X4_becomes N F G (nI k) v = some (F 1 k, q_up F 1 k v) := by
  rw [f_X4_becomes, p_grd _ hk (by decide), p_let, p_grd _ hk (by decide), p_let, p_cl (by omega)]
end FND
section PR1
variable {N : Nat} {b R T K P B F : Nat → Nat → Int32} {L : Nat → Nat → Int64} {G : Nat → Int64} {p1 p2 p3 : Int32}
/-! beam -/
theorem r_beamBad : f_X4_beam_B52 N F G p1 p2 = some (-1000000001, fF F 0) := by rw [f_X4_beam_B52, f_X4_beam_B53, if_pos rfl, r_f0, p_bd2]
theorem c_beamBad : f_X3_beam_B101 N b R T K P B L = some (-1000000001, fb b 0, R) := by rw [f_X3_beam_B101, c_f0, p_bd2]
theorem pr_beam (h : gRel b R K P B L F G) : ∃ r b' R' F', f_X3_beam N b R T K P B L p1 p2 = some (r, b', R') ∧ f_X4_beam N F G p1 p2 = some (r, F') ∧ gRel b' R' K P B L F' G := by
  obtain ⟨a, hw, hR, hM⟩ := h.1
  by_cases e0 : p1 = 0
  · subst e0
    by_cases c : (0 : Int32) ≤ p2 ∧ p2 ≤ 59
    · obtain ⟨v, -, hv, rfl⟩ := rngL (l := 0) (h := 59) (by decide) (by decide) c
      refine ⟨nI (a 1), b, q_up R 0 1 (nI v), q_up F 1 1 (nI v), ?_, ?_, h.isl sX.up ⟨_, wf_bear hw (by omega), cR_bear hR, mR_q hM (by decide)⟩⟩
      · rw [f_X3_beam, if_pos rfl, c_within, p_bd, bI_t c, if_neg (by decide), p_let, p_let, hR.2.1]
      · rw [f_X4_beam, r_in, p_bd, bI_t (by decide), if_neg (by decide), if_pos rfl, f_X4_beam_B21, if_pos rfl, f_X4_beam_B42, r_in, p_bd, bI_t c, if_neg (by decide), f_X4_beam_B53, if_neg (by decide), show (1 : Int32) + 0 = nI 1 from rfl, r_bcm (by decide), p_bd2, hM 1 (by omega)]
    · refine ⟨-1000000001, _, R, _, ?_, ?_, h.fnd (k := 0)⟩
      · rw [f_X3_beam, if_pos rfl, c_within, p_bd, bI_f c, if_pos rfl, f_X3_beam_B33, if_neg (by decide), f_X3_beam_B67, if_neg (by decide)]
        exact c_beamBad
      · rw [f_X4_beam, r_in, p_bd, bI_t (by decide), if_neg (by decide), if_pos rfl, f_X4_beam_B21, if_pos rfl, f_X4_beam_B42, r_in, p_bd, bI_f c, if_pos rfl]
        exact r_beamBad
  · by_cases e1 : p1 = 1
    · subst e1
      by_cases c : (1 : Int32) ≤ p2 ∧ p2 ≤ 10
      · obtain ⟨v, hv1, hv, rfl⟩ := rngL (l := 1) (h := 10) (by decide) (by decide) c
        refine ⟨nI (a 2), b, q_up R 0 2 (nI v), q_up F 1 2 (nI v), ?_, ?_, h.isl sX.up ⟨_, wf_spd hw (by omega), cR_spd hR, mR_q hM (by decide)⟩⟩
        · rw [f_X3_beam, if_neg (by decide), f_X3_beam_B33, if_pos rfl, c_within, p_bd, bI_t c, if_neg (by decide), p_let, p_let, hR.2.2.1]
        · rw [f_X4_beam, r_in, p_bd, bI_t (by decide), if_neg (by decide), if_neg (by decide), f_X4_beam_B21, if_neg (by decide), if_pos rfl, f_X4_beam_B42, r_in, p_bd, bI_t c, if_neg (by decide), f_X4_beam_B53, if_neg (by decide), show (1 : Int32) + 1 = nI 2 from rfl, r_bcm (by decide), p_bd2, hM 2 (by omega)]
      · refine ⟨-1000000001, _, R, _, ?_, ?_, h.fnd (k := 0)⟩
        · rw [f_X3_beam, if_neg (by decide), f_X3_beam_B33, if_pos rfl, c_within, p_bd, bI_f c, if_pos rfl, f_X3_beam_B67, if_neg (by decide)]
          exact c_beamBad
        · rw [f_X4_beam, r_in, p_bd, bI_t (by decide), if_neg (by decide), if_neg (by decide), f_X4_beam_B21, if_neg (by decide), if_pos rfl, f_X4_beam_B42, r_in, p_bd, bI_f c, if_pos rfl]
          exact r_beamBad
    · by_cases e2 : p1 = 2
      · subst e2
        by_cases c : (1 : Int32) ≤ p2 ∧ p2 ≤ 40
        · obtain ⟨v, hv1, hv, rfl⟩ := rngL (l := 1) (h := 40) (by decide) (by decide) c
          refine ⟨nI (a 3), b, q_up R 0 3 (nI v), q_up F 1 3 (nI v), ?_, ?_, h.isl sX.up ⟨_, wf_thk hw (by omega), cR_thk hR, mR_q hM (by decide)⟩⟩
          · rw [f_X3_beam, if_neg (by decide), f_X3_beam_B33, if_neg (by decide), f_X3_beam_B67, if_pos rfl, c_within, p_bd, bI_t c, if_neg (by decide), p_let, p_let, hR.2.2.2.1]
          · rw [f_X4_beam, r_in, p_bd, bI_t (by decide), if_neg (by decide), if_neg (by decide), f_X4_beam_B21, if_neg (by decide), if_neg (by decide), f_X4_beam_B42, r_in, p_bd, bI_t c, if_neg (by decide), f_X4_beam_B53, if_neg (by decide), show (1 : Int32) + 2 = nI 3 from rfl, r_bcm (by decide), p_bd2, hM 3 (by omega)]
        · refine ⟨-1000000001, _, R, _, ?_, ?_, h.fnd (k := 0)⟩
          · rw [f_X3_beam, if_neg (by decide), f_X3_beam_B33, if_neg (by decide), f_X3_beam_B67, if_pos rfl, c_within, p_bd, bI_f c, if_pos rfl]
            exact c_beamBad
          · rw [f_X4_beam, r_in, p_bd, bI_t (by decide), if_neg (by decide), if_neg (by decide), f_X4_beam_B21, if_neg (by decide), if_neg (by decide), f_X4_beam_B42, r_in, p_bd, bI_f c, if_pos rfl]
            exact r_beamBad
      · have c : ¬ ((0 : Int32) ≤ p1 ∧ p1 ≤ 2) := by
          intro z
          obtain ⟨v, -, hv, rfl⟩ := rngL (l := 0) (h := 2) (by decide) (by decide) z
          rcases (show v = 0 ∨ v = 1 ∨ v = 2 by omega) with rfl | rfl | rfl
          · exact e0 rfl
          · exact e1 rfl
          · exact e2 rfl
        refine ⟨-1000000001, _, R, _, ?_, ?_, h.fnd (k := 0)⟩
        · rw [f_X3_beam, if_neg e0, f_X3_beam_B33, if_neg e1, f_X3_beam_B67, if_neg e2]
          exact c_beamBad
        · rw [f_X4_beam, r_in, p_bd, bI_f c, if_pos rfl]
          exact r_beamBad
/-! now -/
def sAll (a : Nat → Nat) : Nat → Nat
  | 0 => 0
  | m + 1 => sAll a m + if a (8 + 8 * m) = 1 then wt (a (5 + 8 * m)) (a (9 + 8 * m)) else 0
theorem r_all_L {a : Nat → Nat} (hM : mRel (F 1) a) (hw : wf a) : ∀ f i, i ≤ a 4 → a 4 - i < f → f_X4_allWeighs_L4 N F G f (nI (sAll a i)) (nI i) = some (nI (sAll a (a 4)), nI (a 4)) := by
  have h4 := hw.2.2.2.1
  intro f
  induction f with
  | zero => intro i _ h; exact absurd h (Nat.not_lt_zero _)
  | succ f ih =>
    intro i hi hf
    rw [f_X4_allWeighs_L4, p_gM4, p_c4, hM 4 (by omega)]
    by_cases e : i = a 4
    · rw [if_pos (nI_le (by omega) (by omega)), e]
    · have hi4 : i < a 4 := by omega
      obtain ⟨-, -, ho2, hon, -⟩ := hw.2.2.2.2 i hi4
      have ihi := ih (i + 1) (by omega) (by omega)
      rw [sAll] at ihi
      rw [if_neg (nI_ge (by omega) (by omega)), r_on hM hw hi4, p_bd, r_wt hM hw hi4, p_bd]
      simp only [p_let]
      rw [i_e0 (by omega), nI_1, show (0 : Int32) = nI 0 from rfl, nI_add, nI_add, Nat.add_zero]
      rcases le1 hon with e1 | e1
      · rw [if_pos e1]
        rw [if_neg (by omega), Nat.add_zero] at ihi
        exact ihi
      · rw [if_neg (by omega)]
        rw [if_pos e1] at ihi
        exact ihi
theorem c_all_L {a : Nat → Nat} (hR : cRel R a) (hw : wf a) : ∀ f i, i ≤ a 4 → a 4 - i < f → f_X0_weightOfAll_L4 N R f (nI (sAll a i)) (nI i) = some (nI (sAll a (a 4)), nI (a 4)) := by
  have h4 := hw.2.2.2.1
  intro f
  induction f with
  | zero => intro i _ h; exact absurd h (Nat.not_lt_zero _)
  | succ f ih =>
    intro i hi hf
    rw [f_X0_weightOfAll_L4, hR.2.2.2.2.1]
    by_cases e : i = a 4
    · rw [if_pos (nI_le (by omega) (by omega)), e]
    · have hi4 : i < a 4 := by omega
      obtain ⟨-, -, ho2, hon, -⟩ := hw.2.2.2.2 i hi4
      have ihi := ih (i + 1) (by omega) (by omega)
      rw [sAll] at ihi
      rw [if_neg (nI_ge (by omega) (by omega)), c_on hR hw hi4, p_bd, c_wt2 hR hw hi4, p_bd]
      simp only [p_let]
      rw [i_e0 (by omega), nI_1, nI_add]
      rcases le1 hon with e1 | e1
      · rw [if_pos e1]
        rw [if_neg (by omega), Nat.add_zero] at ihi
        exact ihi
      · rw [if_neg (by omega)]
        rw [if_pos e1] at ihi
        exact ihi
theorem pr_now (h : gRel b R K P B L F G) (hN : 600 ≤ N) : ∃ r b' F', f_X3_now N b R T K P B L p1 = some (r, b') ∧ f_X4_now N F G p1 = some (r, F') ∧ gRel b' R K P B L F' G := by
  obtain ⟨a, hw, hR, hM⟩ := h.1
  have h4 := hw.2.2.2.1
  by_cases e0 : p1 = 0
  · subst e0
    refine ⟨nI (a 0), b, F, ?_, ?_, h⟩
    · rw [f_X3_now, if_pos rfl, hR.1]
    · rw [f_X4_now, if_pos rfl, show (0 : Int32) + 0 = nI 0 from rfl, p_grd _ (by decide) (by decide), p_cl (by decide), hM 0 (by omega)]
  rw [f_X3_now, f_X4_now, if_neg e0, if_neg e0]
  by_cases e1 : p1 = 1
  · subst e1
    refine ⟨nI (a 1), b, F, ?_, ?_, h⟩
    · rw [if_pos rfl, hR.2.1]
    · rw [if_pos rfl, show (0 : Int32) + 1 = nI 1 from rfl, p_grd _ (by decide) (by decide), p_cl (by decide), hM 1 (by omega)]
  rw [if_neg e1, if_neg e1]
  by_cases e2 : p1 = 2
  · subst e2
    refine ⟨nI (a 2), b, F, ?_, ?_, h⟩
    · rw [if_pos rfl, hR.2.2.1]
    · rw [if_pos rfl, show (0 : Int32) + 2 = nI 2 from rfl, p_grd _ (by decide) (by decide), p_cl (by decide), hM 2 (by omega)]
  rw [if_neg e2, if_neg e2]
  by_cases e3 : p1 = 3
  · subst e3
    refine ⟨nI (a 3), b, F, ?_, ?_, h⟩
    · rw [if_pos rfl, hR.2.2.2.1]
    · rw [if_pos rfl, show (0 : Int32) + 3 = nI 3 from rfl, p_grd _ (by decide) (by decide), p_cl (by decide), hM 3 (by omega)]
  rw [if_neg e3, if_neg e3]
  by_cases e4 : p1 = 4
  · subst e4
    refine ⟨nI (sSet a 3 (a 4)), b, F, ?_, ?_, h⟩
    · rw [if_pos rfl, hR.2.2.2.2.2.1]
    · rw [if_pos rfl, show (3 : Int32) = nI 3 from rfl, r_set (by decide) hM h4 hw.on (by omega), p_bd]
  rw [if_neg e4, if_neg e4]
  by_cases e5 : p1 = 5
  · subst e5
    refine ⟨nI (sSet a 6 (a 4)), b, F, ?_, ?_, h⟩
    · rw [if_pos rfl, hR.2.2.2.2.2.2.1]
    · rw [if_pos rfl, show (6 : Int32) = nI 6 from rfl, r_set (by decide) hM h4 hw.lost (by omega), p_bd]
  rw [if_neg e5, if_neg e5]
  by_cases e6 : p1 = 6
  · subst e6
    have q1 := r_all_L (N := N) (G := G) hM hw N 0 (by omega) (by omega)
    have q2 := c_all_L (N := N) hR hw N 0 (by omega) (by omega)
    refine ⟨nI (sAll a (a 4)), b, F, ?_, ?_, h⟩
    · rw [if_pos rfl, f_X0_weightOfAll, show f_X0_weightOfAll_L4 N R N (0 : Int32) (0 : Int32) = _ from q2, p_bd2, p_bd]
    · rw [if_pos rfl, f_X4_allWeighs, show f_X4_allWeighs_L4 N F G N (0 : Int32) (0 : Int32) = _ from q1, p_bd2, p_bd]
  rw [if_neg e6, if_neg e6]
  exact ⟨_, _, _, by rw [c_f0, p_bd2], by rw [r_f0, p_bd2], h.fnd (k := 0)⟩
/-! load -/
theorem pr_load (h : gRel b R K P B L F G) (hN : 600 ≤ N) : ∃ r b' F', f_X3_load N b R T K P B L p1 p2 = some (r, b') ∧ f_X4_load N F G p1 p2 = some (r, F') ∧ gRel b' R K P B L F' G := by
  obtain ⟨a, hw, hR, hM⟩ := h.1
  rw [f_X3_load, f_X4_load, c_within, r_in, p_bd, p_bd]
  by_cases c : (0 : Int32) ≤ p1 ∧ p1 ≤ 9
  · rw [bI_t c, if_neg z10, if_neg z10, c_within, r_in, p_bd, p_bd]
    obtain ⟨o, -, ho, rfl⟩ := rngL (l := 0) (h := 9) (by decide) (by decide) c
    by_cases d : (0 : Int32) ≤ p2 ∧ p2 ≤ 1
    · rw [bI_t d, if_neg z10, if_neg z10]
      by_cases e : p2 = 0
      · rw [if_pos e, if_pos e, c_bear (by omega) hR hw, r_bear (by omega) hM hw, p_bd, p_bd]
        exact ⟨_, _, _, rfl, rfl, h⟩
      · rw [if_neg e, if_neg e, c_load (by omega) hR hw (by omega), r_load (by omega) hM hw (by omega), p_bd, p_bd]
        exact ⟨_, _, _, rfl, rfl, h⟩
    · rw [bI_f d, if_pos rfl, if_pos rfl, f_X3_load_B19, f_X4_load_B41, c_f0, r_f0, p_bd2, p_bd2]
      exact ⟨_, _, _, rfl, rfl, h.fnd⟩
  · rw [bI_f c, if_pos rfl, if_pos rfl, f_X3_load_B19, f_X4_load_B41, c_f0, r_f0, p_bd2, p_bd2]
    exact ⟨_, _, _, rfl, rfl, h.fnd⟩
/-! take, lay, turn, carry, seconds -/
theorem pr_take (h : gRel b R K P B L F G) (hN : 600 ≤ N) : ∃ r b' R' F', f_X3_take N b R T K P B L p1 = some (r, b', R') ∧ f_X4_take N F G p1 = some (r, F') ∧ gRel b' R' K P B L F' G := by
  obtain ⟨a, hw, hR, hM⟩ := h.1
  have h4 := hw.2.2.2.1
  rw [f_X3_take, f_X4_take, c_has hR.2.2.2.2.1, r_has (hM 4 (by omega)) h4, p_bd, p_bd]
  by_cases c : hasI (a 4) p1
  · rw [bI_t c, if_neg z10, if_neg z10]
    obtain ⟨i, hi, rfl⟩ := hasI_of (by omega) c
    have hon := (hw.2.2.2.2 i hi).2.2.2.1
    rw [c_on hR hw hi, r_on hM hw hi, p_bd, p_bd, i_e0 (by omega), i_e0 (by omega)]
    rcases le1 hon with e | e
    · rw [if_pos e, if_pos e, c_f4, r_f4, p_bd2, p_bd2]
      exact ⟨_, _, _, _, rfl, rfl, h.fnd⟩
    · rw [if_neg (by omega), if_neg (by omega), p_gM1, p_c1, hM 1 (by omega)]
      obtain ⟨R', e1, e2⟩ := c_goOff (N := N) hR hw hi
      obtain ⟨F', e3, e4, e5⟩ := r_goOff (N := N) (G := G) (b := a 1) hM hw hi
      rw [e1, e3, p_bd, p_bd, p_gM1]
      have k := kp_off (a := a) (i := i) (b := a 1)
      refine ⟨nI (a 1), b, R', F', by rw [e2.2.1, k.2.1], by rw [e4 1 (by omega), k.2.1], h.isl e5 ⟨_, wf_sOff hw hi hw.1, e2, e4⟩⟩
  · rw [bI_f c, if_pos rfl, if_pos rfl, c_f0, r_f0, p_bd2, p_bd2]
    exact ⟨_, _, _, _, rfl, rfl, h.fnd⟩
theorem pr_lay (h : gRel b R K P B L F G) (hN : 600 ≤ N) : ∃ r b' R' F', f_X3_lay N b R T K P B L p1 = some (r, b', R') ∧ f_X4_lay N F G p1 = some (r, F') ∧ gRel b' R' K P B L F' G := by
  obtain ⟨a, hw, hR, hM⟩ := h.1
  have h4 := hw.2.2.2.1
  rw [f_X3_lay, f_X4_lay, c_has hR.2.2.2.2.1, r_has (hM 4 (by omega)) h4, p_bd, p_bd]
  by_cases c : hasI (a 4) p1
  · rw [bI_t c, if_neg z10, if_neg z10]
    obtain ⟨i, hi, rfl⟩ := hasI_of (by omega) c
    have h8 : i < 8 := by omega
    have hon := (hw.2.2.2.2 i hi).2.2.2.1
    have hlo := (hw.2.2.2.2 i hi).2.2.2.2.2.2.1
    rw [c_on hR hw hi, r_on hM hw hi, p_bd, p_bd, i_e0 (by omega), i_e0 (by omega)]
    rcases le1 hon with e | e
    · rw [if_pos e, if_pos e, c_lost hR hw hi, r_it6 h8, p_bd, p_bd, hM _ (by omega), i_e0 (by omega), i_e1 (by omega)]
      rcases le1 hlo with d | d
      · rw [if_pos d, if_neg (by omega), c_bor hR hw hi (by omega), r_bor hM hw hi (by omega), p_bd, p_bd]
        rcases bor01 (a := a) (i := i) with c5 | c5
        · rw [c5, if_pos (show nI 0 = 0 from rfl), if_pos (show nI 0 = 0 from rfl), c_f1, r_f1, p_bd2, p_bd2]
          exact ⟨_, _, _, _, rfl, rfl, h.fnd⟩
        · rw [c5, if_neg (show ¬ nI 1 = 0 by decide), if_neg (show ¬ nI 1 = 0 by decide)]
          obtain ⟨R', e1, e2⟩ := c_comeOn (N := N) hR hw hi
          obtain ⟨F', e3, e4, e5⟩ := r_comeOn (N := N) (G := G) hM hw hi
          have k := kp_on (a := a) (i := i)
          have w1 := wf_sOn hw hi
          have hi2 : i < sOn a i 4 := by rw [k.2.2.2.2]; exact hi
          have b1 : a 1 < 60 := hw.1
          rw [e1, e3, p_bd, p_bd, p_grd _ h8 (by decide), p_let, p_grd _ h8 (by decide), p_gM1, p_c1, r_put1 h8, p_bd, e2.2.1, e4 1 (by omega), k.2.1, p_cl (by omega)]
          have R2 := cR_at (v := a 1) e2 hi2
          have M2 := mR_q (v := a 1) e4 (show 6 + 8 * i ≠ 4 by omega)
          have w2 := wf_at w1 hi2 b1
          have hi3 : i < (upN (sOn a i) (6 + 8 * i) (a 1)) 4 := by rw [upN4 (by omega)]; exact hi2
          have ho := (w2.2.2.2.2 i hi3).2.2.1
          rw [(R2.2.2.2.2.2.2.2 i hi3).2.2.1, c_load ho R2 w2 (by omega), p_bd, r_it2 h8, p_bd, M2 _ (by omega), r_load ho M2 w2 (by omega), p_bd]
          exact ⟨_, _, _, _, rfl, rfl, h.isl (e5.tr sX.up) ⟨_, w2, R2, M2⟩⟩
      · rw [if_neg (by omega), if_pos d, f_X3_lay_B40, f_X4_lay_B34, c_f4, r_f4, p_bd2, p_bd2]
        exact ⟨_, _, _, _, rfl, rfl, h.fnd⟩
    · rw [if_neg (by omega), if_neg (by omega), f_X3_lay_B40, f_X4_lay_B34, c_f4, r_f4, p_bd2, p_bd2]
      exact ⟨_, _, _, _, rfl, rfl, h.fnd⟩
  · rw [bI_f c, if_pos rfl, if_pos rfl, c_f0, r_f0, p_bd2, p_bd2]
    exact ⟨_, _, _, _, rfl, rfl, h.fnd⟩
theorem pr_turn (h : gRel b R K P B L F G) (hN : 600 ≤ N) : ∃ r b' R' F', f_X3_turn N b R T K P B L p1 p2 = some (r, b', R') ∧ f_X4_turn N F G p1 p2 = some (r, F') ∧ gRel b' R' K P B L F' G := by
  obtain ⟨a, hw, hR, hM⟩ := h.1
  have h4 := hw.2.2.2.1
  rw [f_X3_turn, f_X4_turn, c_has hR.2.2.2.2.1, r_has (hM 4 (by omega)) h4, p_bd, p_bd]
  by_cases c : hasI (a 4) p1
  · rw [bI_t c, if_neg z10, if_neg z10, c_within, r_in, p_bd, p_bd]
    obtain ⟨i, hi, rfl⟩ := hasI_of (by omega) c
    have h8 : i < 8 := by omega
    by_cases d : (0 : Int32) ≤ p2 ∧ p2 ≤ 5
    · rw [bI_t d, if_neg z10, if_neg z10]
      obtain ⟨v, -, hv, rfl⟩ := rngL (l := 0) (h := 5) (by decide) (by decide) d
      have ix : (5 : Int32) + 8 * nI i = nI (5 + 8 * i) := by rw [show (5 : Int32) = nI 5 from rfl, show (8 : Int32) = nI 8 from rfl, pk_mul, nI_add]
      rw [p_grd _ h8 (by decide), p_let, p_grd _ h8 (by decide), p_let, p_cl (by omega), ix, r_bcm (by omega), p_bd2, (hR.2.2.2.2.2.2.2 i hi).1, hM _ (by omega)]
      exact ⟨_, _, _, _, rfl, rfl, h.isl sX.up ⟨_, wf_kind hw hi (by omega), cR_kind hR hi, mR_q hM (by omega)⟩⟩
    · rw [bI_f d, if_pos rfl, if_pos rfl, f_X3_turn_B20, f_X4_turn_B32, c_f0, r_f0, p_bd2, p_bd2]
      exact ⟨_, _, _, _, rfl, rfl, h.fnd⟩
  · rw [bI_f c, if_pos rfl, if_pos rfl, f_X3_turn_B20, f_X4_turn_B32, c_f0, r_f0, p_bd2, p_bd2]
    exact ⟨_, _, _, _, rfl, rfl, h.fnd⟩
theorem pr_carry (h : gRel b R K P B L F G) (hN : 600 ≤ N) : ∃ r b' R' F', f_X3_carry N b R T K P B L p1 p2 = some (r, b', R') ∧ f_X4_carry N F G p1 p2 = some (r, F') ∧ gRel b' R' K P B L F' G := by
  obtain ⟨a, hw, hR, hM⟩ := h.1
  have h4 := hw.2.2.2.1
  rw [f_X3_carry, f_X4_carry, c_has hR.2.2.2.2.1, r_has (hM 4 (by omega)) h4, p_bd, p_bd]
  by_cases c : hasI (a 4) p1
  · rw [bI_t c, if_neg z10, if_neg z10, c_within, r_isB, p_bd, p_bd]
    obtain ⟨i, hi, rfl⟩ := hasI_of (by omega) c
    have h8 : i < 8 := by omega
    have hon := (hw.2.2.2.2 i hi).2.2.2.1
    by_cases d : (0 : Int32) ≤ p2 ∧ p2 ≤ 59
    · rw [bI_t d, if_neg z10, if_neg z10]
      obtain ⟨v, -, hv, rfl⟩ := rngL (l := 0) (h := 59) (by decide) (by decide) d
      rw [c_on hR hw hi, r_on hM hw hi, p_bd, p_bd, i_e0 (by omega), i_e0 (by omega)]
      rcases le1 hon with e | e
      · rw [if_pos e, if_pos e, p_grd _ h8 (by decide), p_let, p_grd _ h8 (by decide), p_let, p_let, p_cl (by omega), r_put6 h8, p_bd]
        have R1 := cR_at (v := v) hR hi
        have w1 := wf_at (v := v) hw hi (by omega)
        have hi2 : i < (upN a (6 + 8 * i) v) 4 := by rw [upN4 (by omega)]; exact hi
        have R2 := cR_lost (v := 0) R1 hi2
        have w2 := wf_lost (v := 0) w1 hi2 (by omega)
        have ix : (5 : Int32) + 8 * nI i + 1 = nI (6 + 8 * i) := r_ix (k := 1)
        have M1 := mR_q (v := 0) hM (show 11 + 8 * i ≠ 4 by omega)
        have M2 := mR_q (v := v) M1 (show 6 + 8 * i ≠ 4 by omega)
        have ee : upN (upN a (11 + 8 * i) 0) (6 + 8 * i) v = upN (upN a (6 + 8 * i) v) (11 + 8 * i) 0 := by
          funext j
          simp only [upN]
          by_cases q1 : j = 6 + 8 * i
          · rw [if_pos q1, if_neg (by omega), if_pos q1]
          · rw [if_neg q1, if_neg q1]
        rw [ee] at M2
        have cl := c_clrbit (k := 6) w1.2.2.2.1 w1.lost hi2
        rw [ix, r_bcm (by omega), p_bd2, R1.2.2.2.2.2.2.1, cl, (hR.2.2.2.2.2.2.2 i hi).2.1]
        have em : (q_up F 1 (11 + 8 * i) 0) 1 (6 + 8 * i) = nI (a (6 + 8 * i)) := by rw [qu_s, pk_un (by omega)]; exact hM _ (by omega)
        rw [em]
        exact ⟨_, _, _, _, rfl, rfl, h.isl (sX.up.tr sX.up) ⟨_, w2, R2, M2⟩⟩
      · rw [if_neg (by omega), if_neg (by omega), c_f4, r_f4, p_bd2, p_bd2]
        exact ⟨_, _, _, _, rfl, rfl, h.fnd⟩
    · rw [bI_f d, if_pos rfl, if_pos rfl, f_X3_carry_B21, f_X4_carry_B15, c_f0, r_f0, p_bd2, p_bd2]
      exact ⟨_, _, _, _, rfl, rfl, h.fnd⟩
  · rw [bI_f c, if_pos rfl, if_pos rfl, f_X3_carry_B21, f_X4_carry_B15, c_f0, r_f0, p_bd2, p_bd2]
    exact ⟨_, _, _, _, rfl, rfl, h.fnd⟩
theorem pr_seconds (h : gRel b R K P B L F G) (hN : 600 ≤ N) : ∃ r b' R' F', f_X3_seconds N b R T K P B L p1 = some (r, b', R') ∧ f_X4_seconds N F G p1 = some (r, F') ∧ gRel b' R' K P B L F' G := by
  obtain ⟨a, hw, hR, hM⟩ := h.1
  have h4 := hw.2.2.2.1
  rw [f_X3_seconds, f_X4_seconds, c_within, r_in, p_bd, p_bd]
  by_cases c : (1 : Int32) ≤ p1 ∧ p1 ≤ 200
  · rw [bI_t c, if_neg z10, if_neg z10, p_gM0, p_c0, hR.1, hM 0 (by omega)]
    by_cases d : nI (a 0) + p1 ≤ 99999
    · rw [if_pos d, if_pos d]
      obtain ⟨v, hv1, hv, rfl⟩ := rngL (l := 1) (h := 200) (by decide) (by decide) c
      obtain ⟨R', e1, e2⟩ := c_goN (N := N) (n := v) (by omega) (by omega) (by omega) hR hw
      obtain ⟨F', e3, e4, e5⟩ := r_goN (N := N) (G := G) (n := v) (by omega) (by omega) (by omega) hM hw
      have w2 := wf_goN v a hw
      rw [e1, e3, p_bd, p_bd, show (3 : Int32) = nI 3 from rfl, r_set (by decide) e4 w2.2.2.2.1 w2.on (by omega), p_bd, e2.2.2.2.2.2.1]
      exact ⟨_, _, _, _, rfl, rfl, h.isl e5 ⟨_, w2, e2, e4⟩⟩
    · rw [if_neg d, if_neg d, c_f4, r_f4, p_bd2, p_bd2]
      exact ⟨_, _, _, _, rfl, rfl, h.fnd⟩
  · rw [bI_f c, if_pos rfl, if_pos rfl, c_f0, r_f0, p_bd2, p_bd2]
    exact ⟨_, _, _, _, rfl, rfl, h.fnd⟩
end PR1
