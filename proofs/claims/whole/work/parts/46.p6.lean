/-! ===== pure 6: drying, going ===== -/
def sDry (a : Nat → Nat) (i : Nat) : Nat → Nat := if a (8 + 8 * i) = 1 then upN (upN a (9 + 8 * i) (a (9 + 8 * i) - dr (a (5 + 8 * i)) (a (7 + 8 * i)) (a 2))) (6 + 8 * i) (a 1) else a
theorem kp_dry {a : Nat → Nat} {i : Nat} : kp a (sDry a i) := by
  unfold sDry
  split
  · exact (kp.up (by omega)).tr (kp.up (by omega))
  · exact kp.rf
theorem wf_dry {a : Nat → Nat} {i : Nat} (hw : wf a) (hi : i < a 4) : wf (sDry a i) := by
  have h := (hw.2.2.2.2 i hi).2.2.2.2.1
  unfold sDry
  split
  · exact wf_at (wf_wet hw hi (by omega)) (by rw [upN4 (by omega)]; exact hi) hw.1
  · exact hw
theorem b_dryC : ∀ w, w < 100 → ∀ d, d < 20 → (if (0 : Int32) < nI w - nI d then nI w - nI d else 0) = nI (w - d) := by decide +kernel
theorem b_dryR (N : Nat) : ∀ w, w < 100 → ∀ d, d < 20 → f_X4_held N (nI w - nI d) 0 99 = some (nI (w - d)) := by
  show ∀ w, w < 100 → ∀ d, d < 20 → f_X4_held 0 (nI w - nI d) 0 99 = some (nI (w - d))
  decide +kernel
def sDAf : (Nat → Nat) → Nat → Nat → (Nat → Nat)
  | a, _, 0 => a
  | a, i, m + 1 => sDAf (sDry a i) (i + 1) m
theorem kp_DA : ∀ m i a, kp a (sDAf a i m) := by
  intro m
  induction m with
  | zero => intro i a; exact kp.rf
  | succ m ih => intro i a; exact kp_dry.tr (ih (i + 1) _)
theorem wf_DA : ∀ m i a, wf a → i + m ≤ a 4 → wf (sDAf a i m) := by
  intro m
  induction m with
  | zero => intro i a h _; exact h
  | succ m ih => intro i a h hi; exact ih (i + 1) _ (wf_dry h (by omega)) (by rw [kp_dry.2.2.2.2]; omega)
theorem c_dryStep {N f i : Nat} {R : Nat → Nat → Int32} {a : Nat → Nat} (hR : cRel R a) (hw : wf a) (hi : i < a 4) : ∃ R', f_X0_dryAndRide_L2 N (f + 1) (nI i) R = f_X0_dryAndRide_L2 N f (nI (i + 1)) R' ∧ cRel R' (sDry a i) := by
  have h8 : i < 8 := Nat.lt_of_lt_of_le hi hw.2.2.2.1
  obtain ⟨hk, hat, ho, hon, hwet, hg, hl, ht⟩ := hw.2.2.2.2 i hi
  obtain ⟨g1, g2, g3, g4, g5, g6⟩ := hR.2.2.2.2.2.2.2 i hi
  rw [f_X0_dryAndRide_L2, hR.2.2.2.2.1, if_neg (nI_ge hi (by have := hw.2.2.2.1; omega)), c_on hR hw hi, p_bd, i_e0 (by omega)]
  rcases le1 hon with h0 | h0
  · rw [if_pos h0, p_let, nI_1]
    refine ⟨R, rfl, ?_⟩
    unfold sDry
    rw [if_neg (by omega)]
    exact hR
  · rw [if_neg (by omega), p_grd _ h8 (by decide), c_dr hR hw hi, p_bd, p_let, p_grd _ h8 (by decide), p_let, p_grd _ h8 (by decide), p_let, p_let, nI_1, p_cl (by omega), g4, b_dryC _ hwet _ (dr_lt ho hw.2.1.2), qu_n (show 0 ≠ 4 by decide), hR.2.1]
    refine ⟨_, rfl, ?_⟩
    unfold sDry
    rw [if_pos h0]
    exact cR_at (cR_wet hR hi) (by rw [upN4 (by omega)]; exact hi)
theorem c_dryAll {N : Nat} : ∀ m i f R a, cRel R a → wf a → i + m = a 4 → m < f → ∃ R', f_X0_dryAndRide_L2 N f (nI i) R = some (nI (a 4), R') ∧ cRel R' (sDAf a i m) := by
  intro m
  induction m with
  | zero =>
    intro i f R a hR hw hi hf
    obtain ⟨f, rfl⟩ : ∃ g, f = g + 1 := ⟨f - 1, by omega⟩
    have h4 := hw.2.2.2.1
    rw [f_X0_dryAndRide_L2, hR.2.2.2.2.1, if_pos (nI_le (by omega) (by omega)), show i = a 4 by omega]
    exact ⟨R, rfl, hR⟩
  | succ m ih =>
    intro i f R a hR hw hi hf
    obtain ⟨f, rfl⟩ : ∃ g, f = g + 1 := ⟨f - 1, by omega⟩
    obtain ⟨R', e1, e2⟩ := c_dryStep (N := N) (f := f) hR hw (show i < a 4 by omega)
    have h4 : sDry a i 4 = a 4 := kp_dry.2.2.2.2
    obtain ⟨R2, e3, e4⟩ := ih (i + 1) f R' (sDry a i) e2 (wf_dry hw (by omega)) (by rw [h4]; omega) (by omega)
    rw [e1, e3, h4]
    exact ⟨R2, rfl, e4⟩
theorem r_dryAll {N : Nat} {G : Nat → Int64} : ∀ m i f F a, mRel (F 1) a → wf a → i + m = a 4 → m < f → ∃ F', f_X4_allDry_L2 N G f (nI i) F = some (nI (a 4), F') ∧ mRel (F' 1) (sDAf a i m) ∧ sX F F' := by
  intro m
  induction m with
  | zero =>
    intro i f F a hM hw hi hf
    obtain ⟨f, rfl⟩ : ∃ g, f = g + 1 := ⟨f - 1, by omega⟩
    have h4 := hw.2.2.2.1
    rw [f_X4_allDry_L2, p_gM4, p_c4, hM 4 (by omega), if_pos (nI_le (by omega) (by omega)), show i = a 4 by omega]
    exact ⟨F, rfl, hM, sX.rf⟩
  | succ m ih =>
    intro i f F a hM hw hi hf
    obtain ⟨f, rfl⟩ : ∃ g, f = g + 1 := ⟨f - 1, by omega⟩
    have h48 := hw.2.2.2.1
    have hi4 : i < a 4 := by omega
    have h8 : i < 8 := by omega
    obtain ⟨hk, hat, ho, hon, hwet, hg, hl, ht⟩ := hw.2.2.2.2 i hi4
    have h4 : sDry a i 4 = a 4 := kp_dry.2.2.2.2
    have ihd := fun F' e2 => ih (i + 1) f F' (sDry a i) e2 (wf_dry hw (by omega)) (by rw [h4]; omega) (by omega)
    rw [f_X4_allDry_L2, p_gM4, p_c4, hM 4 (by omega), if_neg (nI_ge (by omega) (by omega)), r_on hM hw hi4, p_bd, i_e0 (by omega)]
    rcases le1 hon with h0 | h0
    · have hs : sDry a i = a := by unfold sDry; rw [if_neg (by omega)]
      rw [if_pos h0, p_let, nI_1]
      obtain ⟨F2, e3, e4, e6⟩ := ihd F (by rw [hs]; exact hM)
      rw [e3, h4]
      exact ⟨F2, rfl, e4, e6⟩
    · have hs : sDry a i = upN (upN a (9 + 8 * i) (a (9 + 8 * i) - dr (a (5 + 8 * i)) (a (7 + 8 * i)) (a 2))) (6 + 8 * i) (a 1) := by unfold sDry; rw [if_pos h0]
      rw [if_neg (by omega), r_it4 h8, p_bd, hM _ (by omega), r_dr hM hw hi4, p_bd, b_dryR N _ hwet _ (dr_lt ho hw.2.1.2), p_bd, r_put4 h8, p_bd, p_gM1, p_c1, r_put1 h8, p_bd, p_let, nI_1]
      have eb : (q_up F 1 (9 + 8 * i) (nI (a (9 + 8 * i) - dr (a (5 + 8 * i)) (a (7 + 8 * i)) (a 2)))) 1 1 = nI (a 1) := by rw [qu_s, pk_un (by omega)]; exact hM 1 (by omega)
      rw [eb]
      obtain ⟨F2, e3, e4, e6⟩ := ihd _ (by rw [hs]; exact mR_q (mR_q hM (by omega)) (by omega))
      rw [e3, h4]
      exact ⟨F2, rfl, e4, (sX.up.tr sX.up).tr e6⟩
/-! the beam goes its bearings -/
def sStf : (Nat → Nat) → Nat → Nat → (Nat → Nat)
  | a, _, 0 => a
  | a, u, m + 1 => sStf (sPAf (upN a 1 ((a 1 + 1) % 60)) u 0 (a 4)) u m
/-- what stays: all but the bearing -/
def kq (a b : Nat → Nat) : Prop := b 0 = a 0 ∧ b 2 = a 2 ∧ b 3 = a 3 ∧ b 4 = a 4
theorem kq.rf {a : Nat → Nat} : kq a a := ⟨rfl, rfl, rfl, rfl⟩
theorem kq.tr {a b c : Nat → Nat} (h : kq a b) (g : kq b c) : kq a c := ⟨g.1.trans h.1, g.2.1.trans h.2.1, g.2.2.1.trans h.2.2.1, g.2.2.2.trans h.2.2.2⟩
theorem kp.q {a b : Nat → Nat} (h : kp a b) : kq a b := ⟨h.1, h.2.2.1, h.2.2.2.1, h.2.2.2.2⟩
theorem kq_b {a : Nat → Nat} {v : Nat} : kq a (upN a 1 v) := ⟨upN_n (by decide), upN_n (by decide), upN_n (by decide), upN_n (by decide)⟩
theorem kq_step {a : Nat → Nat} {u : Nat} : kq a (sPAf (upN a 1 ((a 1 + 1) % 60)) u 0 (a 4)) := kq_b.tr (kp_PA _ _ _).q
theorem wf_step {a : Nat → Nat} {u : Nat} (hw : wf a) : wf (sPAf (upN a 1 ((a 1 + 1) % 60)) u 0 (a 4)) := wf_PA _ _ _ (wf_bear hw (Nat.mod_lt _ (by decide))) (by rw [upN_n (by decide)]; omega)
theorem kq_St {u : Nat} : ∀ m a, kq a (sStf a u m) := by
  intro m
  induction m with
  | zero => intro a; exact kq.rf
  | succ m ih => intro a; exact kq_step.tr (ih _)
theorem wf_St {u : Nat} : ∀ m a, wf a → wf (sStf a u m) := by
  intro m
  induction m with
  | zero => intro a h; exact h
  | succ m ih => intro a h; exact ih _ (wf_step h)
theorem b_beC : ∀ b, b < 60 → (if nI b < (59 : Int32) then nI b + 1 else 0) = nI ((b + 1) % 60) := by decide +kernel
theorem b_beR : ∀ b, b < 60 → (nI b + 1) - (nI b + 1) / 60 * 60 = nI ((b + 1) % 60) := by decide +kernel
theorem c_pb {N u : Nat} {R : Nat → Nat → Int32} {a : Nat → Nat} (hu : u < 256) (hN : 9 ≤ N) (hR : cRel R a) (hw : wf a) : ∃ R', f_X0_passBearing N R (nI u) = some R' ∧ cRel R' (sPAf a u 0 (a 4)) := by
  obtain ⟨R', e1, e2⟩ := c_passAll hu hN (a 4) 0 N R a hR hw (by omega) (by have := hw.2.2.2.1; omega)
  refine ⟨R', ?_, e2⟩
  rw [f_X0_passBearing, show (0 : Int32) = nI 0 from rfl, e1, p_bd2]
theorem c_steps {N u : Nat} {z1 z2 : Int32} (hu : u < 256) (hN : 9 ≤ N) : ∀ m i f R a, cRel R a → wf a → i + m = a 2 → m < f → ∃ R', f_X0_goSeconds_L15 N z1 z2 (nI u) f (nI i) R = some (nI (a 2), R') ∧ cRel R' (sStf a u m) := by
  intro m
  induction m with
  | zero =>
    intro i f R a hR hw hi hf
    obtain ⟨f, rfl⟩ : ∃ g, f = g + 1 := ⟨f - 1, by omega⟩
    have h2 := hw.2.1.2
    rw [f_X0_goSeconds_L15, hR.2.2.1, if_pos (nI_le (by omega) (by omega)), show i = a 2 by omega]
    exact ⟨R, rfl, hR⟩
  | succ m ih =>
    intro i f R a hR hw hi hf
    obtain ⟨f, rfl⟩ : ∃ g, f = g + 1 := ⟨f - 1, by omega⟩
    have h2 := hw.2.1.2
    have hb := b_beC _ hw.1
    have hw1 : wf (upN a 1 ((a 1 + 1) % 60)) := wf_bear hw (Nat.mod_lt _ (by decide))
    obtain ⟨R', e1, e2⟩ := c_pb (N := N) hu hN (cR_bear (v := (a 1 + 1) % 60) hR) hw1
    rw [show (upN a 1 ((a 1 + 1) % 60)) 4 = a 4 from upN_n (by decide)] at e2
    have k := kq_step (a := a) (u := u)
    obtain ⟨R2, e3, e4⟩ := ih (i + 1) f R' _ e2 (wf_step hw) (by rw [k.2.1]; omega) (by omega)
    rw [k.2.1] at e3
    rw [f_X0_goSeconds_L15, hR.2.2.1, if_neg (nI_ge (by omega) (by omega)), hR.2.1]
    by_cases c : nI (a 1) < (59 : Int32)
    · rw [if_pos c] at hb ⊢
      rw [hb, p_let, e1, p_bd, p_let, nI_1, e3]
      exact ⟨R2, rfl, e4⟩
    · rw [if_neg c] at hb ⊢
      rw [hb, p_let, e1, p_bd, p_let, nI_1, e3]
      exact ⟨R2, rfl, e4⟩
theorem r_steps {N u : Nat} {G : Nat → Int64} (hu : u < 256) (hN : 9 ≤ N) : ∀ m i f F a, mRel (F 1) a → wf a → i + m = a 2 → m < f → ∃ F', f_X4_goes_L8 N G (nI u) f (nI i) F = some (nI (a 2), F') ∧ mRel (F' 1) (sStf a u m) ∧ sX F F' := by
  intro m
  induction m with
  | zero =>
    intro i f F a hM hw hi hf
    obtain ⟨f, rfl⟩ : ∃ g, f = g + 1 := ⟨f - 1, by omega⟩
    have h2 := hw.2.1.2
    rw [f_X4_goes_L8, p_gM2, p_c2, hM 2 (by omega), if_pos (nI_le (by omega) (by omega)), show i = a 2 by omega]
    exact ⟨F, rfl, hM, sX.rf⟩
  | succ m ih =>
    intro i f F a hM hw hi hf
    obtain ⟨f, rfl⟩ : ∃ g, f = g + 1 := ⟨f - 1, by omega⟩
    have h2 := hw.2.1.2
    have h4 := hw.2.2.2.1
    have hw1 : wf (upN a 1 ((a 1 + 1) % 60)) := wf_bear hw (Nat.mod_lt _ (by decide))
    have e4 : (upN a 1 ((a 1 + 1) % 60)) 4 = a 4 := upN_n (by decide)
    obtain ⟨F', e1, e2, e5⟩ := r_passAll (N := N) (G := G) (z := nI i) hu hN (a 4) 0 N (q_up F 1 1 (nI ((a 1 + 1) % 60))) _ (mR_q (v := (a 1 + 1) % 60) hM (by decide)) hw1 (by rw [e4]; omega) (by omega)
    rw [e4] at e1
    have k := kq_step (a := a) (u := u)
    obtain ⟨F2, e3, e6, e7⟩ := ih (i + 1) f F' _ e2 (wf_step hw) (by rw [k.2.1]; omega) (by omega)
    rw [k.2.1] at e3
    rw [f_X4_goes_L8, p_gM2, p_c2, hM 2 (by omega), if_neg (nI_ge (by omega) (by omega)), p_gM1, p_gM1, p_c1, hM 1 (by omega), b_beR _ hw.1, p_let, show (0 : Int32) = nI 0 from rfl, e1, p_bd2, p_let, nI_1, e3]
    exact ⟨F2, rfl, e6, (sX.up.tr e5).tr e7⟩
/-! a second, and many -/
def sGo (a : Nat → Nat) : Nat → Nat := upN (sDAf (sStf a (sSet a 3 (a 4)) (a 2)) 0 (a 4)) 0 (a 0 + 1)
def sGoN : (Nat → Nat) → Nat → (Nat → Nat)
  | a, 0 => a
  | a, m + 1 => sGoN (sGo a) m
theorem wf_go {a : Nat → Nat} (hw : wf a) : wf (sGo a) := wf_sec (wf_DA _ _ _ (wf_St _ _ hw) (by rw [(kq_St _ _).2.2.2]; omega))
theorem go4 {a : Nat → Nat} : sGo a 4 = a 4 := by
  unfold sGo
  rw [upN_n (by decide), (kp_DA _ _ _).2.2.2.2, (kq_St _ _).2.2.2]
theorem go2 {a : Nat → Nat} : sGo a 2 = a 2 := by
  unfold sGo
  rw [upN_n (by decide), (kp_DA _ _ _).2.2.1, (kq_St _ _).2.1]
theorem wf_goN : ∀ m a, wf a → wf (sGoN a m) := by
  intro m
  induction m with
  | zero => intro a h; exact h
  | succ m ih => intro a h; exact ih _ (wf_go h)
theorem goN4 : ∀ m a, sGoN a m 4 = a 4 := by
  intro m
  induction m with
  | zero => intro a; rfl
  | succ m ih => intro a; exact (ih _).trans go4
theorem c_go1 {N f n : Nat} {i : Nat} {R : Nat → Nat → Int32} {a : Nat → Nat} (hN : 11 ≤ N) (hR : cRel R a) (hw : wf a) (hi : i < n) (hn : n < 100000) : ∃ R', f_X0_goSeconds_L2 N (nI n) (f + 1) (nI i) R = f_X0_goSeconds_L2 N (nI n) f (nI (i + 1)) R' ∧ cRel R' (sGo a) := by
  have h2 := hw.2.1.2
  have h4 := hw.2.2.2.1
  have hu := sSet_256 h4 hw.on
  obtain ⟨R1, e1, e2⟩ := c_steps (N := N) (z1 := nI n) (z2 := nI i) hu (by omega) (a 2) 0 N R a hR hw (by omega) (by omega)
  have w2 := wf_St (u := sSet a 3 (a 4)) (a 2) a hw
  have k := kq_St (u := sSet a 3 (a 4)) (a 2) a
  obtain ⟨R2, e3, e4⟩ := c_dryAll (N := N) (a 4) 0 N R1 _ e2 w2 (by rw [k.2.2.2]; omega) (by omega)
  have ed : f_X0_dryAndRide N R1 = some R2 := by rw [f_X0_dryAndRide, show (0 : Int32) = nI 0 from rfl, e3, p_bd2]
  have e0 : R2 0 0 = nI (a 0) := by rw [e4.1, (kp_DA _ _ _).1, k.1]
  refine ⟨q_up R2 0 0 (nI (a 0 + 1)), ?_, cR_sec e4⟩
  rw [f_X0_goSeconds_L2, if_neg (nI_ge hi (by omega)), p_let, hR.2.2.2.2.2.1, show (0 : Int32) = nI 0 from rfl, e1, p_bd2, ed, p_bd, p_let, p_let, nI_1, e0, nI_1]
theorem c_goAll {N n : Nat} (hN : 11 ≤ N) (hn : n < 100000) : ∀ m i f R a, cRel R a → wf a → i + m = n → m < f → ∃ R', f_X0_goSeconds_L2 N (nI n) f (nI i) R = some (nI n, R') ∧ cRel R' (sGoN a m) := by
  intro m
  induction m with
  | zero =>
    intro i f R a hR hw hi hf
    obtain ⟨f, rfl⟩ : ∃ g, f = g + 1 := ⟨f - 1, by omega⟩
    rw [f_X0_goSeconds_L2, if_pos (nI_le (by omega) (by omega)), show i = n by omega]
    exact ⟨R, rfl, hR⟩
  | succ m ih =>
    intro i f R a hR hw hi hf
    obtain ⟨f, rfl⟩ : ∃ g, f = g + 1 := ⟨f - 1, by omega⟩
    obtain ⟨R', e1, e2⟩ := c_go1 (f := f) hN hR hw (show i < n by omega) hn
    obtain ⟨R2, e3, e4⟩ := ih (i + 1) f R' _ e2 (wf_go hw) (by omega) (by omega)
    rw [e1, e3]
    exact ⟨R2, rfl, e4⟩
theorem c_goN {N n : Nat} {R : Nat → Nat → Int32} {a : Nat → Nat} (hN : 11 ≤ N) (hn : n < N) (hn2 : n < 100000) (hR : cRel R a) (hw : wf a) : ∃ R', f_X0_goSeconds N R (nI n) = some R' ∧ cRel R' (sGoN a n) := by
  obtain ⟨R', e1, e2⟩ := c_goAll hN hn2 n 0 N R a hR hw (by omega) hn
  refine ⟨R', ?_, e2⟩
  rw [f_X0_goSeconds, show (0 : Int32) = nI 0 from rfl, e1, p_bd2]
theorem r_go1 {N : Nat} {F : Nat → Nat → Int32} {G : Nat → Int64} {a : Nat → Nat} (hN : 11 ≤ N) (hM : mRel (F 1) a) (hw : wf a) : ∃ F', f_X4_goes N F G = some F' ∧ mRel (F' 1) (sGo a) ∧ sX F F' := by
  have h2 := hw.2.1.2
  have h4 := hw.2.2.2.1
  have hu := sSet_256 h4 hw.on
  obtain ⟨F1, e1, e2, x1⟩ := r_steps (N := N) (G := G) hu (by omega) (a 2) 0 N F a hM hw (by omega) (by omega)
  have w2 := wf_St (u := sSet a 3 (a 4)) (a 2) a hw
  have k := kq_St (u := sSet a 3 (a 4)) (a 2) a
  obtain ⟨F2, e3, e4, x2⟩ := r_dryAll (N := N) (G := G) (a 4) 0 N F1 _ e2 w2 (by rw [k.2.2.2]; omega) (by omega)
  have ed : f_X4_allDry N F1 G = some F2 := by rw [f_X4_allDry, show (0 : Int32) = nI 0 from rfl, e3, p_bd2]
  have e0 : F2 1 0 = nI (a 0) := by rw [e4 0 (by omega), (kp_DA _ _ _).1, k.1]
  refine ⟨q_up F2 1 0 (nI (a 0 + 1)), ?_, mR_q e4 (by decide), (x1.tr x2).tr sX.up⟩
  rw [f_X4_goes, show (3 : Int32) = nI 3 from rfl, r_set (by decide) hM h4 hw.on (by omega), p_bd, show f_X4_goes_L8 N G (nI (sSet a 3 (a 4))) N (0 : Int32) F = some (nI (a 2), F1) from e1, p_bd2, ed, p_bd, p_gM0, p_gM0, p_let, p_c0, e0, nI_1]
theorem r_goAll {N n : Nat} {G : Nat → Int64} (hN : 11 ≤ N) (hn : n < 100000) : ∀ m i f F a, mRel (F 1) a → wf a → i + m = n → m < f → ∃ F', f_X4_goesFor_L2 N G (nI n) f (nI i) F = some (nI n, F') ∧ mRel (F' 1) (sGoN a m) ∧ sX F F' := by
  intro m
  induction m with
  | zero =>
    intro i f F a hM hw hi hf
    obtain ⟨f, rfl⟩ : ∃ g, f = g + 1 := ⟨f - 1, by omega⟩
    rw [f_X4_goesFor_L2, if_pos (nI_le (by omega) (by omega)), show i = n by omega]
    exact ⟨F, rfl, hM, sX.rf⟩
  | succ m ih =>
    intro i f F a hM hw hi hf
    obtain ⟨f, rfl⟩ : ∃ g, f = g + 1 := ⟨f - 1, by omega⟩
    obtain ⟨F', e1, e2, x1⟩ := r_go1 (N := N) (G := G) hN hM hw
    obtain ⟨F2, e3, e4, x2⟩ := ih (i + 1) f F' _ e2 (wf_go hw) (by omega) (by omega)
    rw [f_X4_goesFor_L2, if_neg (nI_ge (by omega) (by omega)), e1, p_bd, p_let, nI_1, e3]
    exact ⟨F2, rfl, e4, x1.tr x2⟩
theorem r_goN {N n : Nat} {F : Nat → Nat → Int32} {G : Nat → Int64} {a : Nat → Nat} (hN : 11 ≤ N) (hn : n < N) (hn2 : n < 100000) (hM : mRel (F 1) a) (hw : wf a) : ∃ F', f_X4_goesFor N F G (nI n) = some F' ∧ mRel (F' 1) (sGoN a n) ∧ sX F F' := by
  obtain ⟨F', e1, e2, x⟩ := r_goAll (G := G) hN hn2 n 0 N F a hM hw (by omega) hn
  refine ⟨F', ?_, e2, x⟩
  rw [f_X4_goesFor, show (0 : Int32) = nI 0 from rfl, e1, p_bd2]
