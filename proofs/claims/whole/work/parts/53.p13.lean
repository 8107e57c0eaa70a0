/-! ===== pure 13: what is best ===== -/
def dI (W : Nat → Int32) : Int32 → Int32 → Nat → Nat → Int32 × Int32
  | best, cur, _, 0 => (best, cur)
  | best, cur, v, k + 1 => if cur ≤ W v then dI W best cur (v + 1) k else dI W (nI v) (W v) (v + 1) k
def dJ (W : Nat → Int32) : Int32 → Int32 → Nat → Nat → Int32 × Int32
  | best, cur, _, 0 => (best, cur)
  | best, cur, v, k + 1 => if W v ≤ cur then dJ W best cur (v + 1) k else dJ W (nI v) (W v) (v + 1) k
/-- between two thoughts -/
def th (F0 F : Nat → Nat → Int32) : Prop := tk F0 F ∧ tX F0 F
theorem th.m {F0 F : Nat → Nat → Int32} {a : Nat → Nat} (h : th F0 F) (hM : mRel (F0 1) a) (h4 : a 4 ≤ 8) : mRel (F 1) a := mR_cong hM h4 h.2.2
theorem th_think {N : Nat} {F : Nat → Nat → Int32} {G : Nat → Int64} (hN : 600 ≤ N) : ∃ F1, f_X4_thinks N F G = some F1 ∧ th F F1 := by
  obtain ⟨F1, e1, e2, e3⟩ := tk_think (N := N) (F := F) (G := G) hN
  exact ⟨F1, e1, e2, e2.1, fun k _ => by rw [e3]⟩
theorem th.back {N : Nat} {F0 F F2 : Nat → Nat → Int32} {G : Nat → Int64} (hN : 600 ≤ N) (h : th F0 F) (x : sX F F2) : ∃ F3, f_X4_putsBack N F2 G = some F3 ∧ th F0 F3 := by
  obtain ⟨F3, e1, e2, e3⟩ := (h.1.x x).back (N := N) (G := G) hN
  exact ⟨F3, e1, e2, e3⟩
section PR6
variable {N : Nat} {b R T K P B F : Nat → Nat → Int32} {L : Nat → Nat → Int64} {G : Nat → Int64} {p1 p2 : Int32} {a : Nat → Nat} {i n : Nat}
def Wv (a : Nat → Nat) (i n x c : Nat) : Nat → Int32 := fun v => nI (sGoN (upN a x v) n (c + 8 * i))
theorem r_driest_L {F0 : Nat → Nat → Int32} {x lo hi : Nat} (hN : 600 ≤ N) (hn : n < 500) (hx : x < 69) (hx4 : x ≠ 4) (hM : mRel (F0 1) a) (hw : wf a) (hi8 : i < a 4) (hh : hi < 100) (hv : ∀ v, lo ≤ v → v ≤ hi → wf (upN a x v)) : ∀ k v f best cur F, lo ≤ v → v + k = hi + 1 → k < f → th F0 F → ∃ F', f_X4_driest_L14 N G (nI x) (nI hi) (nI i) (nI n) f best cur (nI v) F = some ((dI (Wv a i n x 9) best cur v k).1, (dI (Wv a i n x 9) best cur v k).2, nI (hi + 1), F') ∧ th F0 F' := by
  have h4 := hw.2.2.2.1
  intro k
  induction k with
  | zero =>
    intro v f best cur F hl hk hf ht
    obtain ⟨f, rfl⟩ : ∃ g, f = g + 1 := ⟨f - 1, by omega⟩
    rw [f_X4_driest_L14, if_pos (nI_lt (by omega) (by omega)), show v = hi + 1 by omega]
    exact ⟨F, rfl, ht⟩
  | succ k ih =>
    intro v f best cur F hl hk hf ht
    obtain ⟨f, rfl⟩ : ∃ g, f = g + 1 := ⟨f - 1, by omega⟩
    have w1 := hv v hl (by omega)
    have m1 := mR_q (v := v) (ht.m hM h4) hx4
    obtain ⟨F2, e1, e2, e3⟩ := r_goN (N := N) (G := G) (n := n) (by omega) (by omega) (by omega) m1 w1
    obtain ⟨F3, e4, e5⟩ := ht.back (N := N) (G := G) hN (sX.up.tr e3)
    have e6 : F2 1 (9 + 8 * i) = Wv a i n x 9 v := e2 _ (by rw [goN4, upN_n (Ne.symm hx4)]; omega)
    rw [f_X4_driest_L14, if_neg (nI_nlt (by omega) (by omega)), p_grd _ hx (by decide), p_let, p_cl (by omega), e1, p_bd, r_it4 (by omega), p_bd, e4, p_bd, e6, dI]
    simp only [p_let, nI_1]
    by_cases q : cur ≤ Wv a i n x 9 v
    · rw [if_pos q, if_pos q, if_pos q]
      exact ih (v + 1) f best cur F3 (by omega) (by omega) (by omega) e5
    · rw [if_neg q, if_neg q, if_neg q]
      exact ih (v + 1) f (nI v) _ F3 (by omega) (by omega) (by omega) e5
theorem r_driest {x lo hi : Nat} (hN : 600 ≤ N) (hn : n < 500) (hx : x < 69) (hx4 : x ≠ 4) (hM : mRel (F 1) a) (hw : wf a) (hi8 : i < a 4) (hh : hi < 100) (hlo : lo ≤ hi) (hv : ∀ v, lo ≤ v → v ≤ hi → wf (upN a x v)) : ∃ F', f_X4_driest N F G (nI x) (nI lo) (nI hi) (nI i) (nI n) = some ((dI (Wv a i n x 9) (nI lo) 100 lo (hi + 1 - lo)).1, F') ∧ tX F F' := by
  obtain ⟨F1, e1, e2⟩ := th_think (N := N) (F := F) (G := G) hN
  obtain ⟨F2, e3, e4⟩ := r_driest_L (N := N) (G := G) hN hn hx hx4 hM hw hi8 hh hv (hi + 1 - lo) lo N (nI lo) 100 F1 (Nat.le_refl _) (by omega) (by omega) e2
  refine ⟨F2, ?_, e4.2⟩
  rw [f_X4_driest, e1, p_bd, e3, p_bd4]
theorem c_speed_L (hN : 600 ≤ N) (hn : n < 500) (hR : cRel R a) (hw : wf a) (hi : i < a 4) : ∀ k v f best cur T, 1 ≤ v → v + k = 11 → k < f → ∃ T', f_X3_speed_L37 N b R K P B L (nI i) (nI n) f best cur (nI v) T = some ((dI (Wv a i n 2 9) best cur v k).1, (dI (Wv a i n 2 9) best cur v k).2, nI 11, T') := by
  have h4 := hw.2.2.2.1
  have h8 : i < 8 := by omega
  intro k
  induction k with
  | zero =>
    intro v f best cur T hl hk hf
    obtain ⟨f, rfl⟩ : ∃ g, f = g + 1 := ⟨f - 1, by omega⟩
    rw [f_X3_speed_L37, if_pos (show (10 : Int32) < nI v from nI_lt (a := 10) (by omega) (by omega)), show v = 11 by omega]
    exact ⟨T, rfl⟩
  | succ k ih =>
    intro v f best cur T hl hk hf
    obtain ⟨f, rfl⟩ : ∃ g, f = g + 1 := ⟨f - 1, by omega⟩
    obtain ⟨T1, e1, e2⟩ := c_bec (N := N) (F := T) (by omega) hR hw
    have w1 : wf (upN a 2 v) := wf_spd hw (by omega)
    obtain ⟨T2, e3, e4⟩ := c_goN (N := N) (n := n) (by omega) (by omega) (by omega) (cR_spd e2) w1
    have hi2 : i < sGoN (upN a 2 v) n 4 := by rw [goN4, upN_n (by omega)]; exact hi
    have e6 : T2 4 i = Wv a i n 2 9 v := (e4.2.2.2.2.2.2.2 i hi2).2.2.2.1
    rw [f_X3_speed_L37, if_neg (show ¬ (10 : Int32) < nI v from nI_nlt (a := 10) (by omega) (by omega)), e1, p_bd, p_let, e3, p_bd, p_grd _ h8 (by decide), p_grd _ h8 (by decide), p_cl (by omega), e6, dI]
    simp only [p_let, nI_1]
    by_cases q : cur ≤ Wv a i n 2 9 v
    · rw [if_pos q, if_pos q]
      exact ih (v + 1) f best cur T2 (by omega) (by omega) (by omega)
    · rw [if_neg q, if_neg q]
      exact ih (v + 1) f (nI v) _ T2 (by omega) (by omega) (by omega)
theorem c_kind_L (hN : 600 ≤ N) (hn : n < 500) (hR : cRel R a) (hw : wf a) (hi : i < a 4) : ∀ k v f best cur T, 0 ≤ v → v + k = 6 → k < f → ∃ T', f_X3_kind_L37 N b R K P B L (nI i) (nI n) f best cur (nI v) T = some ((dI (Wv a i n (5 + 8 * i) 9) best cur v k).1, (dI (Wv a i n (5 + 8 * i) 9) best cur v k).2, nI 6, T') := by
  have h4 := hw.2.2.2.1
  have h8 : i < 8 := by omega
  intro k
  induction k with
  | zero =>
    intro v f best cur T hl hk hf
    obtain ⟨f, rfl⟩ : ∃ g, f = g + 1 := ⟨f - 1, by omega⟩
    rw [f_X3_kind_L37, if_pos (show (5 : Int32) < nI v from nI_lt (a := 5) (by omega) (by omega)), show v = 6 by omega]
    exact ⟨T, rfl⟩
  | succ k ih =>
    intro v f best cur T hl hk hf
    obtain ⟨f, rfl⟩ : ∃ g, f = g + 1 := ⟨f - 1, by omega⟩
    obtain ⟨T1, e1, e2⟩ := c_bec (N := N) (F := T) (by omega) hR hw
    have w1 : wf (upN a (5 + 8 * i) v) := wf_kind hw hi (by omega)
    obtain ⟨T2, e3, e4⟩ := c_goN (N := N) (n := n) (by omega) (by omega) (by omega) (cR_kind e2 hi) w1
    have hi2 : i < sGoN (upN a (5 + 8 * i) v) n 4 := by rw [goN4, upN_n (by omega)]; exact hi
    have e6 : T2 4 i = Wv a i n (5 + 8 * i) 9 v := (e4.2.2.2.2.2.2.2 i hi2).2.2.2.1
    rw [f_X3_kind_L37, if_neg (show ¬ (5 : Int32) < nI v from nI_nlt (a := 5) (by omega) (by omega)), e1, p_bd, p_grd _ h8 (by decide), p_let, p_cl (by omega), e3, p_bd, p_grd _ h8 (by decide), p_grd _ h8 (by decide), e6, dI]
    simp only [p_let, nI_1]
    by_cases q : cur ≤ Wv a i n (5 + 8 * i) 9 v
    · rw [if_pos q, if_pos q]
      exact ih (v + 1) f best cur T2 (by omega) (by omega) (by omega)
    · rw [if_neg q, if_neg q]
      exact ih (v + 1) f (nI v) _ T2 (by omega) (by omega) (by omega)
theorem c_far_L (hN : 600 ≤ N) (hn : n < 500) (hR : cRel R a) (hw : wf a) (hi : i < a 4) : ∀ k v f best cur T, 0 ≤ v → v + k = 10 → k < f → ∃ T', f_X3_far_L36 N b R K P B L (nI i) (nI n) f best cur (nI v) T = some ((dJ (Wv a i n (7 + 8 * i) 12) best cur v k).1, (dJ (Wv a i n (7 + 8 * i) 12) best cur v k).2, nI 10, T') := by
  have h4 := hw.2.2.2.1
  have h8 : i < 8 := by omega
  intro k
  induction k with
  | zero =>
    intro v f best cur T hl hk hf
    obtain ⟨f, rfl⟩ : ∃ g, f = g + 1 := ⟨f - 1, by omega⟩
    rw [f_X3_far_L36, if_pos (show (9 : Int32) < nI v from nI_lt (a := 9) (by omega) (by omega)), show v = 10 by omega]
    exact ⟨T, rfl⟩
  | succ k ih =>
    intro v f best cur T hl hk hf
    obtain ⟨f, rfl⟩ : ∃ g, f = g + 1 := ⟨f - 1, by omega⟩
    obtain ⟨T1, e1, e2⟩ := c_bec (N := N) (F := T) (by omega) hR hw
    have w1 : wf (upN a (7 + 8 * i) v) := wf_out hw hi (by omega)
    obtain ⟨T2, e3, e4⟩ := c_goN (N := N) (n := n) (by omega) (by omega) (by omega) (cR_out e2 hi) w1
    have hi2 : i < sGoN (upN a (7 + 8 * i) v) n 4 := by rw [goN4, upN_n (by omega)]; exact hi
    have e6 : T2 6 i = Wv a i n (7 + 8 * i) 12 v := (e4.2.2.2.2.2.2.2 i hi2).2.2.2.2.2
    rw [f_X3_far_L36, if_neg (show ¬ (9 : Int32) < nI v from nI_nlt (a := 9) (by omega) (by omega)), e1, p_bd, p_grd _ h8 (by decide), p_let, p_cl (by omega), e3, p_bd, p_grd _ h8 (by decide), p_grd _ h8 (by decide), e6, dJ]
    simp only [p_let, nI_1]
    by_cases q : Wv a i n (7 + 8 * i) 12 v ≤ cur
    · rw [if_pos q, if_pos q]
      exact ih (v + 1) f best cur T2 (by omega) (by omega) (by omega)
    · rw [if_neg q, if_neg q]
      exact ih (v + 1) f (nI v) _ T2 (by omega) (by omega) (by omega)
theorem r_far_L {F0 : Nat → Nat → Int32} (hN : 600 ≤ N) (hn : n < 500) (hM : mRel (F0 1) a) (hw : wf a) (hi8 : i < a 4) : ∀ k v f best cur F, v + k = 10 → k < f → th F0 F → ∃ F', f_X4_far_L38 N G (nI i) (nI n) f best cur (nI v) F = some ((dJ (Wv a i n (7 + 8 * i) 12) best cur v k).1, (dJ (Wv a i n (7 + 8 * i) 12) best cur v k).2, nI 10, F') ∧ th F0 F' := by
  have h4 := hw.2.2.2.1
  have h8 : i < 8 := by omega
  intro k
  induction k with
  | zero =>
    intro v f best cur F hk hf ht
    obtain ⟨f, rfl⟩ : ∃ g, f = g + 1 := ⟨f - 1, by omega⟩
    rw [f_X4_far_L38, if_pos (show (9 : Int32) < nI v from nI_lt (a := 9) (by omega) (by omega)), show v = 10 by omega]
    exact ⟨F, rfl, ht⟩
  | succ k ih =>
    intro v f best cur F hk hf ht
    obtain ⟨f, rfl⟩ : ∃ g, f = g + 1 := ⟨f - 1, by omega⟩
    have w1 : wf (upN a (7 + 8 * i) v) := wf_out hw hi8 (by omega)
    have m1 := mR_q (v := v) (ht.m hM h4) (show 7 + 8 * i ≠ 4 by omega)
    obtain ⟨F2, e1, e2, e3⟩ := r_goN (N := N) (G := G) (n := n) (by omega) (by omega) (by omega) m1 w1
    obtain ⟨F3, e4, e5⟩ := ht.back (N := N) (G := G) hN (sX.up.tr e3)
    have e6 : F2 1 (12 + 8 * i) = Wv a i n (7 + 8 * i) 12 v := e2 _ (by rw [goN4, upN4 (by omega)]; omega)
    rw [f_X4_far_L38, if_neg (show ¬ (9 : Int32) < nI v from nI_nlt (a := 9) (by omega) (by omega)), r_put2 h8, p_bd, e1, p_bd, r_it7 h8, p_bd, e4, p_bd, e6, dJ]
    simp only [p_let, nI_1]
    by_cases q : Wv a i n (7 + 8 * i) 12 v ≤ cur
    · rw [if_pos q, if_pos q, if_pos q]
      exact ih (v + 1) f best cur F3 (by omega) (by omega) e5
    · rw [if_neg q, if_neg q, if_neg q]
      exact ih (v + 1) f (nI v) _ F3 (by omega) (by omega) e5
theorem pr_speed (h : gRel b R K P B L F G) (hN : 600 ≤ N) : ∃ r b' T' F', f_X3_speed N b R T K P B L p1 p2 = some (r, b', T') ∧ f_X4_speed N F G p1 p2 = some (r, F') ∧ gRel b' R K P B L F' G := by
  obtain ⟨a, hw, hR, hM⟩ := h.1
  have h4 := hw.2.2.2.1
  rw [f_X3_speed, f_X4_speed, c_has hR.2.2.2.2.1, r_has (hM 4 (by omega)) h4, p_bd, p_bd]
  by_cases c : hasI (a 4) p1
  · rw [bI_t c, if_neg z10, if_neg z10, c_within, r_in, p_bd, p_bd]
    obtain ⟨i, hi, rfl⟩ := hasI_of (by omega) c
    by_cases d : (1 : Int32) ≤ p2 ∧ p2 ≤ 120
    · rw [bI_t d, if_neg z10, if_neg z10]
      obtain ⟨n, hn1, hn, rfl⟩ := rngL (l := 1) (h := 120) (by decide) (by decide) d
      obtain ⟨T1, e1⟩ := c_speed_L (N := N) (b := b) (K := K) (P := P) (B := B) (L := L) (n := n) hN (by omega) hR hw hi 10 1 N 1 100 T (by omega) (by omega) (by omega)
      obtain ⟨F1, e2, e3⟩ := r_driest (N := N) (G := G) (n := n) (x := 2) (lo := 1) (hi := 10) hN (by omega) (by decide) (by decide) hM hw hi (by decide) (by decide) (fun v h1 h2 => wf_spd hw (by omega))
      rw [show f_X3_speed_L37 N b R K P B L (nI i) (nI n) N 1 100 1 T = _ from e1, p_bd4, show f_X4_driest N F G 2 1 10 (nI i) (nI n) = _ from e2, p_bd2]
      exact ⟨_, _, _, _, rfl, rfl, h.thk e3⟩
    · rw [bI_f d, if_pos rfl, if_pos rfl, f_X3_speed_B21, f_X4_speed_B32, c_f0, r_f0, p_bd2, p_bd2]
      exact ⟨_, _, _, _, rfl, rfl, h.fnd⟩
  · rw [bI_f c, if_pos rfl, if_pos rfl, f_X3_speed_B21, f_X4_speed_B32, c_f0, r_f0, p_bd2, p_bd2]
    exact ⟨_, _, _, _, rfl, rfl, h.fnd⟩
theorem pr_kind (h : gRel b R K P B L F G) (hN : 600 ≤ N) : ∃ r b' T' F', f_X3_kind N b R T K P B L p1 p2 = some (r, b', T') ∧ f_X4_kind N F G p1 p2 = some (r, F') ∧ gRel b' R K P B L F' G := by
  obtain ⟨a, hw, hR, hM⟩ := h.1
  have h4 := hw.2.2.2.1
  rw [f_X3_kind, f_X4_kind, c_has hR.2.2.2.2.1, r_has (hM 4 (by omega)) h4, p_bd, p_bd]
  by_cases c : hasI (a 4) p1
  · rw [bI_t c, if_neg z10, if_neg z10, c_within, r_in, p_bd, p_bd]
    obtain ⟨i, hi, rfl⟩ := hasI_of (by omega) c
    by_cases d : (1 : Int32) ≤ p2 ∧ p2 ≤ 120
    · rw [bI_t d, if_neg z10, if_neg z10]
      obtain ⟨n, hn1, hn, rfl⟩ := rngL (l := 1) (h := 120) (by decide) (by decide) d
      obtain ⟨T1, e1⟩ := c_kind_L (N := N) (b := b) (K := K) (P := P) (B := B) (L := L) (n := n) hN (by omega) hR hw hi 6 0 N 0 100 T (by omega) (by omega) (by omega)
      obtain ⟨F1, e2, e3⟩ := r_driest (N := N) (G := G) (n := n) (x := 5 + 8 * i) (lo := 0) (hi := 5) hN (by omega) (by omega) (by omega) hM hw hi (by decide) (by decide) (fun v h1 h2 => wf_kind hw hi (by omega))
      have ix : (5 : Int32) + 8 * nI i = nI (5 + 8 * i) := by rw [show (5 : Int32) = nI 5 from rfl, show (8 : Int32) = nI 8 from rfl, pk_mul, nI_add]
      rw [show f_X3_kind_L37 N b R K P B L (nI i) (nI n) N 0 100 0 T = _ from e1, p_bd4, ix, show f_X4_driest N F G (nI (5 + 8 * i)) 0 5 (nI i) (nI n) = _ from e2, p_bd2]
      exact ⟨_, _, _, _, rfl, rfl, h.thk e3⟩
    · rw [bI_f d, if_pos rfl, if_pos rfl, f_X3_kind_B21, f_X4_kind_B36, c_f0, r_f0, p_bd2, p_bd2]
      exact ⟨_, _, _, _, rfl, rfl, h.fnd⟩
  · rw [bI_f c, if_pos rfl, if_pos rfl, f_X3_kind_B21, f_X4_kind_B36, c_f0, r_f0, p_bd2, p_bd2]
    exact ⟨_, _, _, _, rfl, rfl, h.fnd⟩
theorem pr_far (h : gRel b R K P B L F G) (hN : 600 ≤ N) : ∃ r b' T' F', f_X3_far N b R T K P B L p1 p2 = some (r, b', T') ∧ f_X4_far N F G p1 p2 = some (r, F') ∧ gRel b' R K P B L F' G := by
  obtain ⟨a, hw, hR, hM⟩ := h.1
  have h4 := hw.2.2.2.1
  rw [f_X3_far, f_X4_far, c_has hR.2.2.2.2.1, r_has (hM 4 (by omega)) h4, p_bd, p_bd]
  by_cases c : hasI (a 4) p1
  · rw [bI_t c, if_neg z10, if_neg z10, c_within, r_in, p_bd, p_bd]
    obtain ⟨i, hi, rfl⟩ := hasI_of (by omega) c
    by_cases d : (1 : Int32) ≤ p2 ∧ p2 ≤ 120
    · rw [bI_t d, if_neg z10, if_neg z10]
      obtain ⟨n, hn1, hn, rfl⟩ := rngL (l := 1) (h := 120) (by decide) (by decide) d
      obtain ⟨T1, e1⟩ := c_far_L (N := N) (b := b) (K := K) (P := P) (B := B) (L := L) (n := n) hN (by omega) hR hw hi 10 0 N 0 (-1) T (by omega) (by omega) (by omega)
      obtain ⟨F1, e2, e3⟩ := th_think (N := N) (F := F) (G := G) hN
      obtain ⟨F2, e4, e5⟩ := r_far_L (N := N) (G := G) (n := n) hN (by omega) hM hw hi 10 0 N 0 (-1) F1 (by omega) (by omega) e3
      rw [show f_X3_far_L36 N b R K P B L (nI i) (nI n) N 0 (-1) 0 T = _ from e1, p_bd4, e2, p_bd, show f_X4_far_L38 N G (nI i) (nI n) N 0 (-1) 0 F1 = _ from e4, p_bd4]
      exact ⟨_, _, _, _, rfl, rfl, h.thk e5.2⟩
    · rw [bI_f d, if_pos rfl, if_pos rfl, f_X3_far_B21, f_X4_far_B19, c_f0, r_f0, p_bd2, p_bd2]
      exact ⟨_, _, _, _, rfl, rfl, h.fnd⟩
  · rw [bI_f c, if_pos rfl, if_pos rfl, f_X3_far_B21, f_X4_far_B19, c_f0, r_f0, p_bd2, p_bd2]
    exact ⟨_, _, _, _, rfl, rfl, h.fnd⟩
/-! thick -/
def ft (q : Nat → Bool) : Nat → Nat → Option Nat
  | _, 0 => none
  | v, k + 1 => if q v then some v else ft q (v + 1) k
theorem ft_rng {q : Nat → Bool} : ∀ k v m, ft q v k = some m → v ≤ m ∧ m < v + k := by
  intro k
  induction k with
  | zero => intro v m h; cases h
  | succ k ih =>
    intro v m h
    rw [ft] at h
    by_cases e : q v = true
    · rw [if_pos e] at h
      cases h
      omega
    · rw [if_neg e] at h
      have := ih _ _ h
      omega
def qT (a : Nat → Nat) (n p : Nat) (v : Nat) : Bool := decide (p ≤ pop8 (sSet (sGoN (upN a 3 v) n) 3 (a 4)))
theorem c_thick_L {p : Nat} (hN : 600 ≤ N) (hn : n < 500) (hp : p < 100) (hR : cRel R a) (hw : wf a) : ∀ k v f T, 1 ≤ v → v + k = 41 → k < f → ∃ T', f_X3_thick_L29 N b R K P B L (nI n) (nI p) f (nI v) T = some (cres (ft (qT a n p) v k), bres b (ft (qT a n p) v k), T') := by
  intro k
  induction k with
  | zero =>
    intro v f T hl hk hf
    obtain ⟨f, rfl⟩ : ∃ g, f = g + 1 := ⟨f - 1, by omega⟩
    rw [f_X3_thick_L29, if_pos (show (40 : Int32) < nI v from nI_lt (a := 40) (by omega) (by omega)), c_f3, p_bd2]
    exact ⟨T, rfl⟩
  | succ k ih =>
    intro v f T hl hk hf
    obtain ⟨f, rfl⟩ : ∃ g, f = g + 1 := ⟨f - 1, by omega⟩
    obtain ⟨T1, e1, e2⟩ := c_bec (N := N) (F := T) (by omega) hR hw
    have w1 : wf (upN a 3 v) := wf_thk hw (by omega)
    obtain ⟨T2, e3, e4⟩ := c_goN (N := N) (n := n) (by omega) (by omega) (by omega) (cR_thk e2) w1
    have w2 := wf_goN n _ w1
    have k4 : sGoN (upN a 3 v) n 4 = a 4 := by rw [goN4, upN_n (by decide)]
    have h256 := sSet_256 w2.2.2.2.1 w2.on
    have h9 := b_pop9 _ h256
    rw [f_X3_thick_L29, if_neg (show ¬ (40 : Int32) < nI v from nI_nlt (a := 40) (by omega) (by omega)), e1, p_bd, p_let, e3, p_bd, e4.2.2.2.2.2.1, b_pop N _ h256, p_bd, i_lt (by omega) (by omega), ft]
    rw [k4] at h9 ⊢
    by_cases q : qT a n p v = true
    · have q1 := q
      unfold qT at q1
      rw [decide_eq_true_iff] at q1
      rw [if_neg (by omega), if_pos q]
      exact ⟨T2, rfl⟩
    · have q1 := q
      unfold qT at q1
      rw [decide_eq_true_iff] at q1
      rw [if_pos (by omega), if_neg q, p_let, nI_1]
      exact ih (v + 1) f T2 (by omega) (by omega) (by omega)
theorem r_thick_L {F0 : Nat → Nat → Int32} {p : Nat} (hN : 600 ≤ N) (hn : n < 500) (hp : p < 100) (hM : mRel (F0 1) a) (hw : wf a) : ∀ k v f F, 1 ≤ v → v + k = 41 → k + 1 < f → th F0 F → ∃ z F', f_X4_thick_L38 N G (nI n) (nI p) f (-1) (nI v) F = some (nres (ft (qT a n p) v k), z, F') ∧ th F0 F' := by
  have h4 := hw.2.2.2.1
  intro k
  induction k with
  | zero =>
    intro v f F hl hk hf ht
    obtain ⟨f, rfl⟩ : ∃ g, f = g + 1 := ⟨f - 1, by omega⟩
    rw [f_X4_thick_L38, if_pos (show (40 : Int32) < nI v from nI_lt (a := 40) (by omega) (by omega))]
    exact ⟨_, F, rfl, ht⟩
  | succ k ih =>
    intro v f F hl hk hf ht
    obtain ⟨f, rfl⟩ : ∃ g, f = g + 1 := ⟨f - 1, by omega⟩
    have w1 : wf (upN a 3 v) := wf_thk hw (by omega)
    have m1 := mR_q (v := v) (ht.m hM h4) (show 3 ≠ 4 by decide)
    obtain ⟨F2, e1, e2, e3⟩ := r_goN (N := N) (G := G) (n := n) (by omega) (by omega) (by omega) m1 w1
    obtain ⟨F3, e4, e5⟩ := ht.back (N := N) (G := G) hN (sX.up.tr e3)
    have w2 := wf_goN n _ w1
    have k4 : sGoN (upN a 3 v) n 4 = a 4 := by rw [goN4, upN_n (by decide)]
    have h256 := sSet_256 w2.2.2.2.1 w2.on
    have h9 := b_pop9 _ h256
    rw [f_X4_thick_L38, if_neg (show ¬ (40 : Int32) < nI v from nI_nlt (a := 40) (by omega) (by omega)), if_neg (by decide), p_gM3, p_let, p_c3, e1, p_bd, show (3 : Int32) = nI 3 from rfl, r_set (by decide) e2 w2.2.2.2.1 w2.on (by omega), p_bd, r_bits h256 (by omega), p_bd, i_lt (by omega) (by omega), e4, p_bd, ft]
    rw [k4] at h9 ⊢
    by_cases q : qT a n p v = true
    · have q1 := q
      unfold qT at q1
      rw [decide_eq_true_iff] at q1
      rw [if_neg (by omega), if_pos q, p_bd, p_let, nI_1]
      obtain ⟨f, rfl⟩ : ∃ g, f = g + 1 := ⟨f - 1, by omega⟩
      rw [f_X4_thick_L38]
      by_cases z : (40 : Int32) < nI (v + 1)
      · rw [if_pos z]
        exact ⟨_, F3, rfl, e5⟩
      · rw [if_neg z, if_pos (nI_pos' (by omega))]
        exact ⟨_, F3, rfl, e5⟩
    · have q1 := q
      unfold qT at q1
      rw [decide_eq_true_iff] at q1
      rw [if_pos (by omega), if_neg q, p_let, nI_1]
      exact ih (v + 1) f F3 (by omega) (by omega) (by omega) e5
theorem pr_thick (h : gRel b R K P B L F G) (hN : 600 ≤ N) : ∃ r b' T' F', f_X3_thick N b R T K P B L p1 p2 = some (r, b', T') ∧ f_X4_thick N F G p1 p2 = some (r, F') ∧ gRel b' R K P B L F' G := by
  obtain ⟨a, hw, hR, hM⟩ := h.1
  rw [f_X3_thick, f_X4_thick, c_within, r_in, p_bd, p_bd]
  by_cases c : (0 : Int32) ≤ p1 ∧ p1 ≤ 120
  · rw [bI_t c, if_neg z10, if_neg z10, c_within, r_in, p_bd, p_bd]
    obtain ⟨n, -, hn, rfl⟩ := rngL (l := 0) (h := 120) (by decide) (by decide) c
    by_cases d : (0 : Int32) ≤ p2 ∧ p2 ≤ 8
    · rw [bI_t d, if_neg z10, if_neg z10]
      obtain ⟨p, -, hp, rfl⟩ := rngL (l := 0) (h := 8) (by decide) (by decide) d
      obtain ⟨T1, e1⟩ := c_thick_L (N := N) (b := b) (K := K) (P := P) (B := B) (L := L) (n := n) (p := p) hN (by omega) (by omega) hR hw 40 1 N T (by omega) (by omega) (by omega)
      obtain ⟨F1, e2, e3⟩ := th_think (N := N) (F := F) (G := G) hN
      obtain ⟨z, F2, e4, e5⟩ := r_thick_L (N := N) (G := G) (n := n) (p := p) hN (by omega) (by omega) hM hw 40 1 N F1 (by omega) (by omega) (by omega) e3
      rw [show f_X3_thick_L29 N b R K P B L (nI n) (nI p) N 1 T = _ from e1, e2, p_bd, show f_X4_thick_L38 N G (nI n) (nI p) N (-1) 1 F1 = _ from e4, p_bd3, f_X4_thick_B91, r_orN (M := 400) (fun m hm => by have := ft_rng _ _ _ hm; omega), p_bd2]
      exact ⟨_, _, _, _, rfl, rfl, pr_end (h.thk e5.2)⟩
    · rw [bI_f d, if_pos rfl, if_pos rfl, f_X3_thick_B20, f_X4_thick_B22, c_f0, r_f0, p_bd2, p_bd2]
      exact ⟨_, _, _, _, rfl, rfl, h.fnd⟩
  · rw [bI_f c, if_pos rfl, if_pos rfl, f_X3_thick_B20, f_X4_thick_B22, c_f0, r_f0, p_bd2, p_bd2]
    exact ⟨_, _, _, _, rfl, rfl, h.fnd⟩
/-! save -/
def sv (W : Nat → Nat) (q : Nat → Bool) : Option Nat → Nat → Nat → Nat → Option Nat × Nat
  | o, c, _, 0 => (o, c)
  | o, c, v, k + 1 => if q v then (if c ≤ W v then sv W q o c (v + 1) k else sv W q (some v) (W v) (v + 1) k) else sv W q o c (v + 1) k
theorem sv_rng {W : Nat → Nat} {q : Nat → Bool} {z : Nat} : ∀ k o c v, v + k ≤ z → (∀ m, o = some m → m < z) → ∀ m, (sv W q o c v k).1 = some m → m < z := by
  intro k
  induction k with
  | zero => intro o c v _ h m hm; exact h m hm
  | succ k ih =>
    intro o c v hz h m hm
    rw [sv] at hm
    by_cases e : q v = true
    · rw [if_pos e] at hm
      by_cases d : c ≤ W v
      · rw [if_pos d] at hm
        exact ih o c (v + 1) (by omega) h m hm
      · rw [if_neg d] at hm
        exact ih (some v) (W v) (v + 1) (by omega) (fun m hm => by cases hm; omega) m hm
    · rw [if_neg e] at hm
      exact ih o c (v + 1) (by omega) h m hm
def Ws (a : Nat → Nat) (n v : Nat) : Nat := pop8 (sSet (sGoN (sOff a v (a 1)) n) 6 (a 4))
theorem Ws_lt {a : Nat → Nat} {v : Nat} (hw : wf a) (hv : v < a 4) : Ws a n v < 9 := by
  have w2 := wf_goN n _ (wf_sOff hw hv hw.1)
  have k4 : sGoN (sOff a v (a 1)) n 4 = a 4 := by rw [goN4, kp_off.2.2.2.2]
  have := sSet_256 w2.2.2.2.1 w2.lost
  rw [k4] at this
  exact b_pop9 _ this
theorem c_save_L (hN : 600 ≤ N) (hn : n < 500) (hR : cRel R a) (hw : wf a) : ∀ k v f o c T, v + k = a 4 → k < f → c ≤ 9 → ∃ T', f_X3_save_L26 N b R K P B L (nI n) f (cres o) (nI c) (nI v) T = some (cres (sv (Ws a n) (fun v => ev0 v a) o c v k).1, nI (sv (Ws a n) (fun v => ev0 v a) o c v k).2, nI (a 4), T') := by
  have h4 := hw.2.2.2.1
  intro k
  induction k with
  | zero =>
    intro v f o c T hk hf hc
    obtain ⟨f, rfl⟩ : ∃ g, f = g + 1 := ⟨f - 1, by omega⟩
    rw [f_X3_save_L26, hR.2.2.2.2.1, if_pos (nI_le (by omega) (by omega)), show v = a 4 by omega]
    exact ⟨T, rfl⟩
  | succ k ih =>
    intro v f o c T hk hf hc
    obtain ⟨f, rfl⟩ : ∃ g, f = g + 1 := ⟨f - 1, by omega⟩
    have hv : v < a 4 := by omega
    have hon := (hw.2.2.2.2 v hv).2.2.2.1
    rw [f_X3_save_L26, hR.2.2.2.2.1, if_neg (nI_ge (by omega) (by omega)), c_on hR hw hv, p_bd, i_e0 (by omega), sv]
    rcases le1 hon with d | d
    · rw [if_pos d, show (9 : Int32) = nI 9 from rfl, if_pos (nI_le hc (by omega)), p_let, nI_1, if_neg (show ¬ ev0 v a = true by unfold ev0; rw [decide_eq_true_iff]; omega)]
      exact ih (v + 1) f o c T (by omega) (by omega) hc
    · rw [if_neg (by omega), if_pos (show ev0 v a = true by unfold ev0; rw [decide_eq_true_iff]; exact d)]
      obtain ⟨T1, e1, e2⟩ := c_bec (N := N) (F := T) (by omega) hR hw
      obtain ⟨T2, e3, e4⟩ := c_goOff (N := N) e2 hw hv
      have w1 := wf_sOff hw hv hw.1
      obtain ⟨T3, e5, e6⟩ := c_goN (N := N) (n := n) (by omega) (by omega) (by omega) e4 w1
      have w2 := wf_goN n _ w1
      have k4 : sGoN (sOff a v (a 1)) n 4 = a 4 := by rw [goN4, kp_off.2.2.2.2]
      have h256 := sSet_256 w2.2.2.2.1 w2.lost
      have el : f_X3_lostWithout N b R T K P B L (nI v) (nI n) = some (nI (Ws a n v), T3) := by
        rw [f_X3_lostWithout, e1, p_bd, e3, p_bd, e5, p_bd, e6.2.2.2.2.2.2.1, b_pop N _ h256, p_bd, k4]
        rfl
      have h9 := Ws_lt (n := n) hw hv
      rw [el, p_bd2, i_le (by omega) (by omega)]
      by_cases q : c ≤ Ws a n v
      · rw [if_pos q, if_pos q, p_let, nI_1]
        exact ih (v + 1) f o c T3 (by omega) (by omega) hc
      · rw [if_neg q, if_neg q, p_let, nI_1]
        exact ih (v + 1) f (some v) _ T3 (by omega) (by omega) (by omega)
theorem r_save_L {F0 : Nat → Nat → Int32} (hN : 600 ≤ N) (hn : n < 500) (hM : mRel (F0 1) a) (hw : wf a) : ∀ k v f o c F, v + k = a 4 → k < f → c ≤ 9 → th F0 F → ∃ F', f_X4_save_L30 N G (nI n) f (nres o) (nI c) (nI v) F = some (nres (sv (Ws a n) (fun v => ev0 v a) o c v k).1, nI (sv (Ws a n) (fun v => ev0 v a) o c v k).2, nI (a 4), F') ∧ th F0 F' := by
  have h4 := hw.2.2.2.1
  intro k
  induction k with
  | zero =>
    intro v f o c F hk hf hc ht
    have hm := ht.m hM h4
    obtain ⟨f, rfl⟩ : ∃ g, f = g + 1 := ⟨f - 1, by omega⟩
    rw [f_X4_save_L30, p_gM4, p_c4, hm 4 (by omega), if_pos (nI_le (by omega) (by omega)), show v = a 4 by omega]
    exact ⟨F, rfl, ht⟩
  | succ k ih =>
    intro v f o c F hk hf hc ht
    obtain ⟨f, rfl⟩ : ∃ g, f = g + 1 := ⟨f - 1, by omega⟩
    have hv : v < a 4 := by omega
    have hm := ht.m hM h4
    have hon := (hw.2.2.2.2 v hv).2.2.2.1
    rw [f_X4_save_L30, p_gM4, p_c4, hm 4 (by omega), if_neg (nI_ge (by omega) (by omega)), r_on hm hw hv, p_bd, i_e0 (by omega), sv]
    rcases le1 hon with d | d
    · rw [if_pos d, p_let, nI_1, if_neg (show ¬ ev0 v a = true by unfold ev0; rw [decide_eq_true_iff]; omega)]
      exact ih (v + 1) f o c F (by omega) (by omega) hc ht
    · rw [if_neg (by omega), if_pos (show ev0 v a = true by unfold ev0; rw [decide_eq_true_iff]; exact d), p_gM1, p_c1, hm 1 (by omega)]
      obtain ⟨F1, e1, e2, e3⟩ := r_goOff (N := N) (G := G) (b := a 1) hm hw hv
      have w1 := wf_sOff hw hv hw.1
      obtain ⟨F2, e4, e5, e6⟩ := r_goN (N := N) (G := G) (n := n) (by omega) (by omega) (by omega) e2 w1
      have w2 := wf_goN n _ w1
      have k4 : sGoN (sOff a v (a 1)) n 4 = a 4 := by rw [goN4, kp_off.2.2.2.2]
      have h256 := sSet_256 w2.2.2.2.1 w2.lost
      obtain ⟨F3, e7, e8⟩ := ht.back (N := N) (G := G) hN (e3.tr e6)
      have h9 := Ws_lt (n := n) hw hv
      rw [e1, p_bd, e4, p_bd, show (6 : Int32) = nI 6 from rfl, r_set (by decide) e5 w2.2.2.2.1 w2.lost (by omega), p_bd, r_bits h256 (by omega), p_bd, e7, p_bd, k4]
      rw [show pop8 (sSet (sGoN (sOff a v (a 1)) n) 6 (a 4)) = Ws a n v from rfl]
      simp only [p_let, nI_1, n_le (show c < 100000 by omega) (show Ws a n v < 100000 by omega)]
      by_cases q : c ≤ Ws a n v
      · rw [if_pos q, if_pos q, if_pos q]
        exact ih (v + 1) f o c F3 (by omega) (by omega) hc e8
      · rw [if_neg q, if_neg q, if_neg q]
        exact ih (v + 1) f (some v) _ F3 (by omega) (by omega) (by omega) e8
theorem pr_save (h : gRel b R K P B L F G) (hN : 600 ≤ N) : ∃ r b' T' F', f_X3_save N b R T K P B L p1 = some (r, b', T') ∧ f_X4_save N F G p1 = some (r, F') ∧ gRel b' R K P B L F' G := by
  obtain ⟨a, hw, hR, hM⟩ := h.1
  have h4 := hw.2.2.2.1
  rw [f_X3_save, f_X4_save, c_within, r_in, p_bd, p_bd]
  by_cases c : (1 : Int32) ≤ p1 ∧ p1 ≤ 120
  · rw [bI_t c, if_neg z10, if_neg z10]
    obtain ⟨n, -, hn, rfl⟩ := rngL (l := 1) (h := 120) (by decide) (by decide) c
    obtain ⟨T1, e1⟩ := c_save_L (N := N) (b := b) (K := K) (P := P) (B := B) (L := L) (n := n) hN (by omega) hR hw (a 4) 0 N none 9 T (by omega) (by omega) (by omega)
    obtain ⟨F1, e2, e3⟩ := th_think (N := N) (F := F) (G := G) hN
    obtain ⟨F2, e4, e5⟩ := r_save_L (N := N) (G := G) (n := n) hN (by omega) hM hw (a 4) 0 N none 9 F1 (by omega) (by omega) (by omega) e3
    have ho : ∀ m, (sv (Ws a n) (fun v => ev0 v a) none 9 0 (a 4)).1 = some m → m < 100000 := fun m hm => by have := sv_rng (z := a 4) _ _ _ _ (by omega) (fun m hm => by cases hm) m hm; omega
    rw [show f_X3_save_L26 N b R K P B L (nI n) N (-1000000004) 9 0 T = _ from e1, p_bd4, c_orN ho, p_bd2, e2, p_bd, show f_X4_save_L30 N G (nI n) N (-1) 9 0 F1 = _ from e4, p_bd4, r_orN (M := 400) ho, p_bd2]
    exact ⟨_, _, _, _, rfl, rfl, pr_end (h.thk e5.2)⟩
  · rw [bI_f c, if_pos rfl, if_pos rfl, c_f0, r_f0, p_bd2, p_bd2]
    exact ⟨_, _, _, _, rfl, rfl, h.fnd⟩
end PR6
