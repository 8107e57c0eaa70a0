/-! ===== pure 12: ahead ===== -/
/-- thinking: the other rows stay, what was is kept -/
def tk (F F1 : Nat → Nat → Int32) : Prop := (∀ j, j ≠ 1 → j ≠ 3 → F1 j = F j) ∧ ∀ k, k < 69 → F1 3 k = F 1 k
theorem tk_think {N : Nat} {F : Nat → Nat → Int32} {G : Nat → Int64} (hN : 600 ≤ N) : ∃ F1, f_X4_thinks N F G = some F1 ∧ tk F F1 ∧ F1 1 = F 1 := by
  obtain ⟨F1, e1, e2, e3⟩ := r_thinks (N := N) (F := F) (G := G) (by omega)
  exact ⟨F1, e1, ⟨fun j _ h3 => e2 j h3, e3⟩, e2 1 (by decide)⟩
theorem tk.x {F F1 F2 : Nat → Nat → Int32} (h : tk F F1) (x : sX F1 F2) : tk F F2 := ⟨fun j h1 h3 => (x j h1).trans (h.1 j h1 h3), fun k hk => by rw [x 3 (by decide)]; exact h.2 k hk⟩
theorem tk.back {N : Nat} {F F2 : Nat → Nat → Int32} {G : Nat → Int64} (hN : 600 ≤ N) (h : tk F F2) : ∃ F3, f_X4_putsBack N F2 G = some F3 ∧ tk F F3 ∧ tX F F3 := by
  obtain ⟨F3, e1, e2, e3⟩ := r_back (N := N) (F := F2) (G := G) (by omega)
  exact ⟨F3, e1, ⟨fun j h1 h3 => (e2 j h1).trans (h.1 j h1 h3), fun k hk => by rw [e2 3 (by decide)]; exact h.2 k hk⟩, fun j h1 h3 => (e2 j h1).trans (h.1 j h1 h3), fun k hk => (e3 k hk).trans (h.2 k hk)⟩
section PR4
variable {N : Nat} {b R T K P B F : Nat → Nat → Int32} {L : Nat → Nat → Int64} {G : Nat → Int64} {p1 p2 p3 : Int32} {a : Nat → Nat}
/-- n seconds ahead, by both -/
theorem c_ahead {n : Nat} (hN : 600 ≤ N) (hn : n < 500) (hR : cRel R a) (hw : wf a) : ∃ T1 T2, f_X0_becomes N T R = some T1 ∧ f_X0_goSeconds N T1 (nI n) = some T2 ∧ cRel T2 (sGoN a n) := by
  obtain ⟨T1, e1, e2⟩ := c_bec (N := N) (F := T) (by omega) hR hw
  obtain ⟨T2, e3, e4⟩ := c_goN (N := N) (n := n) (by omega) (by omega) (by omega) e2 hw
  exact ⟨T1, T2, e1, e3, e4⟩
theorem r_ahead {n : Nat} (hN : 600 ≤ N) (hn : n < 500) (hM : mRel (F 1) a) (hw : wf a) : ∃ F1 F2, f_X4_thinks N F G = some F1 ∧ f_X4_goesFor N F1 G (nI n) = some F2 ∧ mRel (F2 1) (sGoN a n) ∧ tk F F2 := by
  obtain ⟨F1, e1, e2, e3⟩ := tk_think (N := N) (F := F) (G := G) hN
  obtain ⟨F2, e4, e5, e6⟩ := r_goN (N := N) (G := G) (n := n) (by omega) (by omega) (by omega) (e3 ▸ hM) hw
  exact ⟨F1, F2, e1, e4, e5, e2.x e6⟩
theorem r_onB {i k : Nat} (hN : 600 ≤ N) {F2 : Nat → Nat → Int32} (hM : mRel (F2 1) a) (hw : wf a) (hi : i < a 4) (hk : k < 8) (ht : tk F F2) : ∃ F3, f_X4_on_B86 N F2 G (nI i) (nI k) = some (nI (a (5 + k + 8 * i)), F3) ∧ tX F F3 := by
  have h4 := hw.2.2.2.1
  obtain ⟨F3, e1, -, e2⟩ := ht.back (N := N) (G := G) hN
  refine ⟨F3, ?_, e2⟩
  rw [f_X4_on_B86, r_it (by omega) hk, p_bd, e1, p_bd, hM _ (by omega)]
theorem pr_on (h : gRel b R K P B L F G) (hN : 600 ≤ N) : ∃ r b' T' F', f_X3_on N b R T K P B L p1 p2 p3 = some (r, b', T') ∧ f_X4_on N F G p1 p2 p3 = some (r, F') ∧ gRel b' R K P B L F' G := by
  obtain ⟨a, hw, hR, hM⟩ := h.1
  have h4 := hw.2.2.2.1
  rw [f_X3_on, f_X4_on, c_has hR.2.2.2.2.1, r_has (hM 4 (by omega)) h4, p_bd, p_bd]
  by_cases c : hasI (a 4) p1
  · rw [bI_t c, if_neg z10, if_neg z10, c_within, r_in, p_bd, p_bd]
    obtain ⟨i, hi, rfl⟩ := hasI_of (by omega) c
    have h8 : i < 8 := by omega
    by_cases d : (0 : Int32) ≤ p2 ∧ p2 ≤ 400
    · rw [bI_t d, if_neg z10, if_neg z10, c_within, r_in, p_bd, p_bd]
      obtain ⟨n, -, hn, rfl⟩ := rngL (l := 0) (h := 400) (by decide) (by decide) d
      by_cases e : (0 : Int32) ≤ p3 ∧ p3 ≤ 4
      · rw [bI_t e, if_neg z10, if_neg z10]
        obtain ⟨T1, T2, q1, q2, q3⟩ := c_ahead (N := N) (T := T) (n := n) hN (by omega) hR hw
        obtain ⟨F1, F2, q4, q5, q6, q7⟩ := r_ahead (N := N) (G := G) (n := n) hN (by omega) hM hw
        have w2 := wf_goN n a hw
        have hi2 : i < sGoN a n 4 := by rw [goN4]; exact hi
        rw [q1, q4, p_bd, p_bd, q2, q5, p_bd, p_bd]
        obtain ⟨g1, g2, g3, g4, g5, g6⟩ := q3.2.2.2.2.2.2.2 i hi2
        obtain ⟨-, -, -, hon, -, -, hl, -⟩ := w2.2.2.2.2 i hi2
        by_cases e0 : p3 = 0
        · obtain ⟨F3, x1, x2⟩ := r_onB (N := N) (G := G) (k := 1) hN q6 w2 hi2 (by decide) q7
          rw [if_pos e0, if_pos e0, p_grd _ h8 (by decide), p_cl (by omega), g2, show f_X4_on_B86 N F2 G (nI i) 1 = _ from x1]
          exact ⟨_, _, _, _, rfl, rfl, h.thk x2⟩
        rw [if_neg e0, if_neg e0]
        by_cases e1 : p3 = 1
        · obtain ⟨F3, x1, x2⟩ := r_onB (N := N) (G := G) (k := 3) hN q6 w2 hi2 (by decide) q7
          rw [if_pos e1, if_pos e1, c_on q3 w2 hi2, p_bd, i_e0 (by omega), show f_X4_on_B86 N F2 G (nI i) 3 = some (nI (sGoN a n (8 + 8 * i)), F3) from x1]
          rcases le1 hon with d1 | d1
          · rw [if_pos d1, d1]
            exact ⟨_, _, _, _, rfl, rfl, h.thk x2⟩
          · rw [if_neg (by omega), d1]
            exact ⟨_, _, _, _, rfl, rfl, h.thk x2⟩
        rw [if_neg e1, if_neg e1]
        by_cases e2 : p3 = 2
        · obtain ⟨F3, x1, x2⟩ := r_onB (N := N) (G := G) (k := 4) hN q6 w2 hi2 (by decide) q7
          rw [if_pos e2, if_pos e2, p_grd _ h8 (by decide), p_cl (by omega), g4, show f_X4_on_B86 N F2 G (nI i) 4 = _ from x1]
          exact ⟨_, _, _, _, rfl, rfl, h.thk x2⟩
        rw [if_neg e2, if_neg e2]
        by_cases e3 : p3 = 3
        · obtain ⟨F3, x1, x2⟩ := r_onB (N := N) (G := G) (k := 6) hN q6 w2 hi2 (by decide) q7
          rw [if_pos e3, if_pos e3, c_lost q3 w2 hi2, p_bd, i_e0 (by omega), show f_X4_on_B86 N F2 G (nI i) 6 = some (nI (sGoN a n (11 + 8 * i)), F3) from x1]
          rcases le1 hl with d1 | d1
          · rw [if_pos d1, d1]
            exact ⟨_, _, _, _, rfl, rfl, h.thk x2⟩
          · rw [if_neg (by omega), d1]
            exact ⟨_, _, _, _, rfl, rfl, h.thk x2⟩
        rw [if_neg e3, if_neg e3]
        obtain ⟨F3, x1, x2⟩ := r_onB (N := N) (G := G) (k := 7) hN q6 w2 hi2 (by decide) q7
        rw [p_grd _ h8 (by decide), p_cl (by omega), g6, show f_X4_on_B86 N F2 G (nI i) 7 = _ from x1]
        exact ⟨_, _, _, _, rfl, rfl, h.thk x2⟩
      · rw [bI_f e, if_pos rfl, if_pos rfl, f_X3_on_B31, f_X4_on_B30, c_f0, r_f0, p_bd2, p_bd2]
        exact ⟨_, _, _, _, rfl, rfl, h.fnd⟩
    · rw [bI_f d, if_pos rfl, if_pos rfl, f_X3_on_B31, f_X4_on_B30, c_f0, r_f0, p_bd2, p_bd2]
      exact ⟨_, _, _, _, rfl, rfl, h.fnd⟩
  · rw [bI_f c, if_pos rfl, if_pos rfl, f_X3_on_B31, f_X4_on_B30, c_f0, r_f0, p_bd2, p_bd2]
    exact ⟨_, _, _, _, rfl, rfl, h.fnd⟩
theorem pr_then (h : gRel b R K P B L F G) (hN : 600 ≤ N) : ∃ r b' T' F', f_X3_then N b R T K P B L p1 p2 = some (r, b', T') ∧ f_X4_then N F G p1 p2 = some (r, F') ∧ gRel b' R K P B L F' G := by
  obtain ⟨a, hw, hR, hM⟩ := h.1
  rw [f_X3_then, f_X4_then, c_within, r_in, p_bd, p_bd]
  by_cases d : (0 : Int32) ≤ p1 ∧ p1 ≤ 400
  · rw [bI_t d, if_neg z10, if_neg z10, c_within, r_in, p_bd, p_bd]
    obtain ⟨n, -, hn, rfl⟩ := rngL (l := 0) (h := 400) (by decide) (by decide) d
    by_cases e : (0 : Int32) ≤ p2 ∧ p2 ≤ 1
    · rw [bI_t e, if_neg z10, if_neg z10]
      obtain ⟨T1, T2, q1, q2, q3⟩ := c_ahead (N := N) (T := T) (n := n) hN (by omega) hR hw
      obtain ⟨F1, F2, q4, q5, q6, q7⟩ := r_ahead (N := N) (G := G) (n := n) hN (by omega) hM hw
      have w2 := wf_goN n a hw
      have w4 := w2.2.2.2.1
      obtain ⟨F3, e1, -, e2⟩ := q7.back (N := N) (G := G) hN
      rw [q1, q4, p_bd, p_bd, q2, q5, p_bd, p_bd]
      by_cases e0 : p2 = 0
      · rw [if_pos e0, if_pos e0, f_X3_then_B67, f_X4_then_B49, q3.2.2.2.2.2.1, b_pop N _ (sSet_256 w4 w2.on), p_bd, show (3 : Int32) = nI 3 from rfl, r_set (by decide) q6 w4 w2.on (by omega), p_bd, r_bits (sSet_256 w4 w2.on) (by omega), p_bd, e1, p_bd]
        exact ⟨_, _, _, _, rfl, rfl, h.thk e2⟩
      · rw [if_neg e0, if_neg e0, f_X3_then_B67, f_X4_then_B49, q3.2.2.2.2.2.2.1, b_pop N _ (sSet_256 w4 w2.lost), p_bd, show (6 : Int32) = nI 6 from rfl, r_set (by decide) q6 w4 w2.lost (by omega), p_bd, r_bits (sSet_256 w4 w2.lost) (by omega), p_bd, e1, p_bd]
        exact ⟨_, _, _, _, rfl, rfl, h.thk e2⟩
    · rw [bI_f e, if_pos rfl, if_pos rfl, f_X3_then_B20, f_X4_then_B22, c_f0, r_f0, p_bd2, p_bd2]
      exact ⟨_, _, _, _, rfl, rfl, h.fnd⟩
  · rw [bI_f d, if_pos rfl, if_pos rfl, f_X3_then_B20, f_X4_then_B22, c_f0, r_f0, p_bd2, p_bd2]
    exact ⟨_, _, _, _, rfl, rfl, h.fnd⟩
end PR4
/-! in how many seconds -/
def fs (ev : (Nat → Nat) → Bool) : (Nat → Nat) → Nat → Nat → Option Nat
  | _, _, 0 => none
  | a, n, k + 1 => if ev a then some n else fs ev (sGo a) (n + 1) k
theorem fs_rng {ev : (Nat → Nat) → Bool} : ∀ k a n m, fs ev a n k = some m → n ≤ m ∧ m < n + k := by
  intro k
  induction k with
  | zero => intro a n m h; cases h
  | succ k ih =>
    intro a n m h
    rw [fs] at h
    by_cases e : ev a = true
    · rw [if_pos e] at h
      cases h
      omega
    · rw [if_neg e] at h
      have := ih _ _ _ h
      omega
def cres : Option Nat → Int32
  | some m => nI m
  | none => -1000000004
def nres : Option Nat → Int32
  | some m => nI m
  | none => -1
def bres (b : Nat → Nat → Int32) : Option Nat → (Nat → Nat → Int32)
  | some _ => b
  | none => fb b 3
def Fres (F : Nat → Nat → Int32) : Option Nat → (Nat → Nat → Int32)
  | some _ => F
  | none => fF F 3
def ev0 (i : Nat) (a : Nat → Nat) : Bool := decide (a (8 + 8 * i) = 1)
def ev1 (i : Nat) (a : Nat → Nat) : Bool := decide (a (9 + 8 * i) = 0)
def ev2 (i : Nat) (a : Nat → Nat) : Bool := decide (a (11 + 8 * i) = 1)
def ev3 (i : Nat) (a : Nat → Nat) : Bool := decide (a (6 + 8 * i) = a (10 + 8 * i) ∧ a (8 + 8 * i) = 0)
section PR5
variable {N : Nat} {b R T K P B F : Nat → Nat → Int32} {L : Nat → Nat → Int64} {G : Nat → Int64} {p1 : Int32} {a : Nat → Nat} {i : Nat}
theorem bI_dec {c d : Prop} [Decidable c] [Decidable d] (h : c ↔ d) : bI c = bI d := by
  by_cases q : c
  · rw [bI_t q, bI_t (h.mp q)]
  · rw [bI_f q, bI_f (fun z => q (h.mpr z))]
theorem nI_bI {x : Nat} (h : x ≤ 1) : nI x = bI (x = 1) := by
  rcases le1 h with e | e <;> rw [e] <;> rfl
theorem c_so0 (hR : cRel R a) (hw : wf a) (hi : i < a 4) : f_X0_isSo N R (nI i) 0 = some (bI (ev0 i a = true)) := by
  have h1 := (hw.2.2.2.2 i hi).2.2.2.1
  rw [f_X0_isSo, if_pos rfl, c_on hR hw hi, p_bd, nI_bI h1, q_gbI]
  congr 1
  exact bI_dec (by unfold ev0; rw [decide_eq_true_iff])
theorem c_so1 (hR : cRel R a) (hw : wf a) (hi : i < a 4) : f_X0_isSo N R (nI i) 1 = some (bI (ev1 i a = true)) := by
  have h8 : i < 8 := Nat.lt_of_lt_of_le hi hw.2.2.2.1
  have h1 := (hw.2.2.2.2 i hi).2.2.2.2.1
  rw [f_X0_isSo, if_neg (by decide), if_pos rfl, p_grd _ h8 (by decide), p_cl (by omega), (hR.2.2.2.2.2.2.2 i hi).2.2.2.1, i_e0 (by omega)]
  by_cases e : a (9 + 8 * i) = 0
  · rw [if_pos e, bI_t (by unfold ev1; rw [decide_eq_true_iff]; exact e)]
  · rw [if_neg e, bI_f (by unfold ev1; rw [decide_eq_true_iff]; exact e)]
theorem c_so2 (hR : cRel R a) (hw : wf a) (hi : i < a 4) : f_X0_isSo N R (nI i) 2 = some (bI (ev2 i a = true)) := by
  have h1 := (hw.2.2.2.2 i hi).2.2.2.2.2.2.1
  rw [f_X0_isSo, if_neg (by decide), if_neg (by decide), if_pos rfl, c_lost hR hw hi, p_bd, nI_bI h1, q_gbI]
  congr 1
  exact bI_dec (by unfold ev2; rw [decide_eq_true_iff])
theorem c_so3 (hR : cRel R a) (hw : wf a) (hi : i < a 4) : f_X0_isSo N R (nI i) 3 = some (bI (ev3 i a = true)) := by
  have h8 : i < 8 := Nat.lt_of_lt_of_le hi hw.2.2.2.1
  obtain ⟨-, hat, -, hon, -, hg, -⟩ := hw.2.2.2.2 i hi
  obtain ⟨g1, g2, g3, g4, g5, g6⟩ := hR.2.2.2.2.2.2.2 i hi
  rw [f_X0_isSo, if_neg (by decide), if_neg (by decide), if_neg (by decide), p_grd _ h8 (by decide), p_grd _ h8 (by decide), p_cl (by omega), g2, g5, i_eq (by omega) (by omega), c_on hR hw hi, p_bd, i_e0 (by omega)]
  by_cases e : a (6 + 8 * i) = a (10 + 8 * i)
  · rw [if_pos e]
    by_cases d : a (8 + 8 * i) = 0
    · rw [if_pos d, bI_t (by unfold ev3; rw [decide_eq_true_iff]; exact ⟨e, d⟩)]
    · rw [if_neg d, bI_f (by unfold ev3; rw [decide_eq_true_iff]; exact fun z => d z.2)]
  · rw [if_neg e, bI_f (by unfold ev3; rw [decide_eq_true_iff]; exact fun z => e z.1)]
theorem c_until {e : Int32} {M : Nat} {ev : (Nat → Nat) → Bool} (hN : 600 ≤ N) (hM : M < 1000) (hso : ∀ R a, cRel R a → wf a → i < a 4 → f_X0_isSo N R (nI i) e = some (bI (ev a = true))) : ∀ k n f T a, cRel T a → wf a → i < a 4 → k + n = M + 1 → k < f → ∃ T', f_X3_secondsUntil_L3 N b R K P B L (nI i) e (nI M) f (nI n) T = some (cres (fs ev a n k), T') := by
  intro k
  induction k with
  | zero =>
    intro n f T a hT hw hi hk hf
    obtain ⟨f, rfl⟩ : ∃ g, f = g + 1 := ⟨f - 1, by omega⟩
    rw [f_X3_secondsUntil_L3, if_pos (nI_lt (by omega) (by omega))]
    exact ⟨T, rfl⟩
  | succ k ih =>
    intro n f T a hT hw hi hk hf
    obtain ⟨f, rfl⟩ : ∃ g, f = g + 1 := ⟨f - 1, by omega⟩
    rw [f_X3_secondsUntil_L3, if_neg (nI_nlt (by omega) (by omega)), hso T a hT hw hi, p_bd, fs]
    by_cases q : ev a = true
    · rw [bI_t q, if_neg z10, if_pos q]
      exact ⟨T, rfl⟩
    · rw [bI_f q, if_pos rfl, if_neg q]
      obtain ⟨T1, e1, e2⟩ := c_goN (N := N) (n := 1) (by omega) (by omega) (by omega) hT hw
      rw [show f_X0_goSeconds N T 1 = some T1 from e1, p_bd, p_let, nI_1]
      exact ih (n + 1) f T1 (sGo a) e2 (wf_go hw) (by rw [go4]; exact hi) (by omega) (by omega)
def rres (M : Nat) : Option Nat → Nat
  | some m => m
  | none => M + 1
theorem r_until {w v : Int32} {M : Nat} {ev : (Nat → Nat) → Bool} (hN : 600 ≤ N) (hM : M < 1000) (hit : ∀ F a, mRel (F 1) a → wf a → i < a 4 → ∃ x, f_X4_it N F G (nI i) w = some x ∧ (x = v ↔ ev a = true)) : ∀ k n f F a, mRel (F 1) a → wf a → i < a 4 → k + n = M + 1 → k < f → ∃ F', f_X4_soIn_L3 N G (nI i) w v (nI M) f (nI n) F = some (nI (rres M (fs ev a n k)), F') ∧ sX F F' := by
  intro k
  induction k with
  | zero =>
    intro n f F a hT hw hi hk hf
    obtain ⟨f, rfl⟩ : ∃ g, f = g + 1 := ⟨f - 1, by omega⟩
    rw [f_X4_soIn_L3, if_pos (nI_lt (by omega) (by omega)), show n = M + 1 by omega]
    exact ⟨F, rfl, sX.rf⟩
  | succ k ih =>
    intro n f F a hT hw hi hk hf
    obtain ⟨f, rfl⟩ : ∃ g, f = g + 1 := ⟨f - 1, by omega⟩
    obtain ⟨x, x1, x2⟩ := hit F a hT hw hi
    rw [f_X4_soIn_L3, if_neg (nI_nlt (by omega) (by omega)), x1, p_bd, fs]
    by_cases q : ev a = true
    · rw [if_pos (x2.mpr q), if_pos q]
      exact ⟨F, rfl, sX.rf⟩
    · rw [if_neg (fun z => q (x2.mp z)), if_neg q]
      obtain ⟨F1, e1, e2, e3⟩ := r_go1 (N := N) (G := G) (by omega) hT hw
      rw [e1, p_bd, p_let, nI_1]
      obtain ⟨F2, e4, e5⟩ := ih (n + 1) f F1 (sGo a) e2 (wf_go hw) (by rw [go4]; exact hi) (by omega) (by omega)
      exact ⟨F2, e4, e3.tr e5⟩
theorem r_untilA {M : Nat} (hN : 600 ≤ N) (hM : M < 1000) : ∀ k n f F a, mRel (F 1) a → wf a → i < a 4 → k + n = M + 1 → k < f → ∃ F', f_X4_arrivesIn_L2 N G (nI i) (nI M) f (nI n) F = some (nI (rres M (fs (ev3 i) a n k)), F') ∧ sX F F' := by
  intro k
  induction k with
  | zero =>
    intro n f F a hT hw hi hk hf
    obtain ⟨f, rfl⟩ : ∃ g, f = g + 1 := ⟨f - 1, by omega⟩
    rw [f_X4_arrivesIn_L2, if_pos (nI_lt (by omega) (by omega)), show n = M + 1 by omega]
    exact ⟨F, rfl, sX.rf⟩
  | succ k ih =>
    intro n f F a hT hw hi hk hf
    obtain ⟨f, rfl⟩ : ∃ g, f = g + 1 := ⟨f - 1, by omega⟩
    have h8 : i < 8 := Nat.lt_of_lt_of_le hi hw.2.2.2.1
    obtain ⟨-, hat, -, hon, -, hg, -⟩ := hw.2.2.2.2 i hi
    obtain ⟨F1, e1, e2, e3⟩ := r_go1 (N := N) (G := G) (by omega) hT hw
    obtain ⟨F2, e4, e5⟩ := ih (n + 1) f F1 (sGo a) e2 (wf_go hw) (by rw [go4]; exact hi) (by omega) (by omega)
    rw [f_X4_arrivesIn_L2, if_neg (nI_nlt (by omega) (by omega)), r_on hT hw hi, p_bd, r_it1 h8, p_bd, r_it5 h8, p_bd, hT _ (by omega), hT _ (by omega), i_e0 (by omega), i_eq (by omega) (by omega), e1, p_bd, p_let, nI_1, e4, fs]
    by_cases d : a (8 + 8 * i) = 0
    · rw [if_pos d]
      by_cases e : a (6 + 8 * i) = a (10 + 8 * i)
      · rw [if_pos e, if_pos (show ev3 i a = true by unfold ev3; rw [decide_eq_true_iff]; exact ⟨e, d⟩)]
        exact ⟨F, rfl, sX.rf⟩
      · rw [if_neg e, if_neg (show ¬ ev3 i a = true by unfold ev3; rw [decide_eq_true_iff]; exact fun z => e z.1)]
        exact ⟨F2, rfl, e3.tr e5⟩
    · rw [if_neg d, if_neg (show ¬ ev3 i a = true by unfold ev3; rw [decide_eq_true_iff]; exact fun z => d z.2)]
      exact ⟨F2, rfl, e3.tr e5⟩
theorem c_orN {o : Option Nat} (ho : ∀ m, o = some m → m < 100000) : f_X3_orNone N b R T K P B L (cres o) = some (cres o, bres b o) := by
  cases o with
  | none => rw [f_X3_orNone, cres, if_pos rfl, c_f3, p_bd2]; rfl
  | some m =>
    have hm := ho m rfl
    rw [f_X3_orNone, cres, if_neg]
    · rfl
    intro z
    rw [fa_eq, nI_toInt (by omega)] at z
    have q : (-1000000004 : Int32).toInt = -1000000004 := rfl
    omega
theorem r_orN {o : Option Nat} {M : Nat} (ho : ∀ m, o = some m → m < 100000) : f_X4_orNone N F G (nres o) = some (cres o, Fres F o) := by
  cases o with
  | none =>
    show f_X4_orNone N F G (-1) = _
    rw [f_X4_orNone, if_neg (by decide), r_f3, p_bd2]; rfl
  | some m =>
    have hm := ho m rfl
    show f_X4_orNone N F G (nI m) = _
    rw [f_X4_orNone, if_pos (nI_pos' (by omega))]; rfl
/-- the end of a search, by both -/
theorem pr_end {o : Option Nat} (h : gRel b R K P B L F G) : gRel (bres b o) R K P B L (Fres F o) G := by
  cases o with
  | none => exact h.fnd
  | some m => exact h
theorem r_cut {M : Nat} (hM : M < 1000) {o : Option Nat} (ho : ∀ m, o = some m → m < M + 1) {β : Type} (f : Int32 → β) : (if nI (rres M o) ≤ nI M then f (nI (rres M o)) else f (-1)) = f (nres o) := by
  cases o with
  | none =>
    show (if nI (M + 1) ≤ nI M then _ else _) = f (-1)
    rw [if_neg (nI_ge (by omega) (by omega))]
  | some m =>
    have hm := ho m rfl
    show (if nI m ≤ nI M then f (nI m) else _) = f (nI m)
    rw [if_pos (nI_le (by omega) (by omega))]
theorem pr_untilG {e w v : Int32} {ev : (Nat → Nat) → Bool} (h : gRel b R K P B L F G) (hN : 600 ≤ N) (hR : cRel R a) (hw : wf a) (hM : mRel (F 1) a) (hi : i < a 4)
    (hso : ∀ R a, cRel R a → wf a → i < a 4 → f_X0_isSo N R (nI i) e = some (bI (ev a = true))) (hit : ∀ F a, mRel (F 1) a → wf a → i < a 4 → ∃ x, f_X4_it N F G (nI i) w = some x ∧ (x = v ↔ ev a = true)) :
    ∃ r b' T' F', q_bd (f_X0_becomes N T R) (fun T_4 => q_bd2 (f_X3_secondsUntil N b R T_4 K P B L (nI i) e 400) (fun r_6 T_7 => q_bd2 (f_X3_orNone N b R T_7 K P B L r_6) (fun r_9 b_10 => some (r_9, b_10, T_7)))) = some (r, b', T') ∧ q_bd (f_X4_thinks N F G) (fun F_4 => q_bd2 (f_X4_soIn N F_4 G (nI i) w v 400) (fun r_6 F_7 => q_bd2 (f_X4_orNone N F_7 G r_6) (fun r_9 F_10 => some (r_9, F_10)))) = some (r, F') ∧ gRel b' R K P B L F' G := by
  obtain ⟨T1, e1, e2⟩ := c_bec (N := N) (F := T) (by omega) hR hw
  obtain ⟨T2, e3⟩ := c_until (N := N) (b := b) (R := R) (K := K) (P := P) (B := B) (L := L) (M := 400) hN (by decide) hso 401 0 N T1 a e2 hw hi rfl (by omega)
  obtain ⟨F1, e4, e5, e6⟩ := tk_think (N := N) (F := F) (G := G) hN
  obtain ⟨F2, e7, e8⟩ := r_until (N := N) (M := 400) hN (by decide) hit 401 0 N F1 a (e6 ▸ hM) hw hi rfl (by omega)
  obtain ⟨F3, e9, -, e10⟩ := (e5.x e8).back (N := N) (G := G) hN
  have ho : ∀ m, fs ev a 0 401 = some m → m < 400 + 1 := fun m hm => by have := fs_rng _ _ _ _ hm; omega
  have es : f_X4_soIn N F1 G (nI i) w v 400 = some (nres (fs ev a 0 401), F3) := by
    rw [f_X4_soIn, show f_X4_soIn_L3 N G (nI i) w v 400 N 0 F1 = _ from e7, p_bd2, f_X4_soIn_B30, e9, p_bd]
    exact r_cut (M := 400) (by decide) ho (fun x => some (x, F3))
  rw [e1, e4, p_bd, p_bd, f_X3_secondsUntil, show f_X3_secondsUntil_L3 N b R K P B L (nI i) e 400 N 0 T1 = _ from e3, p_bd2, c_orN (fun m hm => by have := ho m hm; omega), p_bd2, es, p_bd2, r_orN (M := 400) (fun m hm => by have := ho m hm; omega), p_bd2]
  exact ⟨_, _, _, _, rfl, rfl, pr_end (h.thk e10)⟩
theorem pr_gets (h : gRel b R K P B L F G) (hN : 600 ≤ N) : ∃ r b' T' F', f_X3_gets N b R T K P B L p1 = some (r, b', T') ∧ f_X4_gets N F G p1 = some (r, F') ∧ gRel b' R K P B L F' G := by
  obtain ⟨a, hw, hR, hM⟩ := h.1
  have h4 := hw.2.2.2.1
  rw [f_X3_gets, f_X4_gets, c_has hR.2.2.2.2.1, r_has (hM 4 (by omega)) h4, p_bd, p_bd]
  by_cases c : hasI (a 4) p1
  · rw [bI_t c, if_neg z10, if_neg z10]
    obtain ⟨i, hi, rfl⟩ := hasI_of (by omega) c
    refine pr_untilG (ev := ev0 i) h hN hR hw hM hi (fun R a h1 h2 h3 => c_so0 h1 h2 h3) (fun F a h1 h2 h3 => ⟨_, r_it3 (Nat.lt_of_lt_of_le h3 h2.2.2.2.1), ?_⟩)
    rw [h1 _ (by omega), n_e1 (by have := (h2.2.2.2.2 i h3).2.2.2.1; omega)]
    unfold ev0
    rw [decide_eq_true_iff]
  · rw [bI_f c, if_pos rfl, if_pos rfl, c_f0, r_f0, p_bd2, p_bd2]
    exact ⟨_, _, _, _, rfl, rfl, h.fnd⟩
theorem pr_dry (h : gRel b R K P B L F G) (hN : 600 ≤ N) : ∃ r b' T' F', f_X3_dry N b R T K P B L p1 = some (r, b', T') ∧ f_X4_dry N F G p1 = some (r, F') ∧ gRel b' R K P B L F' G := by
  obtain ⟨a, hw, hR, hM⟩ := h.1
  have h4 := hw.2.2.2.1
  rw [f_X3_dry, f_X4_dry, c_has hR.2.2.2.2.1, r_has (hM 4 (by omega)) h4, p_bd, p_bd]
  by_cases c : hasI (a 4) p1
  · rw [bI_t c, if_neg z10, if_neg z10]
    obtain ⟨i, hi, rfl⟩ := hasI_of (by omega) c
    refine pr_untilG (ev := ev1 i) h hN hR hw hM hi (fun R a h1 h2 h3 => c_so1 h1 h2 h3) (fun F a h1 h2 h3 => ⟨_, r_it4 (Nat.lt_of_lt_of_le h3 h2.2.2.2.1), ?_⟩)
    rw [h1 _ (by omega), n_e0 (by have := (h2.2.2.2.2 i h3).2.2.2.2.1; omega)]
    unfold ev1
    rw [decide_eq_true_iff]
  · rw [bI_f c, if_pos rfl, if_pos rfl, c_f0, r_f0, p_bd2, p_bd2]
    exact ⟨_, _, _, _, rfl, rfl, h.fnd⟩
theorem pr_lost (h : gRel b R K P B L F G) (hN : 600 ≤ N) : ∃ r b' T' F', f_X3_lost N b R T K P B L p1 = some (r, b', T') ∧ f_X4_lost N F G p1 = some (r, F') ∧ gRel b' R K P B L F' G := by
  obtain ⟨a, hw, hR, hM⟩ := h.1
  have h4 := hw.2.2.2.1
  rw [f_X3_lost, f_X4_lost, c_has hR.2.2.2.2.1, r_has (hM 4 (by omega)) h4, p_bd, p_bd]
  by_cases c : hasI (a 4) p1
  · rw [bI_t c, if_neg z10, if_neg z10]
    obtain ⟨i, hi, rfl⟩ := hasI_of (by omega) c
    refine pr_untilG (ev := ev2 i) h hN hR hw hM hi (fun R a h1 h2 h3 => c_so2 h1 h2 h3) (fun F a h1 h2 h3 => ⟨_, r_it6 (Nat.lt_of_lt_of_le h3 h2.2.2.2.1), ?_⟩)
    rw [h1 _ (by omega), n_e1 (by have := (h2.2.2.2.2 i h3).2.2.2.2.2.2.1; omega)]
    unfold ev2
    rw [decide_eq_true_iff]
  · rw [bI_f c, if_pos rfl, if_pos rfl, c_f0, r_f0, p_bd2, p_bd2]
    exact ⟨_, _, _, _, rfl, rfl, h.fnd⟩
/-- the reference's arrivesIn: what is found, and all is put back -/
theorem r_arr {M : Nat} {F1 : Nat → Nat → Int32} (hN : 600 ≤ N) (hM9 : M < 500) (hM : mRel (F1 1) a) (hw : wf a) (hi : i < a 4) (ht : tk F F1) : ∃ F3, f_X4_arrivesIn N F1 G (nI i) (nI M) = some (nres (fs (ev3 i) a 0 (M + 1)), F3) ∧ tk F F3 ∧ tX F F3 := by
  obtain ⟨F2, e7, e8⟩ := r_untilA (N := N) (G := G) (M := M) hN (by omega) (M + 1) 0 N F1 a hM hw hi rfl (by omega)
  obtain ⟨F3, e9, e11, e10⟩ := (ht.x e8).back (N := N) (G := G) hN
  have ho : ∀ m, fs (ev3 i) a 0 (M + 1) = some m → m < M + 1 := fun m hm => by have := fs_rng _ _ _ _ hm; omega
  refine ⟨F3, ?_, e11, e10⟩
  rw [f_X4_arrivesIn, show f_X4_arrivesIn_L2 N G (nI i) (nI M) N 0 F1 = _ from e7, p_bd2, f_X4_arrivesIn_B40, e9, p_bd]
  exact r_cut (M := M) (by omega) ho (fun x => some (x, F3))
theorem pr_arrives (h : gRel b R K P B L F G) (hN : 600 ≤ N) : ∃ r b' T' F', f_X3_arrives N b R T K P B L p1 = some (r, b', T') ∧ f_X4_arrives N F G p1 = some (r, F') ∧ gRel b' R K P B L F' G := by
  obtain ⟨a, hw, hR, hM⟩ := h.1
  have h4 := hw.2.2.2.1
  rw [f_X3_arrives, f_X4_arrives, c_has hR.2.2.2.2.1, r_has (hM 4 (by omega)) h4, p_bd, p_bd]
  by_cases c : hasI (a 4) p1
  · rw [bI_t c, if_neg z10, if_neg z10]
    obtain ⟨i, hi, rfl⟩ := hasI_of (by omega) c
    obtain ⟨T1, e1, e2⟩ := c_bec (N := N) (F := T) (by omega) hR hw
    obtain ⟨T2, e3⟩ := c_until (N := N) (b := b) (R := R) (K := K) (P := P) (B := B) (L := L) (M := 400) (e := 3) (ev := ev3 i) hN (by decide) (fun R a h1 h2 h3 => c_so3 h1 h2 h3) 401 0 N T1 a e2 hw hi rfl (by omega)
    obtain ⟨F1, e4, e5, e6⟩ := tk_think (N := N) (F := F) (G := G) hN
    obtain ⟨F3, e7, -, e10⟩ := r_arr (N := N) (G := G) (M := 400) hN (by decide) (e6 ▸ hM) hw hi e5
    have ho : ∀ m, fs (ev3 i) a 0 401 = some m → m < 400 + 1 := fun m hm => by have := fs_rng _ _ _ _ hm; omega
    rw [e1, e4, p_bd, p_bd, f_X3_secondsUntil, show f_X3_secondsUntil_L3 N b R K P B L (nI i) 3 400 N 0 T1 = _ from e3, p_bd2, c_orN (fun m hm => by have := ho m hm; omega), p_bd2, show f_X4_arrivesIn N F1 G (nI i) 400 = _ from e7, p_bd2, r_orN (M := 400) (fun m hm => by have := ho m hm; omega), p_bd2]
    exact ⟨_, _, _, _, rfl, rfl, pr_end (h.thk e10)⟩
  · rw [bI_f c, if_pos rfl, if_pos rfl, c_f0, r_f0, p_bd2, p_bd2]
    exact ⟨_, _, _, _, rfl, rfl, h.fnd⟩
end PR5
