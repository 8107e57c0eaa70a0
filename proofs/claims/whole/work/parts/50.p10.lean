/-! ===== pure 10: more calls ===== -/
def sm (E : Nat → Int32) : Nat → Int32
  | 0 => 0
  | m + 1 => sm E m + E m
theorem sm_cong {E E' : Nat → Int32} : ∀ m, (∀ i, i < m → E i = E' i) → sm E m = sm E' m := by
  intro m
  induction m with
  | zero => intro _; rfl
  | succ m ih => intro h; rw [sm, sm, ih (fun i hi => h i (by omega)), h m (by omega)]
theorem c_sum {N n n0 : Nat} {E : Nat → Int32} (h : n ≤ n0) (h0 : n0 < 100) (hN : 600 ≤ N) : f_X3_sum N n0 E (nI n) = some (sm E n) := by
  have L : ∀ f i, i ≤ n → n - i < f → f_X3_sum_L4 N n0 E (nI n) f (sm E i) (nI i) = some (sm E n, nI n) := by
    intro f
    induction f with
    | zero => intro i _ h; exact absurd h (Nat.not_lt_zero _)
    | succ f ih =>
      intro i hi hf
      rw [f_X3_sum_L4]
      by_cases e : i = n
      · rw [if_pos (nI_le (by omega) (by omega)), e]
      · rw [if_neg (nI_ge (by omega) (by omega)), if_neg (show ¬ Int32.ofNat n0 ≤ nI i from nI_ge (by omega) (by omega)), p_grd _ (by omega) (by omega), p_let, p_let, p_cl (by omega), nI_1]
        exact ih (i + 1) (by omega) (by omega)
  rw [f_X3_sum, show f_X3_sum_L4 N n0 E (nI n) N 0 0 = _ from L N 0 (by omega) (by omega), p_bd2]
theorem r_sums {N k : Nat} {F : Nat → Nat → Int32} {G : Nat → Int64} {a : Nat → Nat} (hk : k < 8) (hM : mRel (F 1) a) (h4 : a 4 ≤ 8) (hN : 600 ≤ N) : f_X4_sums N F G (nI k) = some (sm (fun i => F 1 (5 + k + 8 * i)) (a 4)) := by
  have L : ∀ f i, i ≤ a 4 → a 4 - i < f → f_X4_sums_L4 N F G (nI k) f (sm (fun i => F 1 (5 + k + 8 * i)) i) (nI i) = some (sm (fun i => F 1 (5 + k + 8 * i)) (a 4), nI (a 4)) := by
    intro f
    induction f with
    | zero => intro i _ h; exact absurd h (Nat.not_lt_zero _)
    | succ f ih =>
      intro i hi hf
      rw [f_X4_sums_L4, p_gM4, p_c4, hM 4 (by omega)]
      by_cases e : i = a 4
      · rw [if_pos (nI_le (by omega) (by omega)), e]
      · rw [if_neg (nI_ge (by omega) (by omega)), r_it (by omega) hk, p_bd, p_let, p_let, nI_1]
        exact ih (i + 1) (by omega) (by omega)
  rw [f_X4_sums, show f_X4_sums_L4 N F G (nI k) N 0 0 = _ from L N 0 (by omega) (by omega), p_bd2]
section PR2
variable {N : Nat} {b R T K P B F : Nat → Nat → Int32} {L : Nat → Nat → Int64} {G : Nat → Int64} {p1 p2 p3 : Int32}
theorem pr_count (h : gRel b R K P B L F G) (hN : 600 ≤ N) : ∃ r b' F', f_X3_count N b R T K P B L p1 = some (r, b') ∧ f_X4_count N F G p1 = some (r, F') ∧ gRel b' R K P B L F' G := by
  obtain ⟨a, hw, hR, hM⟩ := h.1
  have h4 := hw.2.2.2.1
  rw [f_X3_count, f_X4_count]
  by_cases e0 : p1 = 0
  · rw [if_pos e0, if_pos e0, p_gM4, p_c4, hR.2.2.2.2.1, hM 4 (by omega)]
    exact ⟨_, _, _, rfl, rfl, h⟩
  rw [if_neg e0, if_neg e0]
  by_cases e1 : p1 = 1
  · obtain ⟨n, t1, t2, t3, t4⟩ := h.2.2.2.1
    rw [if_pos e1, if_pos e1, t2, t3]
    exact ⟨_, _, _, rfl, rfl, h⟩
  rw [if_neg e1, if_neg e1]
  by_cases e2 : p1 = 2
  · rw [if_pos e2, if_pos e2, hR.2.2.2.2.1, c_sum h4 (by decide) hN, p_bd, show (4 : Int32) = nI 4 from rfl, r_sums (by decide) hM h4 hN, p_bd]
    exact ⟨_, _, _, rfl, by rw [sm_cong (a 4) (fun i hi => ((hR.2.2.2.2.2.2.2 i hi).2.2.2.1).trans (hM (9 + 8 * i) (by omega)).symm)], h⟩
  rw [if_neg e2, if_neg e2]
  by_cases e3 : p1 = 3
  · rw [if_pos e3, if_pos e3, hR.2.2.2.2.1, c_sum h4 (by decide) hN, p_bd, show (7 : Int32) = nI 7 from rfl, r_sums (by decide) hM h4 hN, p_bd]
    exact ⟨_, _, _, rfl, by rw [sm_cong (a 4) (fun i hi => ((hR.2.2.2.2.2.2.2 i hi).2.2.2.2.2).trans (hM (12 + 8 * i) (by omega)).symm)], h⟩
  rw [if_neg e3, if_neg e3, c_f0, r_f0, p_bd2, p_bd2]
  exact ⟨_, _, _, rfl, rfl, h.fnd⟩
theorem z0add (x : Int32) : 0 + x = x := by
  apply Int32.toBitVec_inj.mp
  show 0#32 + x.toBitVec = x.toBitVec
  simp
theorem zadd0 (x : Int32) : x + 0 = x := by
  apply Int32.toBitVec_inj.mp
  show x.toBitVec + 0#32 = x.toBitVec
  simp
theorem pr_status (h : gRel b R K P B L F G) (hN : 600 ≤ N) : ∃ r b' F', f_X3_status N b R T K P B L p1 = some (r, b') ∧ f_X4_status N F G p1 = some (r, F') ∧ gRel b' R K P B L F' G := by
  have hf := h.2.2.1
  rw [f_X3_status, f_X4_status, c_within, r_in, p_bd, p_bd]
  by_cases c : (-1 : Int32) ≤ p1 ∧ p1 ≤ 6
  · rw [bI_t c, if_neg z10, if_neg z10]
    by_cases e : p1 = -1
    · subst e
      have L : ∀ f i, i ≤ 7 → 7 - i < f → f_X4_status_L22 N F G (-1) f (sm (F 4) i) (nI i) = some (sm (F 4) 7, nI 7) := by
        intro f
        induction f with
        | zero => intro i _ h; exact absurd h (Nat.not_lt_zero _)
        | succ f ih =>
          intro i hi hf
          rw [f_X4_status_L22, show (7 : Int32) = nI 7 from rfl]
          by_cases e : i = 7
          · rw [if_pos (nI_le (by omega) (by omega)), e]
          · rw [if_neg (nI_ge (by omega) (by omega)), if_pos (by decide), p_grd _ (by omega) (by decide), p_let, p_let, p_cl (by omega), nI_1]
            exact ih (i + 1) (by omega) (by omega)
      rw [if_pos rfl, show (7 : Int32) = nI 7 from rfl, c_sum (by decide) (by decide) hN, p_bd, show f_X4_status_L22 N F G (-1) N 0 0 = _ from L N 0 (by omega) (by omega), p_bd2, sm_cong 7 hf]
      exact ⟨_, _, _, rfl, rfl, h⟩
    · have c0 : nI 0 ≤ p1 ∧ p1 ≤ nI 6 := by
        refine ⟨?_, c.2⟩
        have c1 := c.1
        rw [fa_le] at c1 ⊢
        rw [fa_eq] at e
        have e1 : (-1 : Int32).toInt = -1 := rfl
        have e2 : (nI 0).toInt = 0 := rfl
        omega
      obtain ⟨k, -, hk, rfl⟩ := rngL (l := 0) (h := 6) (by decide) (by decide) c0
      have L : ∀ f i, i ≤ 7 → 7 - i < f → f_X4_status_L22 N F G (nI k) f (if k < i then F 4 k else 0) (nI i) = some (F 4 k, nI 7) := by
        intro f
        induction f with
        | zero => intro i _ h; exact absurd h (Nat.not_lt_zero _)
        | succ f ih =>
          intro i hi hf
          rw [f_X4_status_L22, show (7 : Int32) = nI 7 from rfl]
          by_cases e : i = 7
          · rw [if_pos (nI_le (by omega) (by omega)), e, if_pos (by omega)]
          · rw [if_neg (nI_ge (by omega) (by omega)), if_neg (nI_pos (by omega)), i_eq (by omega) (by omega)]
            have ihi := ih (i + 1) (by omega) (by omega)
            by_cases e2 : k = i
            · subst e2
              rw [if_pos rfl, p_grd _ (by omega) (by decide), p_let, p_let, p_cl (by omega), nI_1, if_neg (by omega), z0add]
              rw [if_pos (by omega)] at ihi
              exact ihi
            · rw [if_neg e2, p_let, p_let, nI_1, zadd0]
              have ee : (if k < i + 1 then F 4 k else 0) = (if k < i then F 4 k else 0) := by
                by_cases e3 : k < i
                · rw [if_pos e3, if_pos (by omega)]
                · rw [if_neg e3, if_neg (by omega)]
              rw [ee] at ihi
              exact ihi
      rw [if_neg e, p_grd _ (by omega) (by decide), p_cl (by omega), show f_X4_status_L22 N F G (nI k) N 0 0 = _ from L N 0 (by omega) (by omega), p_bd2, hf k (by omega)]
      exact ⟨_, _, _, rfl, rfl, h⟩
  · rw [bI_f c, if_pos rfl, if_pos rfl, c_f0, r_f0, p_bd2, p_bd2]
    exact ⟨_, _, _, rfl, rfl, h.fnd⟩
/-! images -/
theorem pr_image (h : gRel b R K P B L F G) (hN : 600 ≤ N) : ∃ r b' K' F', f_X3_image N b R T K P B L = some (r, b', K') ∧ f_X4_image N F G = some (r, F') ∧ gRel b' R K' P B L F' G := by
  obtain ⟨⟨a, hw, hR, hM⟩, h2, h3, ⟨n, t1, t2, t3, t4⟩, h5⟩ := h
  obtain ⟨K', e1, e2⟩ := c_bec (N := N) (F := K) (by omega) hR hw
  obtain ⟨E, e3, e4⟩ := r_copy (N := N) (E := F 1) (F := F 2) (by omega)
  rw [f_X3_image, f_X4_image, e1, e3, p_bd, p_bd, p_let, p_let, p_let]
  refine ⟨_, _, _, _, rfl, rfl, ⟨a, hw, hR, hM⟩, Or.inr ⟨rfl, rfl, a, hw, e2, ?_⟩, h3, ⟨n, t1, t2, t3, t4⟩, h5⟩
  exact mR_cong hM hw.2.2.2.1 e4
theorem pr_undo (h : gRel b R K P B L F G) (hN : 600 ≤ N) : ∃ r b' R' F', f_X3_undo N b R T K P B L = some (r, b', R') ∧ f_X4_undo N F G = some (r, F') ∧ gRel b' R' K P B L F' G := by
  have h0 := h
  obtain ⟨h1, h2, h3, ⟨n, t1, t2, t3, t4⟩, h5⟩ := h
  rw [f_X3_undo, f_X4_undo]
  rcases h2 with ⟨g1, g2⟩ | ⟨g1, g2, a, hw, hR, hM⟩
  · rw [if_pos g1, if_pos g2, c_f3, r_f3, p_bd2, p_bd2]
    exact ⟨_, _, _, _, rfl, rfl, h0.fnd⟩
  · obtain ⟨R', e1, e2⟩ := c_bec (N := N) (F := R) (by omega) hR hw
    obtain ⟨E, e3, e4⟩ := r_copy (N := N) (E := F 2) (F := F 1) (by omega)
    have hM' : mRel E a := mR_cong hM hw.2.2.2.1 e4
    rw [if_neg (by rw [g1]; decide), if_neg (by rw [g2]; decide), e1, e3, p_bd, p_bd, p_let, p_gM4, p_c4, e2.2.2.2.2.1]
    have e5 : (va_up F 1 E) 1 4 = nI (a 4) := hM' 4 (by omega)
    rw [e5]
    exact ⟨_, _, _, _, rfl, rfl, ⟨a, hw, e2, hM'⟩, Or.inr ⟨g1, g2, a, hw, hR, hM⟩, h3, ⟨n, t1, t2, t3, t4⟩, h5⟩
theorem pr_tear (h : gRel b R K P B L F G) : ∃ r b' F', f_X3_tear N b R T K P B L = some (r, b') ∧ f_X4_tear N F G = some (r, F') ∧ gRel b' R K P B L F' G := by
  obtain ⟨h1, h2, h3, ⟨n, t1, t2, t3, t4⟩, h5⟩ := h
  rw [f_X3_tear, f_X4_tear]
  rcases h2 with ⟨g1, g2⟩ | ⟨g1, g2, -⟩
  · rw [if_pos g1, if_pos g2, p_let, p_let]
    exact ⟨_, _, _, rfl, rfl, h1, Or.inl ⟨rfl, rfl⟩, h3, ⟨n, t1, t2, t3, t4⟩, h5⟩
  · rw [if_neg (by rw [g1]; decide), if_neg (by rw [g2]; decide), p_let, p_let]
    exact ⟨_, _, _, rfl, rfl, h1, Or.inl ⟨rfl, rfl⟩, h3, ⟨n, t1, t2, t3, t4⟩, h5⟩
theorem pr_wipe (h : gRel b R K P B L F G) : ∃ r P' F', f_X3_wipe N b R T K P B L = some (r, P') ∧ f_X4_wipe N F G = some (r, F') ∧ gRel b R K P' B L F' G := by
  obtain ⟨h1, h2, h3, ⟨n, t1, t2, t3, t4⟩, h5⟩ := h
  rw [f_X3_wipe, f_X4_wipe, p_let, p_let, p_let, p_let, t2, t3]
  exact ⟨_, _, _, rfl, rfl, h1, h2, h3, ⟨0, by omega, rfl, rfl, fun i hi => absurd hi (Nat.not_lt_zero _)⟩, h5⟩
/-! as, of, set -/
theorem b_kind {m : Nat} : ∀ k, k < 6 → ∀ w, w < 6 → f_X3_isOfKind (m + 7) (nI k) (nI w) = some (bI (w = 0 ∨ w = k ∨ (w = 1 ∧ k = 4) ∨ (w = 2 ∧ k = 5))) := by
  intro k hk w hw
  rcases lt6 hk with rfl | rfl | rfl | rfl | rfl | rfl <;> rcases lt6 hw with rfl | rfl | rfl | rfl | rfl | rfl <;> rfl
theorem r_asY {i : Nat} (h8 : i < 8) : f_X4_as_B61 N F G (nI i) = some (F 1 (9 + 8 * i), F) := by rw [f_X4_as_B61, f_X4_as_B66, if_neg z10, r_it4 h8, p_bd]
theorem r_asN {i : Nat} : f_X4_as_B65 N F G (nI i) = some (-1000000003, fF F 2) := by rw [f_X4_as_B65, f_X4_as_B66, if_pos rfl, r_f2, p_bd2]
theorem pr_as (h : gRel b R K P B L F G) (hN : 600 ≤ N) : ∃ r b' F', f_X3_as N b R T K P B L p1 p2 = some (r, b') ∧ f_X4_as N F G p1 p2 = some (r, F') ∧ gRel b' R K P B L F' G := by
  obtain ⟨a, hw, hR, hM⟩ := h.1
  have h4 := hw.2.2.2.1
  rw [f_X3_as, f_X4_as, c_has hR.2.2.2.2.1, r_has (hM 4 (by omega)) h4, p_bd, p_bd]
  by_cases c : hasI (a 4) p1
  · rw [bI_t c, if_neg z10, if_neg z10, c_within, r_in, p_bd, p_bd]
    obtain ⟨i, hi, rfl⟩ := hasI_of (by omega) c
    have h8 : i < 8 := by omega
    obtain ⟨hk, -, -, -, -, -⟩ := hw.2.2.2.2 i hi
    by_cases d : (0 : Int32) ≤ p2 ∧ p2 ≤ 5
    · rw [bI_t d, if_neg z10, if_neg z10]
      obtain ⟨w, -, hw6, rfl⟩ := rngL (l := 0) (h := 5) (by decide) (by decide) d
      obtain ⟨m, rfl⟩ : ∃ m, N = m + 7 := ⟨N - 7, by omega⟩
      obtain ⟨g1, g2, g3, g4, g5, g6⟩ := hR.2.2.2.2.2.2.2 i hi
      rw [p_grd _ h8 (by decide), p_grd _ h8 (by decide), p_cl (by omega), g1, g4, b_kind _ hk _ (by omega), p_bd, r_it0 h8, p_bd, hM _ (by omega), i_e0 (by omega), i_eq (by omega) (by omega), i_e1 (by omega), i_e4 (by omega), f_X4_as_B51, i_e2 (by omega), i_e5 (by omega), r_asY h8, r_asN, hM _ (by omega), c_f2, p_bd2]
      generalize a (5 + 8 * i) = k at hk ⊢
      by_cases q : w = 0 ∨ w = k ∨ (w = 1 ∧ k = 4) ∨ (w = 2 ∧ k = 5)
      · rw [bI_t q, if_neg z10]
        refine ⟨_, _, F, rfl, ?_, h⟩
        by_cases q0 : w = 0
        · rw [if_pos q0]
        rw [if_neg q0]
        by_cases q1 : w = k
        · rw [if_pos q1]
        rw [if_neg q1]
        by_cases q2 : w = 1
        · rw [if_pos q2, if_pos (by omega)]
        rw [if_neg q2, if_pos (by omega), if_pos (by omega)]
      · rw [bI_f q, if_pos rfl]
        refine ⟨_, _, fF F 2, rfl, ?_, h.fnd⟩
        rw [if_neg (by omega), if_neg (by omega)]
        by_cases q2 : w = 1
        · rw [if_pos q2, if_neg (by omega), if_neg (by omega)]
        rw [if_neg q2]
        by_cases q3 : w = 2
        · rw [if_pos q3, if_neg (by omega)]
        rw [if_neg q3]
    · rw [bI_f d, if_pos rfl, if_pos rfl, f_X3_as_B20, f_X4_as_B18, c_f0, r_f0, p_bd2, p_bd2]
      exact ⟨_, _, _, rfl, rfl, h.fnd⟩
  · rw [bI_f c, if_pos rfl, if_pos rfl, f_X3_as_B20, f_X4_as_B18, c_f0, r_f0, p_bd2, p_bd2]
    exact ⟨_, _, _, rfl, rfl, h.fnd⟩
end PR2
