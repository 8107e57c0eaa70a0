/-! ===== pure 15: sheets, by both ===== -/
theorem va_s {α : Type} {f : Nat → α} {k : Nat} {v : α} : va_up f k v k = v := if_pos rfl
theorem va_n {α : Type} {f : Nat → α} {k j : Nat} {v : α} (h : j ≠ k) : va_up f k v j = f j := if_neg h
theorem ix40 (s i : Nat) : (40 : Int32) * nI s + nI i = nI (40 * s + i) := by rw [show (40 : Int32) = nI 40 from rfl, pk_mul, nI_add]
section SH
variable {N : Nat} {b R T K P B F : Nat → Nat → Int32} {L : Nat → Nat → Int64} {G : Nat → Int64} {p1 p2 p3 p4 p5 : Int32}
/-- a sheet by its number: none, not there, or one -/
theorem sh_find (h : gS B L F G) : (∃ s, s < 4 ∧ p1 = nI s ∧ ¬ F 6 s = 0 ∧ f_X3_findingOfSheet N b R T K P B L p1 = some 0 ∧ f_X4_notThere N F G p1 = some 0) ∨ (f_X3_findingOfSheet N b R T K P B L p1 = some (-1000000001) ∧ f_X4_notThere N F G p1 = some (-1000000001)) ∨ (f_X3_findingOfSheet N b R T K P B L p1 = some (-1000000006) ∧ f_X4_notThere N F G p1 = some (-1000000006)) := by
  rw [f_X3_findingOfSheet, f_X4_notThere, f_X4_isSheet, c_within, r_in, p_bd, p_bd, q_gbI, p_bd]
  by_cases c : (0 : Int32) ≤ p1 ∧ p1 ≤ 3
  · rw [bI_t c, if_neg z10, if_neg z10]
    obtain ⟨s, -, hs, rfl⟩ := rngL (l := 0) (h := 3) (by decide) (by decide) c
    obtain ⟨z, hz, e1, -⟩ := h s (by omega)
    rw [p_grd _ (by omega) (by decide), p_grd _ (by omega) (by decide), p_cl (by omega), e1]
    by_cases d : F 6 s = 0
    · rw [if_pos d]
      exact Or.inr (Or.inr ⟨rfl, rfl⟩)
    · rw [if_neg d]
      exact Or.inl ⟨s, by omega, rfl, d, rfl, rfl⟩
  · rw [bI_f c, if_pos rfl, if_pos rfl]
    exact Or.inr (Or.inl ⟨rfl, rfl⟩)
theorem gRel.sht {B' F' : Nat → Nat → Int32} {L' : Nat → Nat → Int64} {G' : Nat → Int64} (h : gRel b R K P B L F G) (hx : ∀ j, j ≠ 6 → j ≠ 7 → F' j = F j) (hs : gS B' L' F' G') : gRel b R K P B' L' F' G' := by
  obtain ⟨h1, h2, h3, ⟨n, t1, t2, t3, t4⟩, h5⟩ := h
  exact ⟨by rw [hx 1 (by decide) (by decide)]; exact h1, by rw [hx 0 (by decide) (by decide), hx 2 (by decide) (by decide)]; exact h2, by rw [hx 4 (by decide) (by decide)]; exact h3, ⟨n, t1, t2, by rw [hx 0 (by decide) (by decide)]; exact t3, by rw [hx 5 (by decide) (by decide)]; exact t4⟩, hs⟩
theorem gS_x {F' : Nat → Nat → Int32} (h : gS B L F G) (hx : sX F F') : gS B L F' G := by
  intro s hs
  rw [hx 6 (by decide), hx 7 (by decide)]
  exact h s hs
/-! sheet -/
theorem c_renew_L {z : Nat} {Br : Nat → Int32} (hz : z ≤ 40) (hB : Br 1 = nI z) : ∀ m i f l, i + m = z → m < f → (∀ k, k < i → l k = 0) → ∃ l', f_X1_renew_L20 N Br f (nI i) l = some (nI z, l') ∧ ∀ k, k < z → l' k = 0 := by
  intro m
  induction m with
  | zero =>
    intro i f l hi hf h0
    obtain ⟨f, rfl⟩ : ∃ g, f = g + 1 := ⟨f - 1, by omega⟩
    rw [f_X1_renew_L20, hB, if_pos (nI_le (by omega) (by omega)), show i = z by omega]
    exact ⟨l, rfl, fun k hk => h0 k (by omega)⟩
  | succ m ih =>
    intro i f l hi hf h0
    obtain ⟨f, rfl⟩ : ∃ g, f = g + 1 := ⟨f - 1, by omega⟩
    rw [f_X1_renew_L20, hB, if_neg (nI_ge (by omega) (by omega)), p_grd _ (by omega) (by decide), p_let, p_let, nI_1, p_cl (by omega)]
    refine ih (i + 1) f _ (by omega) (by omega) (fun k hk => ?_)
    by_cases e : k = i
    · subst e; rw [pk_uLs]
    · rw [pk_uLn e]; exact h0 k (by omega)
def zOf (x : Int32) (z : Nat) : Nat := if x = 0 then 0 else z
theorem c_renew {z : Nat} {Br : Nat → Int32} {l : Nat → Int64} (hN : 600 ≤ N) (hz : z ≤ 40) : ∃ E1 E2, f_X1_renew N Br l p2 (nI z) = some (E1, E2) ∧ E1 0 = p2 ∧ E1 1 = nI (zOf p2 z) ∧ ∀ k, k < zOf p2 z → E2 k = 0 := by
  rw [f_X1_renew, p_let]
  unfold zOf
  by_cases c : p2 = 0
  · rw [if_pos c, if_pos c, p_let]
    obtain ⟨l', e1, e2⟩ := c_renew_L (N := N) (z := 0) (Br := upd (upd Br 0 p2) 1 0) (by decide) pk_us 0 0 N l (by omega) (by omega) (fun k hk => absurd hk (Nat.not_lt_zero _))
    rw [show f_X1_renew_L20 N (upd (upd Br 0 p2) 1 0) N 0 l = _ from e1, p_bd2]
    exact ⟨_, _, rfl, by rw [pk_un (by decide), pk_us], pk_us, e2⟩
  · rw [if_neg c, if_neg c, p_let]
    obtain ⟨l', e1, e2⟩ := c_renew_L (N := N) (z := z) (Br := upd (upd Br 0 p2) 1 (nI z)) hz pk_us z 0 N l (by omega) (by omega) (fun k hk => absurd hk (Nat.not_lt_zero _))
    rw [show f_X1_renew_L20 N (upd (upd Br 0 p2) 1 (nI z)) N 0 l = _ from e1, p_bd2]
    exact ⟨_, _, rfl, by rw [pk_un (by decide), pk_us], pk_us, e2⟩
theorem r_sheet_L {s : Nat} (hs : s < 4) : ∀ m i f G, i + m = 40 → m < f → ∃ G', f_X4_sheet_L85 N F (nI s) f (nI i) G = some (nI 40, G') ∧ (∀ k, i ≤ k → k < 40 → G' (40 * s + k) = 0) ∧ ∀ j, ¬ (40 * s + i ≤ j ∧ j < 40 * s + 40) → G' j = G j := by
  intro m
  induction m with
  | zero =>
    intro i f G hi hf
    obtain ⟨f, rfl⟩ : ∃ g, f = g + 1 := ⟨f - 1, by omega⟩
    rw [f_X4_sheet_L85, if_pos (show (40 : Int32) ≤ nI i from nI_le (a := 40) (by omega) (by omega)), show i = 40 by omega]
    exact ⟨G, rfl, fun k h1 h2 => absurd h1 (by omega), fun _ _ => rfl⟩
  | succ m ih =>
    intro i f G hi hf
    obtain ⟨f, rfl⟩ : ∃ g, f = g + 1 := ⟨f - 1, by omega⟩
    rw [f_X4_sheet_L85, if_neg (show ¬ (40 : Int32) ≤ nI i from nI_ge (b := 40) (by omega) (by omega)), ix40, p_grd _ (by omega) (by decide), p_let, p_let, nI_1, p_cl (by omega)]
    obtain ⟨G', e1, e2, e3⟩ := ih (i + 1) f (vp_updL G (40 * s + i) 0) (by omega) (by omega)
    refine ⟨G', e1, fun k h1 h2 => ?_, fun j hj => ?_⟩
    · by_cases e : k = i
      · subst e; rw [e3 _ (by omega), pk_uLs]
      · exact e2 k (by omega) h2
    · rw [e3 j (by omega), pk_uLn (by omega)]
theorem r_sheetB {s z : Nat} (hN : 600 ≤ N) (hs : s < 4) (hz : z ≤ 40) : ∃ F' G', f_X4_sheet_B36 N F G (nI s) p2 (nI z) = some (nI (zOf p2 z), F', G') ∧ (∀ j, j ≠ 6 → j ≠ 7 → F' j = F j) ∧ F' 6 = upd (F 6) s p2 ∧ F' 7 = upd (F 7) s (nI (zOf p2 z)) ∧ (∀ k, k < 40 → G' (40 * s + k) = 0) ∧ ∀ j, ¬ (40 * s ≤ j ∧ j < 40 * s + 40) → G' j = G j := by
  rw [f_X4_sheet_B36, if_pos (nI_pos' (by omega)), if_pos (show nI z ≤ 40 from nI_le (b := 40) hz (by decide)), p_grd _ hs (by decide), p_let]
  unfold zOf
  by_cases c : p2 = 0
  · obtain ⟨G', e1, e2, e3⟩ := r_sheet_L (N := N) (F := q_up (q_up F 6 s p2) 7 s 0) hs 40 0 N G (by omega) (by omega)
    rw [if_pos c, if_pos c, p_grd _ hs (by decide), p_let, p_cl (by omega), show f_X4_sheet_L85 N (q_up (q_up F 6 s p2) 7 s 0) (nI s) N 0 G = _ from e1, p_bd2, p_grd _ hs (by decide)]
    refine ⟨q_up (q_up F 6 s p2) 7 s 0, G', ?_, fun j h6 h7 => by rw [qu_n h7, qu_n h6], by rw [qu_n (by decide), qu_s], by rw [qu_s, qu_n (by decide)]; rfl, fun k hk => e2 k (by omega) hk, fun j hj => e3 j hj⟩
    rw [show q_up (q_up F 6 s p2) 7 s 0 7 s = 0 by rw [qu_s, pk_us]]; rfl
  · obtain ⟨G', e1, e2, e3⟩ := r_sheet_L (N := N) (F := q_up (q_up F 6 s p2) 7 s (nI z)) hs 40 0 N G (by omega) (by omega)
    rw [if_neg c, if_neg c, p_grd _ hs (by decide), p_let, p_cl (by omega), show f_X4_sheet_L85 N (q_up (q_up F 6 s p2) 7 s (nI z)) (nI s) N 0 G = _ from e1, p_bd2, p_grd _ hs (by decide)]
    refine ⟨q_up (q_up F 6 s p2) 7 s (nI z), G', ?_, fun j h6 h7 => by rw [qu_n h7, qu_n h6], by rw [qu_n (by decide), qu_s], by rw [qu_s, qu_n (by decide)], fun k hk => e2 k (by omega) hk, fun j hj => e3 j hj⟩
    rw [show q_up (q_up F 6 s p2) 7 s (nI z) 7 s = nI z by rw [qu_s, pk_us]]
theorem zOf_le {x : Int32} {z : Nat} (hz : z ≤ 40) : zOf x z ≤ 40 := by unfold zOf; split <;> omega
theorem pr_sheetB {s : Nat} (h : gRel b R K P B L F G) (hN : 600 ≤ N) (hs : s < 4) (hg : gB p2) : ∃ r b' B' L' F' G', f_X3_sheet_B38 N b R T K P B L (nI s) p2 p3 = some (r, b', B', L') ∧ f_X4_sheet_B36 N F G (nI s) p2 p3 = some (r, F', G') ∧ gRel b' R K P B' L' F' G' := by
  by_cases c : 0 ≤ p3
  · by_cases d : p3 ≤ 40
    · obtain ⟨z, -, hz, rfl⟩ := rngL (l := 0) (h := 40) (by decide) (by decide) ⟨c, d⟩
      obtain ⟨E1, E2, e1, e2, e3, e4⟩ := c_renew (N := N) (Br := B s) (l := L s) (p2 := p2) hN hz
      obtain ⟨F', G', f1, f2, f3, f4, f5, f6⟩ := r_sheetB (N := N) (F := F) (G := G) (p2 := p2) hN hs hz
      refine ⟨nI (zOf p2 z), b, va_up B s E1, va_up L s E2, F', G', ?_, f1, h.sht f2 ?_⟩
      · rw [f_X3_sheet_B38, if_pos c, if_pos d, p_grd _ hs (by decide), p_cl (by omega), e1, p_bd2, p_let, p_let, p_grd _ hs (by decide), va_s, e3]
      · intro s' hs'
        by_cases e : s' = s
        · subst e
          refine ⟨zOf p2 z, zOf_le hz, by rw [va_s, e2, f3, pk_us], by rw [f3, pk_us]; exact hg, by rw [va_s, e3], by rw [f4, pk_us], fun i hi => ?_⟩
          have := zOf_le (x := p2) hz
          rw [va_s, e4 i hi, f5 i (by omega)]
        · obtain ⟨z', g1, g2, g3, g4, g5, g6⟩ := h.2.2.2.2 s' hs'
          refine ⟨z', g1, by rw [va_n e, f3, pk_un e, g2], by rw [f3, pk_un e]; exact g3, by rw [va_n e, g4], by rw [f4, pk_un e, g5], fun i hi => ?_⟩
          rw [va_n e, g6 i hi, f6 _ (by omega)]
    · rw [f_X3_sheet_B38, f_X4_sheet_B36, if_pos c, if_pos c, if_neg d, if_neg d, c_f0, r_f0, p_bd2, p_bd2]
      exact ⟨_, _, _, _, _, _, rfl, rfl, h.fnd⟩
  · rw [f_X3_sheet_B38, f_X4_sheet_B36, if_neg c, if_neg c, c_f6, r_f6, p_bd2, p_bd2]
    exact ⟨_, _, _, _, _, _, rfl, rfl, h.fnd⟩
theorem pr_sheet (h : gRel b R K P B L F G) (hN : 600 ≤ N) : ∃ r b' B' L' F' G', f_X3_sheet N b R T K P B L p1 p2 p3 = some (r, b', B', L') ∧ f_X4_sheet N F G p1 p2 p3 = some (r, F', G') ∧ gRel b' R K P B' L' F' G' := by
  have bad : ∃ r b' B' L' F' G', f_X3_sheet_B31 N b R T K P B L = some (r, b', B', L') ∧ f_X4_sheet_B29 N F G = some (r, F', G') ∧ gRel b' R K P B' L' F' G' := by
    rw [f_X3_sheet_B31, f_X4_sheet_B29, c_f0, r_f0, p_bd2, p_bd2]
    exact ⟨_, _, _, _, _, _, rfl, rfl, h.fnd⟩
  rw [f_X3_sheet, f_X4_sheet, f_X4_isSheet, c_within, r_in, p_bd, p_bd, q_gbI, p_bd]
  by_cases c : (0 : Int32) ≤ p1 ∧ p1 ≤ 3
  · rw [bI_t c, if_neg z10, if_neg z10]
    obtain ⟨s, -, hs, rfl⟩ := rngL (l := 0) (h := 3) (by decide) (by decide) c
    by_cases c0 : p2 = 0
    · rw [if_pos c0, if_pos c0]; exact pr_sheetB h hN (by omega) (Or.inl c0)
    · rw [if_neg c0, if_neg c0]
      by_cases c1 : p2 = 8
      · rw [if_pos c1, if_pos c1]; exact pr_sheetB h hN (by omega) (Or.inr (Or.inl c1))
      · rw [if_neg c1, if_neg c1]
        by_cases c2 : p2 = 16
        · rw [if_pos c2, if_pos c2]; exact pr_sheetB h hN (by omega) (Or.inr (Or.inr (Or.inl c2)))
        · rw [if_neg c2, if_neg c2]
          by_cases c3 : p2 = 64
          · rw [if_pos c3, if_pos c3]; exact pr_sheetB h hN (by omega) (Or.inr (Or.inr (Or.inr c3)))
          · rw [if_neg c3, if_neg c3]; exact bad
  · rw [bI_f c, if_pos rfl, if_pos rfl]; exact bad
/-! write -/
def ct (x : Int32) (v : Int64) : Int64 := if x = 8 then v.toInt32.toInt8.toInt32.toInt64 else if x = 16 then v.toInt32.toInt16.toInt32.toInt64 else v
theorem r_cut64 {x : Int32} {v : Int64} : f_X4_cutTo N x v = some (ct x v) := by
  unfold f_X4_cutTo ct
  by_cases c : x = 8
  · rw [if_pos c, if_pos c]
  · rw [if_neg c, if_neg c]
    by_cases d : x = 16
    · rw [if_pos d, if_pos d]
    · rw [if_neg d, if_neg d]
theorem c_put {Br : Nat → Int32} {l : Nat → Int64} {i : Nat} {v : Int64} (hi : i < 40) : f_X1_put N Br l (nI i) v = some (vp_updL l i (ct (Br 0) v)) := by
  unfold f_X1_put ct
  by_cases c : Br 0 = 8
  · rw [if_pos c, if_pos c, p_grd _ hi (by decide), p_let, p_cl (by omega)]
  · rw [if_neg c, if_neg c]
    by_cases d : Br 0 = 16
    · rw [if_pos d, if_pos d, p_grd _ hi (by decide), p_let, p_cl (by omega)]
    · rw [if_neg d, if_neg d, p_grd _ hi (by decide), p_let, p_cl (by omega)]
theorem gS_put {s i : Nat} {v : Int64} (h : gS B L F G) (hs : s < 4) (hi : i < 40) : gS B (va_up L s (vp_updL (L s) i v)) F (vp_updL G (40 * s + i) v) := by
  intro s' hs'
  obtain ⟨z', g1, g2, g3, g4, g5, g6⟩ := h s' hs'
  refine ⟨z', g1, g2, g3, g4, g5, fun k hk => ?_⟩
  by_cases e : s' = s
  · subst e
    rw [va_s]
    by_cases d : k = i
    · subst d; rw [pk_uLs, pk_uLs]
    · rw [pk_uLn d, pk_uLn (by omega)]; exact g6 k hk
  · rw [va_n e, pk_uLn (by omega)]; exact g6 k hk
theorem pr_write {v : Int64} (h : gRel b R K P B L F G) (hN : 600 ≤ N) : ∃ r b' L' F' G', f_X3_write N b R T K P B L p1 p2 v = some (r, b', L') ∧ f_X4_write N F G p1 p2 v = some (r, F', G') ∧ gRel b' R K P B L' F' G' := by
  rw [f_X3_write, f_X4_write]
  rcases sh_find (N := N) (b := b) (R := R) (T := T) (K := K) (P := P) (p1 := p1) h.2.2.2.2 with ⟨s, hs, rfl, h6, e1, e2⟩ | ⟨e1, e2⟩ | ⟨e1, e2⟩
  · obtain ⟨z, g1, g2, g3, g4, g5, g6⟩ := h.2.2.2.2 s hs
    rw [e1, e2, p_bd, p_bd, if_pos rfl, if_pos rfl]
    simp only [p_grd _ hs (show 4 < 2 ^ 31 by decide)]
    rw [p_cl (by omega), c_within, r_in, p_bd, p_bd, g4, g5]
    by_cases c : 0 ≤ p2 ∧ p2 ≤ nI z - 1
    · rw [bI_t c, if_neg z10, if_neg z10]
      cases z with
      | zero =>
        exfalso
        have c1 := c.1
        have c2 := c.2
        rw [fa_le] at c1 c2
        have q1 : (0 : Int32).toInt = 0 := rfl
        have q2 : (nI 0 - 1).toInt = -1 := rfl
        omega
      | succ y =>
        rw [nI_pred] at c
        obtain ⟨i, -, hi, rfl⟩ := rngL (l := 0) (h := y) (by decide) (by omega) c
        rw [p_grd _ (by omega) (by decide), p_let, c_put (by omega), p_bd, p_let, p_cl (by omega)]
        rw [f_X4_write_B33, if_pos rfl, ix40, p_grd _ (by omega) (by decide), p_let, p_grd _ hs (by decide), r_cut64, p_bd, p_grd _ (by omega) (by decide), p_let, p_cl (by omega), p_cl (by omega), g6 i (by omega), g2]
        exact ⟨_, _, _, _, _, rfl, rfl, h.sht (fun _ _ _ => rfl) (gS_put h.2.2.2.2 hs (by omega))⟩
    · rw [bI_f c, if_pos rfl, if_pos rfl, f_X4_write_B33, if_neg (by decide), c_f0, r_f0, p_bd2, p_bd2]
      exact ⟨_, _, _, _, _, rfl, rfl, h.fnd⟩
  · rw [e1, e2, p_bd, p_bd, if_neg (by decide), if_neg (by decide), f_X4_write_B33, if_neg (by decide), c_f0, r_f0, p_bd2, p_bd2]
    exact ⟨_, _, _, _, _, rfl, rfl, h.fnd⟩
  · rw [e1, e2, p_bd, p_bd, if_neg (by decide), if_neg (by decide), f_X4_write_B33, if_neg (by decide), c_f5, r_f5, p_bd2, p_bd2]
    exact ⟨_, _, _, _, _, rfl, rfl, h.fnd⟩
/-! lays -/
theorem x99 {x : Int64} (h1 : ¬ x < 0) (h2 : ¬ (99 : Int64) < x) : ∃ v, v < 100 ∧ x.toInt32 = nI v := by
  obtain ⟨k, hk, rfl⟩ := pk_lOf h1
  rw [show (99 : Int64) = lN 99 from rfl, pk_lLT (by omega) hk] at h2
  refine ⟨k, by omega, ?_⟩
  apply Int32.toInt_inj.mp
  rw [Int64.toInt_toInt32, pk_lT hk, nI_toInt (by omega)]
  exact Int.bmod_eq_of_le (by omega) (by omega)
theorem pr_lays_L {s z : Nat} (hs : s < 4) (hz : z ≤ 40) (g4 : B s 1 = nI z) (g6 : ∀ i, i < z → L s i = G (40 * s + i)) : ∀ m i f c R F a, z ≤ i + m → i ≤ 40 → m < f → F 7 s = nI z → wf a → cRel R a → mRel (F 1) a → ∃ r x y R' F' a', f_X3_lays_L21 N b T K P B L (nI s) f (nI c) (nI i) R = some (r, x, R') ∧ f_X4_lays_L21 N G (nI s) f (nI c) (nI i) F = some (r, y, F') ∧ wf a' ∧ cRel R' a' ∧ mRel (F' 1) a' ∧ sX F F' := by
  intro m
  induction m with
  | zero =>
    intro i f c R F a hi h40 hf h7 hw hR hM
    obtain ⟨f, rfl⟩ : ∃ g, f = g + 1 := ⟨f - 1, by omega⟩
    rw [f_X3_lays_L21, f_X4_lays_L21]
    simp only [p_grd _ hs (show 4 < 2 ^ 31 by decide)]
    rw [p_cl (by omega), g4, h7, if_pos (nI_le (by omega) (by omega)), if_pos (nI_le (by omega) (by omega))]
    exact ⟨_, _, _, _, _, _, rfl, rfl, hw, hR, hM, sX.rf⟩
  | succ m ih =>
    intro i f c R F a hi h40 hf h7 hw hR hM
    obtain ⟨f, rfl⟩ : ∃ g, f = g + 1 := ⟨f - 1, by omega⟩
    have h4 := hw.2.2.2.1
    rw [f_X3_lays_L21, f_X4_lays_L21]
    simp only [p_grd _ hs (show 4 < 2 ^ 31 by decide)]
    rw [p_cl (by omega), g4, h7]
    by_cases c1 : z ≤ i
    · rw [if_pos (nI_le c1 (by omega)), if_pos (nI_le c1 (by omega))]
      exact ⟨_, _, _, _, _, _, rfl, rfl, hw, hR, hM, sX.rf⟩
    · rw [if_neg (nI_ge (by omega) (by omega)), if_neg (nI_ge (by omega) (by omega)), p_gM4, p_c4, hR.2.2.2.2.1, hM 4 (by omega)]
      by_cases c2 : a 4 ≤ i
      · rw [if_pos (nI_le c2 (by omega)), if_pos (nI_le c2 (by omega))]
        exact ⟨_, _, _, _, _, _, rfl, rfl, hw, hR, hM, sX.rf⟩
      · have h8 : i < 8 := by omega
        rw [if_neg (nI_ge (by omega) (by omega)), if_neg (nI_ge (by omega) (by omega)), ix40, p_grd _ (show 40 * s + i < 160 by omega) (by decide), p_grd _ (show i < 40 by omega) (by decide), p_let, p_cl (by omega), p_cl (by omega), f_X4_in, g6 i (by omega)]
        simp only [lg_lt0, lg_0lt, show (0 : Int32).toInt64 = 0 from rfl, show (99 : Int32).toInt64 = 99 from rfl]
        by_cases d1 : G (40 * s + i) < 0
        · rw [if_pos d1, if_pos d1, p_bd, if_pos rfl, p_let, p_let, nI_1]
          exact ih (i + 1) f c R F a (by omega) (by omega) (by omega) h7 hw hR hM
        · rw [if_neg d1, if_neg d1]
          by_cases d2 : (99 : Int64) < G (40 * s + i)
          · rw [if_pos d2, if_pos d2, p_bd, if_pos rfl, p_let, p_let, nI_1]
            exact ih (i + 1) f c R F a (by omega) (by omega) (by omega) h7 hw hR hM
          · obtain ⟨v, hv, ev⟩ := x99 d1 d2
            have hi4 : i < a 4 := by omega
            rw [if_neg d2, if_neg d2, p_bd, if_neg z10, p_grd _ h8 (by decide), p_grd _ (show 40 * s + i < 160 by omega) (by decide), ev, r_put4 h8, p_bd, p_let, p_let, p_let, p_let, p_let, nI_1, nI_1]
            obtain ⟨r, x, y, R', F', a', q1, q2, q3, q4, q5, q6⟩ := ih (i + 1) f (c + 1) _ _ _ (by omega) (by omega) (by omega) (show q_up F 1 (9 + 8 * i) (nI v) 7 s = nI z by rw [qu_n (by decide)]; exact h7) (wf_wet hw hi4 hv) (cR_wet (v := v) hR hi4) (mR_q (v := v) hM (show 9 + 8 * i ≠ 4 by omega))
            exact ⟨r, x, y, R', F', a', q1, q2, q3, q4, q5, sX.up.tr q6⟩
theorem pr_lays (h : gRel b R K P B L F G) (hN : 600 ≤ N) : ∃ r b' R' F', f_X3_lays N b R T K P B L p1 = some (r, b', R') ∧ f_X4_lays N F G p1 = some (r, F') ∧ gRel b' R' K P B L F' G := by
  obtain ⟨a, hw, hR, hM⟩ := h.1
  rw [f_X3_lays, f_X4_lays]
  rcases sh_find (N := N) (b := b) (R := R) (T := T) (K := K) (P := P) (p1 := p1) h.2.2.2.2 with ⟨s, hs, rfl, h6, e1, e2⟩ | ⟨e1, e2⟩ | ⟨e1, e2⟩
  · obtain ⟨z, g1, g2, g3, g4, g5, g6⟩ := h.2.2.2.2 s hs
    obtain ⟨r, x, y, R', F', a', q1, q2, q3, q4, q5, q6⟩ := pr_lays_L (N := N) (b := b) (T := T) (K := K) (P := P) hs g1 g4 g6 z 0 N 0 R F a (by omega) (by omega) (by omega) g5 hw hR hM
    rw [e1, e2, p_bd, p_bd, if_pos rfl, if_pos rfl, show f_X3_lays_L21 N b T K P B L (nI s) N 0 0 R = _ from q1, show f_X4_lays_L21 N G (nI s) N 0 0 F = _ from q2, p_bd3, p_bd3]
    exact ⟨_, _, _, _, rfl, rfl, h.isl q6 ⟨a', q3, q4, q5⟩⟩
  · rw [e1, e2, p_bd, p_bd, if_neg (by decide), if_neg (by decide), c_f0, r_f0, p_bd2, p_bd2]
    exact ⟨_, _, _, _, rfl, rfl, h.fnd⟩
  · rw [e1, e2, p_bd, p_bd, if_neg (by decide), if_neg (by decide), c_f5, r_f5, p_bd2, p_bd2]
    exact ⟨_, _, _, _, rfl, rfl, h.fnd⟩
end SH
