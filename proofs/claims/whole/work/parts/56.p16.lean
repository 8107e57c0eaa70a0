/-! ===== pure 16: copy, book, read, by both ===== -/
section CP
variable {N : Nat} {b R T K P B F : Nat → Nat → Int32} {L : Nat → Nat → Int64} {G : Nat → Int64} {p1 p2 p3 p4 p5 : Int32}
theorem s_neg {z i : Nat} (hz : z ≤ 40) (hi : i < 2 ^ 31) (h : z < i) : nI z - nI i < 0 := by
  rw [fa_lt, Int32.toInt_sub, nI_toInt (by omega), nI_toInt hi]
  have q : (0 : Int32).toInt = 0 := rfl
  rw [q, Int.bmod_eq_of_le (by omega) (by omega)]
  omega
abbrev hn (z : Nat) (p q : Int32) : Prop := ¬ p < 0 ∧ ¬ q < 0 ∧ ¬ nI z - p < q
theorem c_hasN {z : Nat} {Br : Nat → Int32} {l : Nat → Int64} {p q : Int32} (hz : z ≤ 40) (hB : Br 1 = nI z) : f_X1_hasNumbers N Br l p q = some (bI (hn z p q)) := by
  unfold f_X1_hasNumbers hn
  rw [hB]
  by_cases c1 : p < 0
  · rw [if_pos c1, bI_f (fun h => h.1 c1)]
  · rw [if_neg c1]
    by_cases c2 : q < 0
    · rw [if_pos c2, bI_f (fun h => h.2.1 c2)]
    · rw [if_neg c2]
      by_cases c3 : nI z - p < q
      · rw [bI_f (fun h => h.2.2 c3), if_pos c3]
        split <;> rfl
      · rw [if_neg c3, bI_t ⟨c1, c2, c3⟩]
        obtain ⟨i, hi, rfl⟩ := nI_of c1
        by_cases c4 : z < i
        · exfalso
          have h1 := s_neg hz hi c4
          obtain ⟨j, hj, rfl⟩ := nI_of c2
          apply c3
          have h2 := nI_pos' hj
          rw [fa_lt] at h1 ⊢
          rw [fa_le] at h2
          omega
        · rw [if_neg (nI_nlt (a := z) (by omega) (by omega))]
theorem hn_of {z : Nat} {p q : Int32} (hz : z ≤ 40) (h : hn z p q) : ∃ i n, i + n ≤ z ∧ p = nI i ∧ q = nI n := by
  obtain ⟨c1, c2, c3⟩ := h
  obtain ⟨i, hi, rfl⟩ := nI_of c1
  obtain ⟨j, hj, rfl⟩ := nI_of c2
  by_cases c4 : z < i
  · exfalso
    have h1 := s_neg hz hi c4
    apply c3
    have h2 := nI_pos' hj
    rw [fa_lt] at h1 ⊢
    rw [fa_le] at h2
    omega
  · rw [pk_sub (by omega), nI_ltI (by omega) hj] at c3
    exact ⟨i, j, by omega, rfl, rfl⟩
def gU (a c t : Nat) (G : Nat → Int64) : Nat → Int64 := fun x => if c ≤ x ∧ x < c + t then G (x - c + a) else G x
def gD (a c n t : Nat) (G : Nat → Int64) : Nat → Int64 := fun x => if c + n - t ≤ x ∧ x < c + n then G (x - c + a) else G x
theorem gU_0 {a c : Nat} : gU a c 0 G = G := by
  funext x
  exact if_neg (by omega)
theorem gD_0 {a c n : Nat} : gD a c n 0 G = G := by
  funext x
  exact if_neg (by omega)
theorem gD_n {a c n : Nat} : gD a c n n G = gU a c n G := by
  funext x
  unfold gU gD
  rw [show c + n - n = c by omega]
theorem gU_s {a c n t : Nat} (ht : t < n) (h : c ≤ a ∨ a + n ≤ c) : vp_updL (gU a c t G) (c + t) (gU a c t G (a + t)) = gU a c (t + 1) G := by
  funext x
  rw [show gU a c t G (a + t) = G (a + t) from if_neg (by omega)]
  by_cases e : x = c + t
  · subst e
    rw [pk_uLs]
    unfold gU
    rw [if_pos (by omega), show c + t - c + a = a + t by omega]
  · rw [pk_uLn e]
    unfold gU
    by_cases d : c ≤ x ∧ x < c + t
    · rw [if_pos d, if_pos (by omega)]
    · rw [if_neg d, if_neg (by omega)]
theorem gD_s {a c n t : Nat} (ht : t < n) (h : a ≤ c ∨ c + n ≤ a) : vp_updL (gD a c n t G) (c + (n - 1 - t)) (gD a c n t G (a + (n - 1 - t))) = gD a c n (t + 1) G := by
  funext x
  rw [show gD a c n t G (a + (n - 1 - t)) = G (a + (n - 1 - t)) from if_neg (by omega)]
  by_cases e : x = c + (n - 1 - t)
  · subst e
    rw [pk_uLs]
    unfold gD
    rw [if_pos (by omega), show c + (n - 1 - t) - c + a = a + (n - 1 - t) by omega]
  · rw [pk_uLn e]
    unfold gD
    by_cases d : c + n - t ≤ x ∧ x < c + n
    · rw [if_pos d, if_pos (by omega)]
    · rw [if_neg d, if_neg (by omega)]
theorem r_copy_U {s1 s3 i j n : Nat} (h1 : s1 < 4) (h3 : s3 < 4) (hi : i + n ≤ 40) (hj : j + n ≤ 40) (hij : j ≤ i) : ∀ m t f, t + m = n → m < f → f_X4_copy_L28 N F (nI s1) (nI i) (nI s3) (nI j) (nI n) f (nI t) (gU (40 * s1 + i) (40 * s3 + j) t G) = some (nI n, gU (40 * s1 + i) (40 * s3 + j) n G) := by
  intro m
  induction m with
  | zero =>
    intro t f ht hf
    obtain ⟨f, rfl⟩ : ∃ g, f = g + 1 := ⟨f - 1, by omega⟩
    rw [f_X4_copy_L28, if_pos (nI_le (by omega) (by omega)), show t = n by omega]
  | succ m ih =>
    intro t f ht hf
    obtain ⟨f, rfl⟩ : ∃ g, f = g + 1 := ⟨f - 1, by omega⟩
    rw [f_X4_copy_L28, if_neg (nI_ge (by omega) (by omega)), if_pos (nI_le hij (by omega)), ix40, ix40, nI_add, nI_add, p_grd _ (by omega) (by decide), p_grd _ (by omega) (by decide), p_let, p_let, nI_1, p_cl (by omega), p_cl (by omega), gU_s (n := n) (by omega) (by omega)]
    exact ih (t + 1) f (by omega) (by omega)
theorem r_copy_D {s1 s3 i j n : Nat} (h1 : s1 < 4) (h3 : s3 < 4) (hi : i + n ≤ 40) (hj : j + n ≤ 40) (hij : i < j) : ∀ m t f, t + m = n → m < f → f_X4_copy_L28 N F (nI s1) (nI i) (nI s3) (nI j) (nI n) f (nI t) (gD (40 * s1 + i) (40 * s3 + j) n t G) = some (nI n, gD (40 * s1 + i) (40 * s3 + j) n n G) := by
  intro m
  induction m with
  | zero =>
    intro t f ht hf
    obtain ⟨f, rfl⟩ : ∃ g, f = g + 1 := ⟨f - 1, by omega⟩
    rw [f_X4_copy_L28, if_pos (nI_le (by omega) (by omega)), show t = n by omega]
  | succ m ih =>
    intro t f ht hf
    obtain ⟨f, rfl⟩ : ∃ g, f = g + 1 := ⟨f - 1, by omega⟩
    rw [f_X4_copy_L28, if_neg (nI_ge (by omega) (by omega)), if_neg (nI_ge hij (by omega)), p_let, show nI n - 1 = nI (n - 1) from pk_sub (b := 1) (by omega), pk_sub (by omega), ix40, ix40, nI_add, nI_add, p_grd _ (by omega) (by decide), p_grd _ (by omega) (by decide), p_let, p_let, nI_1, p_cl (by omega), p_cl (by omega), gD_s (n := n) (by omega) (by omega)]
    exact ih (t + 1) f (by omega) (by omega)
theorem gS_copy {s1 s3 i j n z1 : Nat} (h : gS B L F G) (h1 : s1 < 4) (h3 : s3 < 4) (e1 : ∀ k, k < z1 → L s1 k = G (40 * s1 + k)) (hi : i + n ≤ z1) (hj : j + n ≤ 40) : gS B (va_up L s3 (va_cpy (L s1) (L s3) i j n)) F (gU (40 * s1 + i) (40 * s3 + j) n G) := by
  intro s' hs'
  obtain ⟨z', g1, g2, g3, g4, g5, g6⟩ := h s' hs'
  refine ⟨z', g1, g2, g3, g4, g5, fun k hk => ?_⟩
  by_cases e : s' = s3
  · subst e
    rw [va_s]
    unfold gU
    by_cases d : j ≤ k ∧ k < j + n
    · rw [pk_cpy_in d.1 d.2, if_pos (by omega), e1 _ (by omega), show 40 * s1 + (i + (k - j)) = 40 * s' + k - (40 * s' + j) + (40 * s1 + i) by omega]
    · rw [pk_cpy_out (by omega), if_neg (by omega)]
      exact g6 k hk
  · rw [va_n e]
    unfold gU
    rw [if_neg (by omega)]
    exact g6 k hk
theorem pr_copy (h : gRel b R K P B L F G) (hN : 600 ≤ N) : ∃ r b' L' F' G', f_X3_copy N b R T K P B L p1 p2 p3 p4 p5 = some (r, b', L') ∧ f_X4_copy N F G p1 p2 p3 p4 p5 = some (r, F', G') ∧ gRel b' R K P B L' F' G' := by
  have bad : ∃ r b' L' F' G', f_X3_copy_B18 N b R T K P B L = some (r, b', L') ∧ (q_bd2 (f_X4_finds N F G (-1000000001)) (fun r_18 F_19 => some (r_18, F_19, G))) = some (r, F', G') ∧ gRel b' R K P B L' F' G' := by
    rw [f_X3_copy_B18, c_f0, r_f0, p_bd2, p_bd2]
    exact ⟨_, _, _, _, _, rfl, rfl, h.fnd⟩
  have bad6 : ∃ r b' L' F' G', f_X3_copy_B49 N b R T K P B L = some (r, b', L') ∧ (q_bd2 (f_X4_finds N F G (-1000000006)) (fun r_18 F_19 => some (r_18, F_19, G))) = some (r, F', G') ∧ gRel b' R K P B L' F' G' := by
    rw [f_X3_copy_B49, c_f5, r_f5, p_bd2, p_bd2]
    exact ⟨_, _, _, _, _, rfl, rfl, h.fnd⟩
  have bad1 : ∃ r b' L' F' G', f_X3_copy_B115 N b R T K P B L = some (r, b', L') ∧ (q_bd2 (f_X4_finds N F G (-1000000001)) (fun r_18 F_19 => some (r_18, F_19, G))) = some (r, F', G') ∧ gRel b' R K P B L' F' G' := by
    rw [f_X3_copy_B115, c_f0, r_f0, p_bd2, p_bd2]
    exact ⟨_, _, _, _, _, rfl, rfl, h.fnd⟩
  rw [f_X3_copy, f_X4_copy, f_X4_notCopied, f_X4_isSheet, f_X4_isSheet, c_within, r_in, r_in, p_bd, p_bd, p_bd, q_gbI, q_gbI, p_bd]
  by_cases c : (0 : Int32) ≤ p1 ∧ p1 ≤ 3
  · rw [bI_t c, if_neg z10, if_neg z10, c_within, p_bd, p_bd]
    obtain ⟨s1, -, hs1, rfl⟩ := rngL (l := 0) (h := 3) (by decide) (by decide) c
    by_cases d : (0 : Int32) ≤ p3 ∧ p3 ≤ 3
    · rw [bI_t d, if_neg z10, if_neg z10]
      obtain ⟨s3, -, hs3, rfl⟩ := rngL (l := 0) (h := 3) (by decide) (by decide) d
      obtain ⟨z1, g1, g2, g3, g4, g5, g6⟩ := h.2.2.2.2 s1 (by omega)
      obtain ⟨z3, k1, k2, k3, k4, k5, k6⟩ := h.2.2.2.2 s3 (by omega)
      simp only [p_grd _ (show s1 < 4 by omega) (show 4 < 2 ^ 31 by decide), p_grd _ (show s3 < 4 by omega) (show 4 < 2 ^ 31 by decide), p_cl (show s1 < 2 ^ 31 by omega), p_cl (show s3 < 2 ^ 31 by omega), g2, k2, c_hasN g1 g4, c_hasN k1 k4, g5, k5]
      by_cases c1 : F 6 s1 = 0
      · rw [if_pos c1, if_pos c1, p_bd, if_neg (by decide)]
        exact bad6
      · rw [if_neg c1, if_neg c1]
        by_cases c3 : F 6 s3 = 0
        · rw [if_pos c3, if_pos c3, p_bd, if_neg (by decide)]
          exact bad6
        · rw [if_neg c3, if_neg c3]
          by_cases cb : F 6 s1 = F 6 s3
          · rw [if_pos cb, if_pos cb, p_bd]
            by_cases q1 : hn z1 p2 p5
            · rw [bI_t q1, if_neg z10, p_bd]
              by_cases q3 : hn z3 p4 p5
              · rw [bI_t q3, if_neg z10, if_neg q1.2.1, if_neg q1.1, if_neg q3.1, if_neg q1.2.2, if_neg q3.2.2, f_X4_notCopied_B102, if_neg z10, p_bd, if_pos rfl]
                obtain ⟨i, n, hi, rfl, rfl⟩ := hn_of g1 q1
                obtain ⟨j, n', hj, rfl, en⟩ := hn_of k1 q3
                obtain rfl : n = n' := (nI_eq (by omega) (by omega)).mp en
                have hl : f_X4_copy_L28 N F (nI s1) (nI i) (nI s3) (nI j) (nI n) N 0 G = some (nI n, gU (40 * s1 + i) (40 * s3 + j) n G) := by
                  by_cases hij : j ≤ i
                  · have e := r_copy_U (N := N) (F := F) (G := G) (s1 := s1) (s3 := s3) (n := n) (by omega) (by omega) (by omega) (by omega) hij n 0 N (by omega) (by omega)
                    rw [gU_0] at e
                    exact e
                  · have e := r_copy_D (N := N) (F := F) (G := G) (s1 := s1) (s3 := s3) (n := n) (by omega) (by omega) (by omega) (by omega) (show i < j by omega) n 0 N (by omega) (by omega)
                    rw [gD_0, gD_n] at e
                    exact e
                rw [hl, p_bd2, p_cl (by omega), p_cl (by omega), p_cl (by omega), q_cp, if_pos ⟨nI_pos (by omega), nI_pos (by omega), nI_pos (by omega), by rw [p_cl (by omega), p_cl (by omega)]; omega, by rw [p_cl (by omega), p_cl (by omega)]; omega⟩, p_let]
                exact ⟨_, _, _, _, _, rfl, rfl, h.sht (fun _ _ _ => rfl) (gS_copy h.2.2.2.2 (by omega) (by omega) g6 hi (by omega))⟩
              · rw [bI_f q3, if_pos rfl, if_neg q1.2.1, if_neg q1.1]
                have e : (if p4 < 0 then f_X4_notCopied_B101 N F G else if nI z1 - p2 < p5 then f_X4_notCopied_B101 N F G else if nI z3 - p4 < p5 then f_X4_notCopied_B101 N F G else f_X4_notCopied_B102 N F G 1) = some (-1000000001) := by
                  by_cases x1 : p4 < 0
                  · rw [if_pos x1]; rfl
                  · rw [if_neg x1, if_neg q1.2.2]
                    by_cases x2 : nI z3 - p4 < p5
                    · rw [if_pos x2]; rfl
                    · exact absurd ⟨x1, q1.2.1, x2⟩ q3
                rw [e, p_bd, if_neg (by decide)]
                exact bad1
            · rw [bI_f q1, if_pos rfl]
              have e : (if p5 < 0 then f_X4_notCopied_B101 N F G else if p2 < 0 then f_X4_notCopied_B101 N F G else if p4 < 0 then f_X4_notCopied_B101 N F G else if nI z1 - p2 < p5 then f_X4_notCopied_B101 N F G else if nI z3 - p4 < p5 then f_X4_notCopied_B101 N F G else f_X4_notCopied_B102 N F G 1) = some (-1000000001) := by
                by_cases x1 : p5 < 0
                · rw [if_pos x1]; rfl
                · rw [if_neg x1]
                  by_cases x2 : p2 < 0
                  · rw [if_pos x2]; rfl
                  · rw [if_neg x2]
                    by_cases x3 : p4 < 0
                    · rw [if_pos x3]; rfl
                    · rw [if_neg x3]
                      by_cases x4 : nI z1 - p2 < p5
                      · rw [if_pos x4]; rfl
                      · exact absurd ⟨x2, x1, x4⟩ q1
              rw [e, p_bd, if_neg (by decide)]
              exact bad1
          · rw [if_neg cb, if_neg cb, p_bd, if_neg (by decide), c_f2, r_f2, p_bd2, p_bd2]
            exact ⟨_, _, _, _, _, rfl, rfl, h.fnd⟩
    · rw [bI_f d, if_pos rfl, if_pos rfl, p_bd, if_neg (by decide)]
      exact bad
  · rw [bI_f c, if_pos rfl, if_pos rfl, p_bd, if_neg (by decide)]
    exact bad
/-! who is asked -/
theorem r_asked {s : Nat} (e : f_X4_notThere N F G (nI s) = some 0) {n : Nat} (h4 : F 1 4 = nI n) (hn : n ≤ 8) : f_X4_notAsked N F G (nI s) p2 = some (if hasI n p2 then 0 else -1000000001) := by
  rw [f_X4_notAsked, e, p_bd, if_pos rfl, r_has h4 hn, p_bd]
  by_cases c : hasI n p2
  · rw [bI_t c, if_neg z10, if_pos c]
  · rw [bI_f c, if_pos rfl, if_neg c]
theorem r_asked1 (e : f_X4_notThere N F G p1 = some (-1000000001)) : f_X4_notAsked N F G p1 p2 = some (-1000000001) := by
  rw [f_X4_notAsked, e, p_bd, if_neg (by decide)]
theorem r_asked6 (e : f_X4_notThere N F G p1 = some (-1000000006)) : f_X4_notAsked N F G p1 p2 = some (-1000000006) := by
  rw [f_X4_notAsked, e, p_bd, if_neg (by decide)]
/-! book -/
theorem pr_book_L {s v z : Nat} (hN : 600 ≤ N) (hs : s < 4) (hz : z ≤ 40) (g4 : B s 1 = nI z) : ∀ m i f T L F G a, i + m = z → m < f → F 7 s = nI z → wf a → v < a 4 → cRel T a → mRel (F 1) a → gS B L F G → ∃ T' L' F' G', f_X3_book_L48 N b R K P B (nI s) (nI v) f (nI i) T L = some (nI z, T', L') ∧ f_X4_book_L24 N (nI s) (nI v) f (nI i) F G = some (nI z, F', G') ∧ sX F F' ∧ gS B L' F' G' := by
  intro m
  induction m with
  | zero =>
    intro i f T L F G a hi hf h7 hw hv hR hM hg
    obtain ⟨f, rfl⟩ : ∃ g, f = g + 1 := ⟨f - 1, by omega⟩
    rw [f_X3_book_L48, f_X4_book_L24]
    simp only [p_grd _ hs (show 4 < 2 ^ 31 by decide)]
    rw [p_cl (by omega), g4, h7, if_pos (nI_le (by omega) (by omega)), if_pos (nI_le (by omega) (by omega)), show i = z by omega]
    exact ⟨_, _, _, _, rfl, rfl, sX.rf, hg⟩
  | succ m ih =>
    intro i f T L F G a hi hf h7 hw hv hR hM hg
    obtain ⟨f, rfl⟩ : ∃ g, f = g + 1 := ⟨f - 1, by omega⟩
    have h4 := hw.2.2.2.1
    have h8 : v < 8 := by omega
    obtain ⟨z', y1, y2, y3, y4, y5, y6⟩ := hg s hs
    obtain ⟨T1, e1, e2⟩ := c_goN (N := N) (n := 1) (by omega) (by omega) (by omega) hR hw
    rw [f_X3_book_L48, f_X4_book_L24]
    simp only [p_grd _ hs (show 4 < 2 ^ 31 by decide)]
    rw [p_cl (by omega), g4, h7, if_neg (nI_ge (by omega) (by omega)), if_neg (nI_ge (by omega) (by omega)), p_grd _ h8 (by decide), p_cl (by omega), (hR.2.2.2.2.2.2.2 v hv).2.1, c_put (by omega), p_bd, p_let, show f_X0_goSeconds N T 1 = _ from e1, p_bd, p_let, r_it1 h8, p_bd, hM _ (by omega), r_cut64, p_bd, ix40, p_grd _ (by omega) (by decide), p_let, p_cl (by omega), y2]
    obtain ⟨F1, e3, e4, e5⟩ := r_go1 (N := N) (F := F) (G := vp_updL G (40 * s + i) (ct (F 6 s) (nI (a (6 + 8 * v))).toInt64)) (by omega) hM hw
    rw [e3, p_bd, p_let, nI_1]
    obtain ⟨T', L', F', G', q1, q2, q3, q4⟩ := ih (i + 1) f T1 (va_up L s (vp_updL (L s) i (ct (F 6 s) (nI (a (6 + 8 * v))).toInt64))) F1 (vp_updL G (40 * s + i) (ct (F 6 s) (nI (a (6 + 8 * v))).toInt64)) (sGo a) (by omega) (by omega) (by rw [e5 7 (by decide)]; exact h7) (wf_goN 1 a hw) (by rw [go4]; exact hv) e2 e4 (gS_x (gS_put hg hs (by omega)) e5)
    exact ⟨T', L', F', G', q1, q2, e5.tr q3, q4⟩
theorem pr_book (h : gRel b R K P B L F G) (hN : 600 ≤ N) : ∃ r b' T' L' F' G', f_X3_book N b R T K P B L p1 p2 = some (r, b', T', L') ∧ f_X4_book N F G p1 p2 = some (r, F', G') ∧ gRel b' R K P B L' F' G' := by
  obtain ⟨a, hw, hR, hM⟩ := h.1
  have h4 := hw.2.2.2.1
  rw [f_X3_book, f_X4_book]
  rcases sh_find (N := N) (b := b) (R := R) (T := T) (K := K) (P := P) (p1 := p1) h.2.2.2.2 with ⟨s, hs, rfl, h6, e1, e2⟩ | ⟨e1, e2⟩ | ⟨e1, e2⟩
  · obtain ⟨z, g1, g2, g3, g4, g5, g6⟩ := h.2.2.2.2 s hs
    rw [e1, p_bd, if_pos rfl, c_has hR.2.2.2.2.1, p_bd, r_asked e2 (hM 4 (by omega)) h4, p_bd]
    by_cases c : hasI (a 4) p2
    · rw [bI_t c, if_neg z10, if_pos c, if_pos rfl, f_X3_book_B24, if_pos rfl]
      obtain ⟨v, hv, rfl⟩ := hasI_of (by omega) c
      obtain ⟨T1, t1, t2⟩ := c_bec (N := N) (F := T) (by omega) hR hw
      obtain ⟨F1, f1, f2⟩ := th_think (N := N) (F := F) (G := G) hN
      have f7 : F1 7 = F 7 := f2.1.1 7 (by decide) (by decide)
      have f6 : F1 6 = F 6 := f2.1.1 6 (by decide) (by decide)
      have gs : gS B L F1 G := by
        intro s' hs'
        rw [f6, f7]
        exact h.2.2.2.2 s' hs'
      obtain ⟨T2, L2, F2, G2, q1, q2, q3, q4⟩ := pr_book_L (N := N) (b := b) (R := R) (K := K) (P := P) hN hs g1 g4 z 0 N T1 L F1 G a (by omega) (by omega) (by rw [f7]; exact g5) hw hv t2 (f2.m hM h4) gs
      obtain ⟨F3, f3, f5⟩ := f2.back (N := N) (G := G2) hN q3
      rw [t1, p_bd, show f_X3_book_L48 N b R K P B (nI s) (nI v) N 0 T1 L = _ from q1, p_bd3, p_grd _ hs (by decide), f1, p_bd, show f_X4_book_L24 N (nI s) (nI v) N 0 F1 G = _ from q2, p_bd3, f3, p_bd, p_grd _ hs (by decide), p_cl (by omega), g4]
      have x7 : F3 7 = F 7 := f5.1.1 7 (by decide) (by decide)
      have x6 : F3 6 = F 6 := f5.1.1 6 (by decide) (by decide)
      rw [show F3 7 s = nI z by rw [x7]; exact g5]
      have k := h.thk f5.2
      refine ⟨_, _, _, _, _, _, rfl, rfl, k.1, k.2.1, k.2.2.1, k.2.2.2.1, ?_⟩
      intro s' hs'
      have := q4 s' hs'
      rw [q3 6 (by decide), q3 7 (by decide), f6, f7] at this
      rw [x6, x7]
      exact this
    · rw [bI_f c, if_pos rfl, if_neg c, if_neg (by decide), f_X3_book_B24, if_neg (by decide), c_f0, r_f0, p_bd2, p_bd2]
      exact ⟨_, _, _, _, _, _, rfl, rfl, h.fnd⟩
  · rw [e1, p_bd, if_neg (by decide), r_asked1 e2, p_bd, if_neg (by decide), f_X3_book_B24, if_neg (by decide), c_f0, r_f0, p_bd2, p_bd2]
    exact ⟨_, _, _, _, _, _, rfl, rfl, h.fnd⟩
  · rw [e1, p_bd, if_neg (by decide), r_asked6 e2, p_bd, if_neg (by decide), f_X3_book_B24, if_neg (by decide), c_f5, r_f5, p_bd2, p_bd2]
    exact ⟨_, _, _, _, _, _, rfl, rfl, h.fnd⟩
/-! read -/
theorem lg_e0 (x y : Int64) : (lg_cmp x y = 0) = (x = y) := by
  unfold lg_cmp
  by_cases c : x > y
  · rw [if_pos c]
    refine propext ⟨fun h => absurd h (by decide), fun h => ?_⟩
    subst h
    have c : x < x := c
    rw [fa_lt64] at c
    omega
  · rw [if_neg c]
    by_cases d : x = y
    · rw [if_pos d]
      exact propext ⟨fun _ => d, fun _ => rfl⟩
    · rw [if_neg d]
      exact propext ⟨fun h => absurd h (by decide), fun h => absurd h d⟩
def bq (l : Nat → Int64) (i : Nat) : Nat → Nat → (Nat → Nat) → Bool
  | 0, _, _ => true
  | k + 1, j, a => if l j = (nI (a (6 + 8 * i))).toInt64 then bq l i k (j + 1) (sGo a) else false
theorem c_bkd {s v z : Nat} (hN : 600 ≤ N) (hz : z ≤ 40) (g4 : B s 1 = nI z) : ∀ m j f T a, j + m = z → m < f → wf a → v < a 4 → cRel T a → ∃ T', f_X3_goesAsBooked_L2 N s b R K P B L (nI v) f (nI j) T = some (bI (bq (L s) v m j a = true), T') := by
  intro m
  induction m with
  | zero =>
    intro j f T a hj hf hw hv hR
    obtain ⟨f, rfl⟩ : ∃ g, f = g + 1 := ⟨f - 1, by omega⟩
    rw [f_X3_goesAsBooked_L2, g4, if_pos (nI_le (by omega) (by omega)), bq, bI_t rfl]
    exact ⟨_, rfl⟩
  | succ m ih =>
    intro j f T a hj hf hw hv hR
    obtain ⟨f, rfl⟩ : ∃ g, f = g + 1 := ⟨f - 1, by omega⟩
    have h4 := hw.2.2.2.1
    obtain ⟨T1, e1, e2⟩ := c_goN (N := N) (n := 1) (by omega) (by omega) (by omega) hR hw
    rw [f_X3_goesAsBooked_L2, g4, if_neg (nI_ge (by omega) (by omega)), p_grd _ (show j < 40 by omega) (by decide), p_grd _ (show v < 8 by omega) (by decide), p_cl (by omega), p_cl (by omega), (hR.2.2.2.2.2.2.2 v hv).2.1, bq]
    simp only [lg_e0]
    by_cases c : L s j = (nI (a (6 + 8 * v))).toInt64
    · rw [if_pos c, if_pos c, show f_X0_goSeconds N T 1 = _ from e1, p_bd, p_let, nI_1]
      exact ih (j + 1) f T1 (sGo a) (by omega) (by omega) (wf_goN 1 a hw) (by rw [go4]; exact hv) e2
    · rw [if_neg c, if_neg c, bI_f (by decide)]
      exact ⟨_, rfl⟩
theorem bq_cong {l l' : Nat → Int64} {i : Nat} : ∀ m j a, (∀ k, k < j + m → l k = l' k) → bq l i m j a = bq l' i m j a := by
  intro m
  induction m with
  | zero => intro _ _ _; rfl
  | succ m ih =>
    intro j a h
    rw [bq, bq, h j (by omega), ih (j + 1) (sGo a) (fun k hk => h k (by omega))]
theorem r_bkd {s v z : Nat} (hN : 600 ≤ N) (hs : s < 4) (hz : z ≤ 40) : ∀ m j f F a, j + m = z → m + 1 < f → F 7 s = nI z → wf a → v < a 4 → mRel (F 1) a → ∃ x F', f_X4_isBook_L5 N G (nI s) (nI v) f 1 (nI j) F = some (bI (bq (fun k => G (40 * s + k)) v m j a = true), x, F') ∧ sX F F' := by
  intro m
  induction m with
  | zero =>
    intro j f F a hj hf h7 hw hv hM
    obtain ⟨f, rfl⟩ : ∃ g, f = g + 1 := ⟨f - 1, by omega⟩
    rw [f_X4_isBook_L5, p_grd _ hs (by decide), p_cl (by omega), h7, if_pos (nI_le (by omega) (by omega)), bq, bI_t rfl]
    exact ⟨_, _, rfl, sX.rf⟩
  | succ m ih =>
    intro j f F a hj hf h7 hw hv hM
    obtain ⟨f, rfl⟩ : ∃ g, f = g + 1 := ⟨f - 1, by omega⟩
    have h4 := hw.2.2.2.1
    obtain ⟨F1, e1, e2, e3⟩ := r_go1 (N := N) (F := F) (G := G) (by omega) hM hw
    rw [f_X4_isBook_L5, p_grd _ hs (by decide), p_cl (by omega), h7, if_neg (nI_ge (by omega) (by omega)), if_neg z10, ix40, p_grd _ (by omega) (by decide), r_it1 (by omega), p_bd, hM _ (by omega), p_cl (by omega), bq]
    simp only [lg_e0]
    by_cases c : G (40 * s + j) = (nI (a (6 + 8 * v))).toInt64
    · rw [if_pos c, if_pos c, e1, p_bd, p_let, nI_1]
      obtain ⟨x, F', q1, q2⟩ := ih (j + 1) f F1 (sGo a) (by omega) (by omega) (by rw [e3 7 (by decide)]; exact h7) (wf_goN 1 a hw) (by rw [go4]; exact hv) e2
      exact ⟨x, F', q1, e3.tr q2⟩
    · obtain ⟨f, rfl⟩ : ∃ g, f = g + 1 := ⟨f - 1, by omega⟩
      rw [if_neg c, if_neg c, e1, p_bd, p_let, nI_1, bI_f (by decide), f_X4_isBook_L5, p_grd _ hs (by decide), if_pos (show (0 : Int32) = 0 from rfl)]
      refine ⟨nI (j + 1), F1, ?_, e3⟩
      split <;> rfl
def rc (q : Nat → Bool) : Nat → Nat → Nat → Nat
  | c, _, 0 => c
  | c, v, k + 1 => rc q (if q v = true then c + 1 else c) (v + 1) k
theorem rc_add {q : Nat → Bool} : ∀ k m c v, rc q c v (k + m) = rc q (rc q c v k) (v + k) m := by
  intro k
  induction k with
  | zero => intro m c v; rw [Nat.zero_add]; rfl
  | succ k ih =>
    intro m c v
    rw [show k + 1 + m = (k + m) + 1 by omega, rc, rc, ih, show v + 1 + k = v + (k + 1) by omega]
def qR (l : Nat → Int64) (a : Nat → Nat) (i z v : Nat) : Bool := bq l i z 0 (upN (upN a (5 + 8 * i) (v / 10)) 2 (1 + v % 10))
theorem c_read_L49 {s i z a} (hN : 600 ≤ N) (hs : s < 4) (hz : z ≤ 40) (g4 : B s 1 = nI z) (hR : cRel R a) (hw : wf a) (hi : i < a 4) {κ : Nat} (hκ : κ < 6) : ∀ k σ f c T, 1 ≤ σ → σ + k = 11 → k < f → ∃ T', f_X3_read_L49 N b R K P B L (nI s) (nI i) (nI κ) f (nI c) (nI σ) T = some (nI (rc (qR (L s) a i z) c (10 * κ + (σ - 1)) k), nI 11, T') := by
  have h4 := hw.2.2.2.1
  intro k
  induction k with
  | zero =>
    intro σ f c T h1 hk hf
    obtain ⟨f, rfl⟩ : ∃ g, f = g + 1 := ⟨f - 1, by omega⟩
    rw [f_X3_read_L49, if_pos (show (10 : Int32) < nI σ from nI_lt (a := 10) (by omega) (by omega)), show σ = 11 by omega]
    exact ⟨_, rfl⟩
  | succ k ih =>
    intro σ f c T h1 hk hf
    obtain ⟨f, rfl⟩ : ∃ g, f = g + 1 := ⟨f - 1, by omega⟩
    obtain ⟨T1, e1, e2⟩ := c_bec (N := N) (F := T) (by omega) hR hw
    have R2 := cR_spd (v := σ) (cR_kind (v := κ) e2 hi)
    have w2 := wf_spd (v := σ) (wf_kind (v := κ) hw hi hκ) (by omega)
    obtain ⟨T2, e3⟩ := c_bkd (N := N) (b := b) (R := R) (K := K) (P := P) (L := L) (v := i) hN hz g4 z 0 N _ _ (by omega) (by omega) w2 (by rw [upN_n (by decide), upN_n (by omega)]; exact hi) R2
    have eq : bq (L s) i z 0 (upN (upN a (5 + 8 * i) κ) 2 σ) = qR (L s) a i z (10 * κ + (σ - 1)) := by
      unfold qR
      rw [show (10 * κ + (σ - 1)) / 10 = κ by omega, show 1 + (10 * κ + (σ - 1)) % 10 = σ by omega]
    rw [eq] at e3
    rw [f_X3_read_L49, if_neg (show ¬ (10 : Int32) < nI σ from nI_nlt (a := 10) (by omega) (by omega)), e1, p_bd, p_grd _ (show i < 8 by omega) (by decide), p_let, p_let, p_grd _ hs (by decide), p_cl (by omega), p_cl (by omega), f_X3_goesAsBooked, show f_X3_goesAsBooked_L2 N s b R K P B L (nI i) N 0 (q_up (q_up T1 1 i (nI κ)) 0 2 (nI σ)) = _ from e3, p_bd2, rc]
    by_cases q : qR (L s) a i z (10 * κ + (σ - 1)) = true
    · rw [bI_t q, if_neg z10, if_pos q, p_let, p_let, nI_1, nI_1]
      have := ih (σ + 1) f (c + 1) T2 (by omega) (by omega) (by omega)
      rw [show 10 * κ + (σ + 1 - 1) = 10 * κ + (σ - 1) + 1 by omega] at this
      exact this
    · rw [bI_f q, if_pos rfl, if_neg q, p_let, nI_1]
      have := ih (σ + 1) f c T2 (by omega) (by omega) (by omega)
      rw [show 10 * κ + (σ + 1 - 1) = 10 * κ + (σ - 1) + 1 by omega] at this
      exact this
theorem c_read_L40 {s i z a} (hN : 600 ≤ N) (hs : s < 4) (hz : z ≤ 40) (g4 : B s 1 = nI z) (hR : cRel R a) (hw : wf a) (hi : i < a 4) : ∀ k κ f c T, κ + k = 6 → k < f → ∃ T', f_X3_read_L40 N b R K P B L (nI s) (nI i) f (nI c) (nI κ) T = some (nI (rc (qR (L s) a i z) c (10 * κ) (10 * k)), nI 6, T') := by
  intro k
  induction k with
  | zero =>
    intro κ f c T hk hf
    obtain ⟨f, rfl⟩ : ∃ g, f = g + 1 := ⟨f - 1, by omega⟩
    rw [f_X3_read_L40, if_pos (show (5 : Int32) < nI κ from nI_lt (a := 5) (by omega) (by omega)), show κ = 6 by omega]
    exact ⟨_, rfl⟩
  | succ k ih =>
    intro κ f c T hk hf
    obtain ⟨f, rfl⟩ : ∃ g, f = g + 1 := ⟨f - 1, by omega⟩
    obtain ⟨T1, e1⟩ := c_read_L49 (N := N) (b := b) (K := K) (P := P) (L := L) hN hs hz g4 hR hw hi (show κ < 6 by omega) 10 1 N c T (by omega) (by omega) (by omega)
    rw [f_X3_read_L40, if_neg (show ¬ (5 : Int32) < nI κ from nI_nlt (a := 5) (by omega) (by omega)), show f_X3_read_L49 N b R K P B L (nI s) (nI i) (nI κ) N (nI c) 1 T = _ from e1, p_bd3, p_let, nI_1, show 10 * (k + 1) = 10 + 10 * k by omega, rc_add]
    have := ih (κ + 1) f (rc (qR (L s) a i z) c (10 * κ) 10) T1 (by omega) (by omega)
    rw [show 10 * (κ + 1) = 10 * κ + 10 by omega] at this
    exact this
theorem b_r10 : ∀ v, v < 60 → (1 + (nI v - nI v / 10 * 10)) = nI (1 + v % 10) ∧ nI v / 10 = nI (v / 10) := by decide +kernel
theorem r_read_L {s i z a} {F0 : Nat → Nat → Int32} (hN : 600 ≤ N) (hs : s < 4) (hz : z ≤ 40) (g5 : F0 7 s = nI z) (hM : mRel (F0 1) a) (hw : wf a) (hi : i < a 4) : ∀ k v f c F, v + k = 60 → k < f → th F0 F → ∃ F', f_X4_read_L27 N G (nI s) (nI i) f (nI c) (nI v) F = some (nI (rc (qR (fun k => G (40 * s + k)) a i z) c v k), nI 60, F') ∧ th F0 F' := by
  have h4 := hw.2.2.2.1
  intro k
  induction k with
  | zero =>
    intro v f c F hk hf ht
    obtain ⟨f, rfl⟩ : ∃ g, f = g + 1 := ⟨f - 1, by omega⟩
    rw [f_X4_read_L27, if_pos (show (60 : Int32) ≤ nI v from nI_le (a := 60) (by omega) (by omega)), show v = 60 by omega]
    exact ⟨F, rfl, ht⟩
  | succ k ih =>
    intro v f c F hk hf ht
    obtain ⟨f, rfl⟩ : ∃ g, f = g + 1 := ⟨f - 1, by omega⟩
    obtain ⟨b1, b2⟩ := b_r10 v (by omega)
    have m1 := mR_q (v := v / 10) (ht.m hM h4) (show 5 + 8 * i ≠ 4 by omega)
    have m2 := mR_q (v := 1 + v % 10) m1 (show 2 ≠ 4 by decide)
    have w2 := wf_spd (v := 1 + v % 10) (wf_kind (v := v / 10) hw hi (by omega)) (by omega)
    have t7 : F 7 = F0 7 := ht.1.1 7 (by decide) (by decide)
    obtain ⟨x, F2, e1, e2⟩ := r_bkd (N := N) (G := G) (v := i) hN hs hz z 0 N _ _ (by omega) (by omega) (show q_up (q_up F 1 (5 + 8 * i) (nI (v / 10))) 1 2 (nI (1 + v % 10)) 7 s = nI z by rw [qu_n (by decide), qu_n (by decide), t7]; exact g5) w2 (by rw [upN_n (by decide), upN_n (by omega)]; exact hi) m2
    obtain ⟨F3, e3, e4⟩ := ht.back (N := N) (G := G) hN ((sX.up.tr sX.up).tr e2)
    have eq : bq (fun k => G (40 * s + k)) i z 0 (upN (upN a (5 + 8 * i) (v / 10)) 2 (1 + v % 10)) = qR (fun k => G (40 * s + k)) a i z v := rfl
    rw [eq] at e1
    rw [f_X4_read_L27, if_neg (show ¬ (60 : Int32) ≤ nI v from nI_ge (b := 60) (by omega) (by omega)), b1, b2, r_put0 (by omega), p_bd, p_gM2, p_let, p_c2, f_X4_isBook, show f_X4_isBook_L5 N G (nI s) (nI i) N 1 0 (q_up (q_up F 1 (5 + 8 * i) (nI (v / 10))) 1 2 (nI (1 + v % 10))) = _ from e1, p_bd3, f_X4_isBook_B59, e3, p_bd, q_gbI, p_bd2, rc]
    by_cases q : qR (fun k => G (40 * s + k)) a i z v = true
    · rw [bI_t q, if_neg z10, if_pos q, p_let, p_let, nI_1, nI_1]
      exact ih (v + 1) f (c + 1) F3 (by omega) (by omega) e4
    · rw [bI_f q, if_pos rfl, if_neg q, p_let, p_let, nI_1, show nI c + 0 = nI c from nI_add c 0]
      exact ih (v + 1) f c F3 (by omega) (by omega) e4
theorem rc_cong {q q' : Nat → Bool} (h : ∀ v, q v = q' v) : ∀ k c v, rc q c v k = rc q' c v k := by
  intro k
  induction k with
  | zero => intro _ _; rfl
  | succ k ih => intro c v; rw [rc, rc, h v, ih]
theorem pr_read (h : gRel b R K P B L F G) (hN : 600 ≤ N) : ∃ r b' T' F', f_X3_read N b R T K P B L p1 p2 = some (r, b', T') ∧ f_X4_read N F G p1 p2 = some (r, F') ∧ gRel b' R K P B L F' G := by
  obtain ⟨a, hw, hR, hM⟩ := h.1
  have h4 := hw.2.2.2.1
  rw [f_X3_read, f_X4_read]
  rcases sh_find (N := N) (b := b) (R := R) (T := T) (K := K) (P := P) (p1 := p1) h.2.2.2.2 with ⟨s, hs, rfl, h6, e1, e2⟩ | ⟨e1, e2⟩ | ⟨e1, e2⟩
  · obtain ⟨z, g1, g2, g3, g4, g5, g6⟩ := h.2.2.2.2 s hs
    rw [e1, p_bd, if_pos rfl, c_has hR.2.2.2.2.1, p_bd, r_asked e2 (hM 4 (by omega)) h4, p_bd]
    by_cases c : hasI (a 4) p2
    · rw [bI_t c, if_neg z10, if_pos c, if_pos rfl, f_X3_read_B24, if_pos rfl]
      obtain ⟨v, hv, rfl⟩ := hasI_of (by omega) c
      obtain ⟨T1, t1⟩ := c_read_L40 (N := N) (b := b) (K := K) (P := P) (L := L) hN hs g1 g4 hR hw hv 6 0 N 0 T (by omega) (by omega)
      obtain ⟨F1, f1, f2⟩ := th_think (N := N) (F := F) (G := G) hN
      obtain ⟨F2, f3, f4⟩ := r_read_L (N := N) (G := G) hN hs g1 g5 hM hw hv 60 0 N 0 F1 (by omega) (by omega) f2
      rw [show f_X3_read_L40 N b R K P B L (nI s) (nI v) N 0 0 T = _ from t1, p_bd3, f1, p_bd, show f_X4_read_L27 N G (nI s) (nI v) N 0 0 F1 = _ from f3, p_bd3]
      have e : rc (qR (L s) a v z) 0 (10 * 0) (10 * 6) = rc (qR (fun k => G (40 * s + k)) a v z) 0 0 60 := rc_cong (fun w => bq_cong z 0 _ (fun k hk => g6 k (by omega))) 60 0 0
      rw [e]
      exact ⟨_, _, _, _, rfl, rfl, h.thk f4.2⟩
    · rw [bI_f c, if_pos rfl, if_neg c, if_neg (by decide), f_X3_read_B24, if_neg (by decide), c_f0, r_f0, p_bd2, p_bd2]
      exact ⟨_, _, _, _, rfl, rfl, h.fnd⟩
  · rw [e1, p_bd, if_neg (by decide), r_asked1 e2, p_bd, if_neg (by decide), f_X3_read_B24, if_neg (by decide), c_f0, r_f0, p_bd2, p_bd2]
    exact ⟨_, _, _, _, rfl, rfl, h.fnd⟩
  · rw [e1, p_bd, if_neg (by decide), r_asked6 e2, p_bd, if_neg (by decide), f_X3_read_B24, if_neg (by decide), c_f5, r_f5, p_bd2, p_bd2]
    exact ⟨_, _, _, _, rfl, rfl, h.fnd⟩
end CP
