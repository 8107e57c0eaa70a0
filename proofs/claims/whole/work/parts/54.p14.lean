/-! ===== pure 14: goal; feed ===== -/
def bt (x : Int32) (i : Nat) : Bool := x.toBitVec.getLsbD i
theorem b_ext {x y : Int32} (h : ∀ i, i < 32 → bt x i = bt y i) : x = y := Int32.toBitVec_inj.mp (BitVec.eq_of_getLsbD_eq (fun i hi => h i hi))
theorem b_and (x y : Int32) (i : Nat) : bt (x &&& y) i = (bt x i && bt y i) := by unfold bt; rw [Int32.toBitVec_and, BitVec.getLsbD_and]
theorem b_big {x : Int32} {i : Nat} (h : 32 ≤ i) : bt x i = false := BitVec.getLsbD_of_ge _ _ h
theorem b_255 (i : Nat) : bt 255 i = decide (i < 8) := by
  rcases Nat.lt_or_ge i 32 with h | h
  · exact (by decide +kernel : ∀ i, i < 32 → bt 255 i = decide (i < 8)) i h
  · rw [b_big h, decide_eq_false (by omega)]
theorem s_l : ∀ n, n < 32 → ((nI n &&& 31).toBitVec.smod 32).toNat = n := by decide +kernel
theorem s_u : ∀ n, n < 32 → (((nI n).toUInt32 &&& Int32.toUInt32 31).toBitVec % 32).toNat = n := by decide +kernel
theorem b_ushr (n : Nat) (hn : n < 32) (x : Int32) (i : Nat) : bt ((x.toUInt32 >>> ((nI n).toUInt32 &&& Int32.toUInt32 31)).toInt32) i = bt x (n + i) := by
  show (x.toUInt32 >>> ((nI n).toUInt32 &&& Int32.toUInt32 31)).toBitVec.getLsbD i = x.toUInt32.toBitVec.getLsbD (n + i)
  rw [UInt32.toBitVec_shiftRight]
  show (x.toUInt32.toBitVec >>> (((nI n).toUInt32 &&& Int32.toUInt32 31).toBitVec % 32).toNat).getLsbD i = _
  rw [s_u n hn, BitVec.getLsbD_ushiftRight]
theorem b_sshr (n : Nat) (hn : n < 32) (x : Int32) {i : Nat} (hi : i < 32) : bt (x >>> (nI n &&& 31)) i = if n + i < 32 then bt x (n + i) else bt x 31 := by
  unfold bt
  rw [Int32.toBitVec_shiftRight]
  show (x.toBitVec.sshiftRight ((nI n &&& 31).toBitVec.smod 32).toNat).getLsbD i = _
  rw [s_l n hn, BitVec.getLsbD_sshiftRight, BitVec.msb_eq_getLsbD_last]
  simp [hi]
theorem fa_byte_low (x : Int32) : (x &&& 255).toInt8 = x.toInt8 := by
  apply Int8.toBitVec_inj.1
  apply BitVec.eq_of_getLsbD_eq
  intro i hi
  have h2 : (255 : Int32).toBitVec.getLsbD i = true := by
    have : ∀ j : Fin 8, (255 : Int32).toBitVec.getLsbD j.val = true := by decide +kernel
    exact this ⟨i, hi⟩
  have h4 : (x &&& 255).toBitVec.getLsbD i = x.toBitVec.getLsbD i := by
    show (x.toBitVec &&& (255 : Int32).toBitVec).getLsbD i = _
    rw [BitVec.getLsbD_and, h2, Bool.and_true]
  have h3 : i < 32 := by omega
  first
    | (show (((x &&& 255).toBitVec).signExtend 8).getLsbD i = (x.toBitVec.signExtend 8).getLsbD i; rw [BitVec.getLsbD_signExtend, BitVec.getLsbD_signExtend, if_pos h3, if_pos h3, h4])
    | (show (((x &&& 255).toBitVec).setWidth 8).getLsbD i = (x.toBitVec.setWidth 8).getLsbD i; rw [BitVec.getLsbD_setWidth, BitVec.getLsbD_setWidth, h4])
    | (simp [hi, h3, h4]; done)
def cutO (s : Nat) : Option Nat → Option Nat
  | some m => if m < s then some m else none
  | none => none
theorem fs_cut {ev : (Nat → Nat) → Bool} : ∀ k k' a n, k' ≤ k → fs ev a n k' = cutO (n + k') (fs ev a n k) := by
  intro k
  induction k with
  | zero =>
    intro k' a n h
    obtain rfl : k' = 0 := by omega
    rfl
  | succ k ih =>
    intro k' a n h
    cases k' with
    | zero =>
      cases e : fs ev a n (k + 1) with
      | none => rfl
      | some m =>
        have := fs_rng _ _ _ _ e
        show none = if m < n + 0 then some m else none
        rw [if_neg (by omega)]
    | succ k' =>
      rw [fs, fs]
      by_cases e : ev a = true
      · rw [if_pos e, if_pos e]
        show some n = if n < n + (k' + 1) then some n else none
        rw [if_pos (by omega)]
      · rw [if_neg e, if_neg e, ih k' (sGo a) (n + 1) (by omega), show n + 1 + k' = n + (k' + 1) by omega]
/-- a goal's seconds, if they are better -/
def gm (s : Nat) : Option Nat → Option Nat
  | some m => if 0 < m ∧ m < s then some m else none
  | none => none
theorem gm0 (s : Nat) : gm s (some 0) = none := by
  show (if 0 < 0 ∧ 0 < s then some 0 else none) = none
  rw [if_neg (by omega)]
def gl (t : Nat → Option Nat) : Option Nat → Nat → Nat → Nat → Option Nat × Nat
  | o, s, _, 0 => (o, s)
  | o, s, g, k + 1 => match gm s (t g) with
    | some m => gl t (some g) m (g + 1) k
    | none => gl t o s (g + 1) k
theorem gl_rng {t : Nat → Option Nat} {z : Nat} : ∀ k o s g, g + k ≤ z → (∀ m, o = some m → m < z) → ∀ m, (gl t o s g k).1 = some m → m < z := by
  intro k
  induction k with
  | zero => intro o s g _ h m hm; exact h m hm
  | succ k ih =>
    intro o s g hz h m hm
    rw [gl] at hm
    cases e : gm s (t g) with
    | none =>
      rw [e] at hm
      exact ih o s (g + 1) (by omega) h m hm
    | some q =>
      rw [e] at hm
      exact ih (some g) q (g + 1) (by omega) (fun m hm => by cases hm; omega) m hm
section PR7
variable {N : Nat} {b R T K P B F : Nat → Nat → Int32} {L : Nat → Nat → Int64} {G : Nat → Int64} {p1 p2 : Int32} {a : Nat → Nat} {i n : Nat}
def tG (a : Nat → Nat) (i g : Nat) : Option Nat := fs (ev3 i) (upN a (10 + 8 * i) g) 0 121
theorem c_goal_L (hN : 600 ≤ N) (hR : cRel R a) (hw : wf a) (hi : i < a 4) : ∀ k g f o s T, g + k = 60 → k < f → 1 ≤ s → s ≤ 121 → ∃ T', f_X3_goal_L27 N b R K P B L (nI i) f (cres o) (nI (s - 1)) (nI g) T = some (cres (gl (tG a i) o s g k).1, nI ((gl (tG a i) o s g k).2 - 1), nI 60, T') := by
  have h4 := hw.2.2.2.1
  have h8 : i < 8 := by omega
  intro k
  induction k with
  | zero =>
    intro g f o s T hk hf h1 h2
    obtain ⟨f, rfl⟩ : ∃ z, f = z + 1 := ⟨f - 1, by omega⟩
    rw [f_X3_goal_L27, if_pos (show (59 : Int32) < nI g from nI_lt (a := 59) (by omega) (by omega)), show g = 60 by omega]
    exact ⟨T, rfl⟩
  | succ k ih =>
    intro g f o s T hk hf h1 h2
    obtain ⟨f, rfl⟩ : ∃ z, f = z + 1 := ⟨f - 1, by omega⟩
    obtain ⟨T1, e1, e2⟩ := c_bec (N := N) (F := T) (by omega) hR hw
    have w1 : wf (upN a (10 + 8 * i) g) := wf_goal hw hi (by omega)
    have hi2 : i < (upN a (10 + 8 * i) g) 4 := by rw [upN4 (by omega)]; exact hi
    obtain ⟨T2, e3⟩ := c_until (N := N) (b := b) (R := R) (K := K) (P := P) (B := B) (L := L) (M := s - 1) (e := 3) (ev := ev3 i) hN (by omega) (fun R a h1 h2 h3 => c_so3 h1 h2 h3) s 0 N _ _ (cR_goal e2 hi) w1 hi2 (by omega) (by omega)
    have ec : fs (ev3 i) (upN a (10 + 8 * i) g) 0 s = cutO s (tG a i g) := by rw [fs_cut 121 s _ 0 h2, Nat.zero_add]; rfl
    rw [ec] at e3
    rw [f_X3_goal_L27, if_neg (show ¬ (59 : Int32) < nI g from nI_nlt (a := 59) (by omega) (by omega)), e1, p_bd, p_grd _ h8 (by decide), p_let, p_cl (by omega), f_X3_secondsUntil, show f_X3_secondsUntil_L3 N b R K P B L (nI i) 3 (nI (s - 1)) N 0 (q_up T1 5 i (nI g)) = _ from e3, p_bd2, gl]
    have keep : ∀ x : Int32, x ≤ 0 → gm s (tG a i g) = none → ∃ T', (if x ≤ 0 then q_let (nI g + 1) (fun x_18 => f_X3_goal_L27 N b R K P B L (nI i) f (cres o) (nI (s - 1)) x_18 T2) else q_let (x - 1) (fun x_19 => q_let (nI g + 1) (fun x_20 => f_X3_goal_L27 N b R K P B L (nI i) f (nI g) x_19 x_20 T2))) = some (cres (match gm s (tG a i g) with | some m => gl (tG a i) (some g) m (g + 1) k | none => gl (tG a i) o s (g + 1) k).1, nI ((match gm s (tG a i g) with | some m => gl (tG a i) (some g) m (g + 1) k | none => gl (tG a i) o s (g + 1) k).2 - 1), nI 60, T') := by
      intro x hx hg
      rw [if_pos hx, p_let, nI_1, hg]
      exact ih (g + 1) f o s T2 (by omega) (by omega) h1 h2
    cases et : tG a i g with
    | none =>
      rw [et] at keep
      exact keep (-1000000004) (by decide) rfl
    | some m =>
      rw [et] at keep
      by_cases c1 : m < s
      · rw [show cutO s (some m) = some m from if_pos c1]
        by_cases c2 : 0 < m
        · rw [show gm s (some m) = some m from if_pos ⟨c2, c1⟩]
          show ∃ T', (if nI m ≤ 0 then _ else _) = _
          rw [if_neg (nI_nle c2 (by omega)), p_let, p_let, nI_1, show cres (some m) - 1 = nI (m - 1) from pk_sub (b := 1) (by omega)]
          exact ih (g + 1) f (some g) m T2 (by omega) (by omega) (by omega) (by omega)
        · obtain rfl : m = 0 := by omega
          exact keep (nI 0) (by decide) (gm0 s)
      · rw [show cutO s (some m) = none from if_neg c1]
        exact keep (-1000000004) (by decide) (if_neg (by omega))
theorem r_goal_L {F0 : Nat → Nat → Int32} (hN : 600 ≤ N) (hM : mRel (F0 1) a) (hw : wf a) (hi : i < a 4) : ∀ k g f o s F, g + k = 60 → k < f → 1 ≤ s → s ≤ 121 → th F0 F → ∃ F', f_X4_goal_L27 N G (nI i) f (nres o) (nI s) (nI g) F = some (nres (gl (tG a i) o s g k).1, nI (gl (tG a i) o s g k).2, nI 60, F') ∧ th F0 F' := by
  have h4 := hw.2.2.2.1
  have h8 : i < 8 := by omega
  intro k
  induction k with
  | zero =>
    intro g f o s F hk hf h1 h2 ht
    obtain ⟨f, rfl⟩ : ∃ z, f = z + 1 := ⟨f - 1, by omega⟩
    rw [f_X4_goal_L27, if_pos (show (60 : Int32) ≤ nI g from nI_le (a := 60) (by omega) (by omega)), show g = 60 by omega]
    exact ⟨F, rfl, ht⟩
  | succ k ih =>
    intro g f o s F hk hf h1 h2 ht
    obtain ⟨f, rfl⟩ : ∃ z, f = z + 1 := ⟨f - 1, by omega⟩
    have w1 : wf (upN a (10 + 8 * i) g) := wf_goal hw hi (by omega)
    have hi2 : i < (upN a (10 + 8 * i) g) 4 := by rw [upN4 (by omega)]; exact hi
    have m1 := mR_q (v := g) (ht.m hM h4) (show 10 + 8 * i ≠ 4 by omega)
    obtain ⟨F3, e1, e2, e3⟩ := r_arr (N := N) (G := G) (M := 120) hN (by decide) m1 w1 hi2 (ht.1.x sX.up)
    rw [f_X4_goal_L27, if_neg (show ¬ (60 : Int32) ≤ nI g from nI_ge (b := 60) (by omega) (by omega)), r_put5 h8, p_bd, show f_X4_arrivesIn N (q_up F 1 (10 + 8 * i) (nI g)) G (nI i) 120 = some (nres (tG a i g), F3) from e1, p_bd2, gl]
    simp only [p_let, nI_1, if_pos (show (0 : Int32) = 0 from rfl), if_neg (show ¬ (1 : Int32) = 0 by decide)]
    cases et : tG a i g with
    | none =>
      show ∃ F', (if (-1 : Int32) ≤ 0 then _ else _) = _ ∧ _
      rw [if_pos (by decide)]
      exact ih (g + 1) f o s F3 (by omega) (by omega) h1 h2 ⟨e2, e3⟩
    | some m =>
      have hm : m < 121 := by have := fs_rng _ _ _ _ et; omega
      show ∃ F', (if nI m ≤ 0 then _ else _) = _ ∧ _
      by_cases c2 : 0 < m
      · rw [if_neg (nI_nle c2 (by omega))]
        show ∃ F', (if nI s ≤ nI m then _ else _) = _ ∧ _
        by_cases c1 : m < s
        · rw [if_neg (nI_ge c1 (by omega)), show gm s (some m) = some m from if_pos ⟨c2, c1⟩]
          exact ih (g + 1) f (some g) m F3 (by omega) (by omega) (by omega) (by omega) ⟨e2, e3⟩
        · rw [if_pos (nI_le (by omega) (by omega)), show gm s (some m) = none from if_neg (by omega)]
          exact ih (g + 1) f o s F3 (by omega) (by omega) h1 h2 ⟨e2, e3⟩
      · obtain rfl : m = 0 := by omega
        rw [if_pos (by decide), gm0 s]
        exact ih (g + 1) f o s F3 (by omega) (by omega) h1 h2 ⟨e2, e3⟩
theorem pr_goal (h : gRel b R K P B L F G) (hN : 600 ≤ N) : ∃ r b' T' F', f_X3_goal N b R T K P B L p1 = some (r, b', T') ∧ f_X4_goal N F G p1 = some (r, F') ∧ gRel b' R K P B L F' G := by
  obtain ⟨a, hw, hR, hM⟩ := h.1
  have h4 := hw.2.2.2.1
  rw [f_X3_goal, f_X4_goal, c_has hR.2.2.2.2.1, r_has (hM 4 (by omega)) h4, p_bd, p_bd]
  by_cases c : hasI (a 4) p1
  · rw [bI_t c, if_neg z10, if_neg z10]
    obtain ⟨i, hi, rfl⟩ := hasI_of (by omega) c
    obtain ⟨T1, e1⟩ := c_goal_L (N := N) (b := b) (K := K) (P := P) (B := B) (L := L) hN hR hw hi 60 0 N none 121 T (by omega) (by omega) (by omega) (by omega)
    obtain ⟨F1, e2, e3⟩ := th_think (N := N) (F := F) (G := G) hN
    obtain ⟨F2, e4, e5⟩ := r_goal_L (N := N) (G := G) hN hM hw hi 60 0 N none 121 F1 (by omega) (by omega) (by omega) (by omega) e3
    have ho : ∀ m, (gl (tG a i) none 121 0 60).1 = some m → m < 100000 := fun m hm => by have := gl_rng (z := 60) _ _ _ _ (by omega) (fun m hm => by cases hm) m hm; omega
    rw [show f_X3_goal_L27 N b R K P B L (nI i) N (-1000000004) 120 0 T = _ from e1, p_bd4, c_orN ho, p_bd2, e2, p_bd, show f_X4_goal_L27 N G (nI i) N (-1) 121 0 F1 = _ from e4, p_bd4, r_orN (M := 400) ho, p_bd2]
    exact ⟨_, _, _, _, rfl, rfl, pr_end (h.thk e5.2)⟩
  · rw [bI_f c, if_pos rfl, if_pos rfl, c_f0, r_f0, p_bd2, p_bd2]
    exact ⟨_, _, _, _, rfl, rfl, h.fnd⟩
/-! feed -/
theorem b_by {k : Nat} (hk : k < 4) (x : Int32) : ∃ v, v < 256 ∧ (x >>> (nI (8 * k) &&& 31)) &&& 255 = nI v ∧ vp_nar .byte ((x.toUInt32 >>> ((nI (8 * k)).toUInt32 &&& Int32.toUInt32 31)).toInt32).toInt8.toInt32 = (nI v).toInt8.toInt32 := by
  have e : (x >>> (nI (8 * k) &&& 31)) &&& 255 = (x.toUInt32 >>> ((nI (8 * k)).toUInt32 &&& Int32.toUInt32 31)).toInt32 &&& 255 := by
    apply b_ext
    intro i hi
    rw [b_and, b_and, b_255, b_sshr (8 * k) (by omega) x hi, b_ushr (8 * k) (by omega) x i]
    by_cases q : i < 8
    · rw [if_pos (by omega)]
    · rw [decide_eq_false q, Bool.and_false, Bool.and_false]
  obtain ⟨v, h1, h2⟩ := pk_andE (x.toUInt32 >>> ((nI (8 * k)).toUInt32 &&& Int32.toUInt32 31)).toInt32 (m := 255) 8 (by decide)
  refine ⟨v, h1, e.trans h2, ?_⟩
  rw [pk_vb, ← fa_byte_low, h2]
theorem gT_add {P F P' F' : Nat → Nat → Int32} {n v : Nat} (hn : n < 120) (p0 : P 0 0 = nI n) (f0 : F 0 1 = nI n) (hb : ∀ i, i < n → ∃ v, v < 256 ∧ F 5 i = nI v ∧ P 1 i = (nI v).toInt8.toInt32) (hv : v < 256) (p1 : P' 0 0 = nI (n + 1)) (f1 : F' 0 1 = nI (n + 1)) (p2 : P' 1 = upd (P 1) n (nI v).toInt8.toInt32) (f2 : F' 5 = upd (F 5) n (nI v)) : ∀ i, i < n + 1 → ∃ v, v < 256 ∧ F' 5 i = nI v ∧ P' 1 i = (nI v).toInt8.toInt32 := by
  intro i hi
  rw [p2, f2]
  by_cases e : i = n
  · subst e
    exact ⟨v, hv, pk_us, pk_us⟩
  · rw [pk_un e, pk_un e]
    exact hb i (by omega)
/-- one side's other rows stay while bytes come -/
def fX (F F' : Nat → Nat → Int32) : Prop := (∀ j, j ≠ 0 → j ≠ 5 → F' j = F j) ∧ ∀ k, k ≠ 1 → F' 0 k = F 0 k
theorem pr_feed_L (hN : 600 ≤ N) : ∀ k f n P F, n + k ≤ 120 → k ≤ 4 → k < f → P 0 0 = nI n → F 0 1 = nI n → (∀ i, i < n → ∃ v, v < 256 ∧ F 5 i = nI v ∧ P 1 i = (nI v).toInt8.toInt32) → ∃ z P' F', f_X3_feed_L41 N b R T K B L p1 f (nI k - 1) P = some (z, P') ∧ f_X4_feed_L39 N G p1 f (nI k - 1) F = some (z, F') ∧ P' 0 0 = nI (n + k) ∧ F' 0 1 = nI (n + k) ∧ (∀ i, i < n + k → ∃ v, v < 256 ∧ F' 5 i = nI v ∧ P' 1 i = (nI v).toInt8.toInt32) ∧ fX F F' := by
  intro k
  induction k with
  | zero =>
    intro f n P F hn _ hf p0 f0 hb
    obtain ⟨f, rfl⟩ : ∃ z, f = z + 1 := ⟨f - 1, by omega⟩
    rw [f_X3_feed_L41, f_X4_feed_L39, if_pos (by decide), if_pos (by decide)]
    exact ⟨_, P, F, rfl, rfl, p0, f0, hb, fun _ _ _ => rfl, fun _ _ => rfl⟩
  | succ k ih =>
    intro f n P F hn hk4 hf p0 f0 hb
    obtain ⟨f, rfl⟩ : ∃ z, f = z + 1 := ⟨f - 1, by omega⟩
    obtain ⟨v, hv, v1, v2⟩ := b_by (k := k) (by omega) p1
    have e8 : (8 : Int32) * nI k = nI (8 * k) := by rw [show (8 : Int32) = nI 8 from rfl, pk_mul]
    have em : nI (k + 1) - 1 = nI k := nI_pred k
    have ed : nI k + (-1) = nI k - 1 := by
      rcases (show k = 0 ∨ k = 1 ∨ k = 2 ∨ k = 3 by omega) with rfl | rfl | rfl | rfl <;> rfl
    rw [f_X3_feed_L41, f_X4_feed_L39, em, if_neg (nI_pos (by omega)), if_neg (nI_pos (by omega)), e8, v1, f_X2_append, v2, p0, f0, p_grd _ (show n < 120 by omega) (by decide), p_grd _ (show n < 120 by omega) (by decide), p_let, p_let, p_let, p_let, p_let, p_bd, p_let, p_cl (by omega), ed]
    have q1 : (q_up P 1 n (nI v).toInt8.toInt32) 0 0 = nI n := p0
    have q2 : (q_up F 5 n (nI v)) 0 1 = nI n := f0
    rw [q1, q2, nI_1]
    obtain ⟨z, P', F', x1, x2, x3, x4, x5, x6⟩ := ih f (n + 1) (q_up (q_up P 1 n (nI v).toInt8.toInt32) 0 0 (nI (n + 1))) (q_up (q_up F 5 n (nI v)) 0 1 (nI (n + 1))) (by omega) (by omega) (by omega) rfl rfl (gT_add (by omega) p0 f0 hb hv rfl rfl rfl rfl)
    refine ⟨z, P', F', x1, x2, by rw [x3, show n + 1 + k = n + (k + 1) by omega], by rw [x4, show n + 1 + k = n + (k + 1) by omega], by rw [show n + (k + 1) = n + 1 + k by omega]; exact x5, fun j h1 h2 => ?_, fun j h1 => ?_⟩
    · rw [x6.1 j h1 h2, qu_n h1, qu_n h2]
    · rw [x6.2 j h1, qu_s, pk_un h1, qu_n (by decide)]
theorem pr_feed (h : gRel b R K P B L F G) (hN : 600 ≤ N) : ∃ r b' P' F', f_X3_feed N b R T K P B L p1 p2 = some (r, b', P') ∧ f_X4_feed N F G p1 p2 = some (r, F') ∧ gRel b' R K P' B L F' G := by
  have h0 := h
  obtain ⟨h1, h2, h3, ⟨n, t1, t2, t3, t4⟩, h5⟩ := h
  rw [f_X3_feed, f_X4_feed, c_within, r_in, p_bd, p_bd]
  by_cases c : (1 : Int32) ≤ p2 ∧ p2 ≤ 4
  · rw [bI_t c, if_neg z10, if_neg z10, t2, t3]
    obtain ⟨k, hk1, hk, rfl⟩ := rngL (l := 1) (h := 4) (by decide) (by decide) c
    rw [nI_add, show (120 : Int32) = nI 120 from rfl, i_le (by omega) (by omega), i_le (by omega) (by omega)]
    by_cases d : n + k ≤ 120
    · rw [if_pos d, if_pos d, p_let, p_let]
      obtain ⟨z, P', F', x1, x2, x3, x4, x5, x6⟩ := pr_feed_L (N := N) (b := b) (R := R) (T := T) (K := K) (B := B) (L := L) (G := G) (p1 := p1) hN k N n P F d hk (by omega) t2 t3 t4
      rw [x1, x2, p_bd2, p_bd2, x3, x4]
      refine ⟨_, _, _, _, rfl, rfl, ?_, ?_, ?_, ⟨n + k, d, x3, x4, x5⟩, ?_⟩
      · rw [x6.1 1 (by decide) (by decide)]; exact h1
      · rw [x6.2 0 (by decide), x6.1 2 (by decide) (by decide)]; exact h2
      · rw [x6.1 4 (by decide) (by decide)]; exact h3
      · intro s hs
        rw [x6.1 6 (by decide) (by decide), x6.1 7 (by decide) (by decide)]
        exact h5 s hs
    · rw [if_neg d, if_neg d, c_f1, r_f1, p_bd2, p_bd2]
      exact ⟨_, _, _, _, rfl, rfl, h0.fnd⟩
  · rw [bI_f c, if_pos rfl, if_pos rfl, c_f0, r_f0, p_bd2, p_bd2]
    exact ⟨_, _, _, _, rfl, rfl, h0.fnd⟩
end PR7
