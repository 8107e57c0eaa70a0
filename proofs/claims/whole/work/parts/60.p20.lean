/-! ===== pure 20: items, and the whole island ===== -/
section IL
variable {N : Nat} {P T F : Nat → Nat → Int32} {G : Nat → Int64} {n c : Nat} {t a : Nat → Nat}
theorem pm_s : ∀ w, w < 6 → pm w = w := by decide +kernel
theorem pm_b : ∀ w, w ≤ 12 → 6 ≤ w → 5 < pm w ∧ (pm w = 9 ↔ w = 6) ∧ (pm w = 10 ↔ w = 7) ∧ (pm w = 11 ↔ w = 8) := by decide +kernel
theorem pr_tellItem {k : Nat} (hN : 600 ≤ N) (hn : n ≤ 120) (hc : tS t n c = n) (hcn : c ≤ n) (hw : wf a) (hT : cRel T a) (hM : mRel (F 1) a) (h : pS P t n c k) (g : rS F t n k) (hb : F 0 6 = 0) :
    ∃ r P' T' F', f_X2_tellItem N P T = some (r, P', T') ∧ f_X4_item N F G = some F' ∧ ((r = 1 ∧ okI t n c k P' T' F F') ∨ (r = 0 ∧ noI t n c P' F F')) := by
  obtain ⟨ct, cv, rt, rv, q1, q2, q3, q4, q5, q6⟩ := tk_at h g hc
  have lt := tkR_lt q5
  have hk := h.2.1
  have by9 := r_by (N := N) (G := G) (w := 9) hN hn g hb q2 (by omega) (by decide)
  have by10 := r_by (N := N) (G := G) (w := 10) hN hn g hb q2 (by omega) (by decide)
  have by11 := r_by (N := N) (G := G) (w := 11) hN hn g hb q2 (by omega) (by decide)
  have none5 : 5 < rt → rt ≠ 9 → rt ≠ 10 → rt ≠ 11 → f_X4_item N F G = some (q_up F 0 6 1) := by
    intro x1 x2 x3 x4
    rw [f_X4_item, q2, if_pos (show (5 : Int32) < nI rt from nI_lt (a := 5) x1 (by omega)), show f_X4_passesBy N F G 9 = _ from by9.2 x2, p_bd2, if_pos rfl, show f_X4_passesBy N F G 10 = _ from by10.2 x3, p_bd2, if_pos rfl, show f_X4_passesBy N F G 11 = _ from by11.2 x4, p_bd2, if_pos rfl, p_let]
  have bad : noI t n c P F (q_up F 0 6 1) := ⟨k, h, by rw [qu_s, pk_us], by rw [qu_s, pk_un (by decide)]; exact g.2.1, dX.bad⟩
  have cI : f_X2_tellItem N P T = if ct = 1 then (if 5 < P 4 k then (if P 4 k = 6 then q_bd2 (f_X2_numberBehind N P 0 59) (fun r_19 P_20 => if r_19 = 0 then f_X2_tellItem_B63 N P_20 T (P 4 k) else q_let (q_up T 0 1 (P_20 0 2)) (fun F_23 => some (1, P_20, F_23))) else f_X2_tellItem_B63 N P T (P 4 k)) else q_bd3 (f_X2_tellThing N P T (P 4 k)) (fun r_24 P_25 F_26 => q_gb r_24 (some (r_24, P_25, F_26)))) else some (0, P, T) := by
    rw [f_X2_tellItem, h.1]
    simp only [p_grd _ (show k < 121 by omega) (show 121 < 2 ^ 31 by decide), p_cl (show k < 2 ^ 31 by omega), p_let]
    rw [q1, i_e1 (by omega)]
  rw [cI]
  by_cases c1 : ct = 1
  · subst c1
    obtain ⟨hcv, hrt⟩ : cv ≤ 12 ∧ rt = pm cv := by
      rcases q5 with ⟨z, _⟩ | ⟨_, z1, z2⟩ | ⟨z, _⟩ | ⟨z, _⟩ | ⟨z, _⟩
      · omega
      · exact ⟨z1, z2⟩
      · omega
      · omega
      · omega
    have hkc : k < c := q6 (by decide)
    rw [if_pos rfl, q4 (Or.inl rfl)]
    by_cases c6 : cv < 6
    · rw [if_neg (show ¬ (5 : Int32) < nI cv from nI_nlt (a := 5) (by omega) (by decide))]
      have er : F 0 2 = nI cv := by rw [q2, hrt, pm_s cv c6]
      obtain ⟨r, P', T', F', e1, e2, e3⟩ := pr_tellThing (N := N) (G := G) hN hn hc hcn c6 hw hT hM h hkc g er hb
      rw [f_X4_item, er, if_neg (show ¬ (5 : Int32) < nI cv from nI_nlt (a := 5) (by omega) (by decide)), e1, p_bd3, e2, p_bd]
      rcases e3 with ⟨rfl, e3⟩ | ⟨rfl, e3⟩
      · exact ⟨_, _, _, _, rfl, rfl, Or.inl ⟨rfl, e3⟩⟩
      · exact ⟨_, _, _, _, rfl, rfl, Or.inr ⟨rfl, e3⟩⟩
    · obtain ⟨b0, b9, b10, b11⟩ := pm_b cv hcv (by omega)
      rw [if_pos (show (5 : Int32) < nI cv from nI_lt (a := 5) (by omega) (by omega))]
      have r5 : (5 : Int32) < nI rt := nI_lt (a := 5) (by omega) (by omega)
      by_cases d6 : cv = 6
      · subst d6
        obtain ⟨F1, e1, e2, e3⟩ := by9.1 (by rw [hrt]; rfl)
        rw [if_pos (show nI 6 = 6 from rfl), f_X4_item, q2, if_pos r5, show f_X4_passesBy N F G 9 = _ from e1, p_bd2, if_neg z10]
        rcases pr_num (N := N) (G := G) (lo := 0) (hi := 59) hN hn hc hcn (by decide) (by decide) h hkc e3 (by rw [e2.b]; exact hb) with ⟨v, P2, F2, v1, v2, r1, r2, r3, r4, r5, r6, r7, r8⟩ | ⟨P2, x, F2, r1, r2, r3, r4, r5, r6⟩
        · rw [show f_X2_numberBehind N P 0 59 = _ from r1, p_bd2, if_neg z10, p_let, r2, show f_X4_number N F1 G 0 59 = _ from r4, p_bd2, p_gM1, p_let, p_c1]
          refine ⟨_, _, _, _, rfl, rfl, Or.inl ⟨rfl, k + 2, upN a 1 v, Nat.le_refl _, r3, r5.s (fun x _ => by rw [qu_n (by decide)]) (qu_n (by decide)), by rw [qu_n (by decide)]; exact r6, wf_bear hw (by omega), cR_bear hT, mR_q (by rw [r7, e2.m]; exact hM) (by decide), ?_⟩⟩
          exact (e2.d.tr r8).tr sX.up.d
        · rw [show f_X2_numberBehind N P 0 59 = _ from r1, p_bd2, if_pos rfl, show f_X4_number N F1 G 0 59 = _ from r3, p_bd2, p_gM1, p_let, f_X2_tellItem_B63, if_neg (by decide), f_X2_tellItem_B89, if_neg (by decide)]
          exact ⟨_, _, _, _, rfl, rfl, Or.inr ⟨rfl, k + 1, r2, by rw [qu_n (by decide)]; exact r4, by rw [qu_n (by decide)]; exact r5, (e2.d.tr r6).tr sX.up.d⟩⟩
      · rw [if_neg (show ¬ nI cv = 6 from fun z => d6 ((nI_eq (b := 6) (by omega) (by decide)).mp z)), f_X2_tellItem_B63]
        have n9 := by9.2 (by rw [hrt]; exact fun z => d6 (b9.mp z))
        by_cases d7 : cv = 7
        · subst d7
          obtain ⟨F1, e1, e2, e3⟩ := by10.1 (by rw [hrt]; rfl)
          rw [if_pos (show nI 7 = 7 from rfl), f_X4_item, q2, if_pos r5, show f_X4_passesBy N F G 9 = _ from n9, p_bd2, if_pos rfl, show f_X4_passesBy N F G 10 = _ from e1, p_bd2, if_neg z10]
          rcases pr_num (N := N) (G := G) (lo := 1) (hi := 10) hN hn hc hcn (by decide) (by decide) h hkc e3 (by rw [e2.b]; exact hb) with ⟨v, P2, F2, v1, v2, r1, r2, r3, r4, r5, r6, r7, r8⟩ | ⟨P2, x, F2, r1, r2, r3, r4, r5, r6⟩
          · rw [show f_X2_numberBehind N P 1 10 = _ from r1, p_bd2, if_neg z10, p_let, r2, show f_X4_number N F1 G 1 10 = _ from r4, p_bd2, p_gM2, p_let, p_c2]
            refine ⟨_, _, _, _, rfl, rfl, Or.inl ⟨rfl, k + 2, upN a 2 v, Nat.le_refl _, r3, r5.s (fun x _ => by rw [qu_n (by decide)]) (qu_n (by decide)), by rw [qu_n (by decide)]; exact r6, wf_spd hw (by omega), cR_spd hT, mR_q (by rw [r7, e2.m]; exact hM) (by decide), ?_⟩⟩
            exact (e2.d.tr r8).tr sX.up.d
          · rw [show f_X2_numberBehind N P 1 10 = _ from r1, p_bd2, if_pos rfl, show f_X4_number N F1 G 1 10 = _ from r3, p_bd2, p_gM2, p_let, f_X2_tellItem_B89, if_neg (by decide)]
            exact ⟨_, _, _, _, rfl, rfl, Or.inr ⟨rfl, k + 1, r2, by rw [qu_n (by decide)]; exact r4, by rw [qu_n (by decide)]; exact r5, (e2.d.tr r6).tr sX.up.d⟩⟩
        · rw [if_neg (show ¬ nI cv = 7 from fun z => d7 ((nI_eq (b := 7) (by omega) (by decide)).mp z)), f_X2_tellItem_B89]
          have n10 := by10.2 (by rw [hrt]; exact fun z => d7 (b10.mp z))
          by_cases d8 : cv = 8
          · subst d8
            obtain ⟨F1, e1, e2, e3⟩ := by11.1 (by rw [hrt]; rfl)
            rw [if_pos (show nI 8 = 8 from rfl), f_X4_item, q2, if_pos r5, show f_X4_passesBy N F G 9 = _ from n9, p_bd2, if_pos rfl, show f_X4_passesBy N F G 10 = _ from n10, p_bd2, if_pos rfl, show f_X4_passesBy N F G 11 = _ from e1, p_bd2, if_neg z10]
            rcases pr_num (N := N) (G := G) (lo := 1) (hi := 40) hN hn hc hcn (by decide) (by decide) h hkc e3 (by rw [e2.b]; exact hb) with ⟨v, P2, F2, v1, v2, r1, r2, r3, r4, r5, r6, r7, r8⟩ | ⟨P2, x, F2, r1, r2, r3, r4, r5, r6⟩
            · rw [show f_X2_numberBehind N P 1 40 = _ from r1, p_bd2, if_neg z10, p_let, r2, show f_X4_number N F1 G 1 40 = _ from r4, p_bd2, p_gM3, p_let, p_c3]
              refine ⟨_, _, _, _, rfl, rfl, Or.inl ⟨rfl, k + 2, upN a 3 v, Nat.le_refl _, r3, r5.s (fun x _ => by rw [qu_n (by decide)]) (qu_n (by decide)), by rw [qu_n (by decide)]; exact r6, wf_thk hw (by omega), cR_thk hT, mR_q (by rw [r7, e2.m]; exact hM) (by decide), ?_⟩⟩
              exact (e2.d.tr r8).tr sX.up.d
            · rw [show f_X2_numberBehind N P 1 40 = _ from r1, p_bd2, if_pos rfl, show f_X4_number N F1 G 1 40 = _ from r3, p_bd2, p_gM3, p_let]
              exact ⟨_, _, _, _, rfl, rfl, Or.inr ⟨rfl, k + 1, r2, by rw [qu_n (by decide)]; exact r4, by rw [qu_n (by decide)]; exact r5, (e2.d.tr r6).tr sX.up.d⟩⟩
          · rw [if_neg (show ¬ nI cv = 8 from fun z => d8 ((nI_eq (b := 8) (by omega) (by decide)).mp z)), none5 (by omega) (by rw [hrt]; exact fun z => d6 (b9.mp z)) (by rw [hrt]; exact fun z => d7 (b10.mp z)) (by rw [hrt]; exact fun z => d8 (b11.mp z))]
            exact ⟨_, _, _, _, rfl, rfl, Or.inr ⟨rfl, bad⟩⟩
  · have hr : 19 < rt := by
      rcases q5 with ⟨_, z⟩ | ⟨z, _⟩ | ⟨_, z, _⟩ | ⟨_, z⟩ | ⟨_, z⟩ <;> omega
    rw [if_neg c1, none5 (by omega) (by omega) (by omega) (by omega)]
    exact ⟨_, _, _, _, rfl, rfl, Or.inr ⟨rfl, bad⟩⟩
theorem c_B71 {k : Nat} (hn : n ≤ 120) (hcn : c ≤ n) (h : pS P t n c k) : f_X2_tell_B71 N P T = some (-1 - nI (tS t n k), P, T) := by
  have hk := h.2.1
  rw [f_X2_tell_B71, h.1, p_grd _ (by omega) (by decide), p_cl (by omega), (h.2.2 k (by omega)).1]
theorem pr_tell_L (hN : 600 ≤ N) (hn : n ≤ 120) (hc : tS t n c = n) (hcn : c ≤ n) : ∀ m v k f g P T F a, c < k + m → m ≤ f → m ≤ g → 1 ≤ v → 3 * (v - 1) ≤ k → wf a → cRel T a → mRel (F 1) a → pS P t n c k → rS F t n k → F 0 6 = 0 →
    ∃ r P' T' x F1 F', f_X2_tell_L11 N f (nI v) P T = some (r, P', T') ∧ f_X4_item N F G = some F1 ∧ f_X4_island_L24 N G g (nI v) F1 = some (x, F') ∧ dX F F' ∧ ((∃ u a', u ≤ 120 ∧ r = nI u ∧ x = nI u ∧ F' 0 6 = 0 ∧ F' 0 2 = 22 ∧ wf a' ∧ cRel T' a' ∧ mRel (F' 1) a') ∨ (∃ s, s ≤ 120 ∧ r = -1 - nI s ∧ F' 0 3 = nI s ∧ (F' 0 6 = 1 ∨ (F' 0 6 = 0 ∧ ¬ F' 0 2 = 22)))) := by
  intro m
  induction m with
  | zero => intro v k f g P T F a hk _ _ _ _ _ _ _ h; have := h.2.1; omega
  | succ m ih =>
    intro v k f g P T F a hk hf hg hv h3 hw hT hM h gr hb
    obtain ⟨f, rfl⟩ : ∃ z, f = z + 1 := ⟨f - 1, by omega⟩
    obtain ⟨g, rfl⟩ : ∃ z, g = z + 1 := ⟨g - 1, by omega⟩
    have hkc := h.2.1
    obtain ⟨r, P1, T1, F1, e1, e2, e3⟩ := pr_tellItem (N := N) (G := G) hN hn hc hcn hw hT hM h gr hb
    rw [f_X2_tell_L11, if_neg (show ¬ (120 : Int32) < nI v from nI_nlt (a := 120) (by omega) (by decide)), e1, p_bd3]
    rcases e3 with ⟨rfl, k1, a1, o1, o2, o3, o4, o5, o6, o7, o8⟩ | ⟨rfl, k1, o1, o2, o3, o4⟩
    · obtain ⟨ct, cv, rt, rv, q1, q2, q3, q4, q5, q6⟩ := tk_at o2 o3 hc
      have lt := tkR_lt q5
      have hk1 := o2.2.1
      have by21 := r_by (N := N) (G := G) (w := 21) hN hn o3 o4 q2 (by omega) (by decide)
      rw [if_neg z10, o2.1]
      simp only [p_grd _ (show k1 < 121 by omega) (show 121 < 2 ^ 31 by decide), p_cl (show k1 < 2 ^ 31 by omega)]
      rw [q1, i_e0 (by omega), i_e3 (by omega)]
      by_cases c0 : ct = 0
      · have hrt : rt = 22 := by
          rcases q5 with ⟨_, z⟩ | ⟨z, _⟩ | ⟨z, _⟩ | ⟨z, _⟩ | ⟨z, _⟩ <;> omega
        rw [if_pos c0]
        refine ⟨_, _, _, nI v, F1, F1, rfl, e2, ?_, o8, Or.inl ⟨v, a1, by omega, rfl, rfl, o4, by rw [q2, hrt]; rfl, o5, o6, o7⟩⟩
        rw [f_X4_island_L24, show f_X4_passesBy N F1 G 21 = _ from by21.2 (by omega), p_bd2, if_pos rfl]
      · rw [if_neg c0]
        by_cases c3 : ct = 3
        · have hrt : rt = 21 := by
            rcases q5 with ⟨z, _⟩ | ⟨z, _⟩ | ⟨z, _⟩ | ⟨_, z⟩ | ⟨z, _⟩ <;> omega
          have := q6 c0
          obtain ⟨F2, b1, b2, b3⟩ := by21.1 hrt
          rw [if_pos c3, p_let, p_let, nI_1, nI_1]
          obtain ⟨r, P', T', x, F3, F', y1, y2, y3, y4, y5⟩ := ih (v + 1) (k1 + 1) f g (q_up P1 0 1 (nI (k1 + 1))) T1 F2 a1 (by omega) (by omega) (by omega) (by omega) (by omega) o5 o6 (by rw [b2.m]; exact o7) ⟨by rw [qu_s, pk_us], by omega, o2.2.2.up⟩ b3 (by rw [b2.b]; exact o4)
          refine ⟨r, P', T', x, F1, F', y1, e2, ?_, (o8.tr b2.d).tr y4, y5⟩
          rw [f_X4_island_L24, show f_X4_passesBy N F1 G 21 = _ from b1, p_bd2, if_neg z10, y2, p_bd, p_let, nI_1]
          exact y3
        · have hrt : rt ≠ 21 ∧ rt ≠ 22 := by
            rcases q5 with ⟨z, _⟩ | ⟨_, z1, z2⟩ | ⟨_, z, _⟩ | ⟨z, _⟩ | ⟨_, z⟩
            · omega
            · have := pm_ne _ z1; omega
            · omega
            · omega
            · omega
          rw [if_neg c3, c_B71 hn hcn o2]
          have := tS_le (t := t) (n := n) k1
          refine ⟨_, _, _, nI v, F1, F1, rfl, e2, ?_, o8, Or.inr ⟨tS t n k1, by omega, rfl, o3.2.1, Or.inr ⟨o4, ?_⟩⟩⟩
          · rw [f_X4_island_L24, show f_X4_passesBy N F1 G 21 = _ from by21.2 hrt.1, p_bd2, if_pos rfl]
          · rw [q2]; exact fun z => hrt.2 ((nI_eq (b := 22) (by omega) (by decide)).mp z)
    · have := tS_le (t := t) (n := n) k1
      rw [if_pos rfl, c_B71 hn hcn o1]
      refine ⟨_, _, _, nI v, F1, F1, rfl, e2, ?_, o4, Or.inr ⟨tS t n k1, by omega, rfl, o3, Or.inl o2⟩⟩
      rw [f_X4_island_L24, r_byBad o2, p_bd2, if_pos rfl]
theorem neg_s : ∀ s, s ≤ 120 → ((-1 : Int32) - nI s) < 0 := by decide +kernel
end IL
section IS
variable {N : Nat} {b R T K P B F : Nat → Nat → Int32} {L : Nat → Nat → Int64} {G : Nat → Int64}
theorem pr_island (h : gRel b R K P B L F G) (hN : 600 ≤ N) : ∃ r R' T' P' F', f_X3_island N b R T K P B L = some (r, R', T', P') ∧ f_X4_island N F G = some (r, F') ∧ gRel b R' K P' B L F' G := by
  obtain ⟨⟨a, hw, hR, hM⟩, hK, hF, ⟨n, hn, p0, f1, hbytes⟩, hS⟩ := h
  have h4 := hw.2.2.2.1
  have hby : ∀ i, i < n → (F 5 i).toNatClampNeg < 256 ∧ F 5 i = nI (F 5 i).toNatClampNeg ∧ P 1 i = sg (F 5 i).toNatClampNeg := by
    intro i hi
    obtain ⟨v, v1, v2, v3⟩ := hbytes i hi
    rw [v2, p_cl (by omega)]
    exact ⟨v1, rfl, v3⟩
  obtain ⟨t, ht⟩ : ∃ t : Nat → Nat, t = fun i => (F 5 i).toNatClampNeg := ⟨_, rfl⟩
  have hby : ∀ i, i < n → t i < 256 ∧ F 5 i = nI (t i) ∧ P 1 i = sg (t i) := by rw [ht]; exact hby
  obtain ⟨T1, t1, t2⟩ := c_bec (N := N) (F := T) (by omega) hR hw
  obtain ⟨c, P1, k1, k2, k3, k4, k5⟩ := c_tokens (N := N) (P := P) (t := t) hN hn ⟨p0, fun i hi => ⟨(hby i hi).1, (hby i hi).2.2⟩⟩
  obtain ⟨F1, g1, g2⟩ := th_think (N := N) (F := F) (G := G) hN
  have x0 : F1 0 = F 0 := g2.1.1 0 (by decide) (by decide)
  have x5 : F1 5 = F 5 := g2.1.1 5 (by decide) (by decide)
  have tp4 : tp (q_up (q_up F1 0 4 0) 0 6 0) n t := ⟨by rw [qu_s, pk_un (by decide), qu_s, pk_un (by decide), x0]; exact f1, fun i hi => by rw [qu_n (by decide), qu_n (by decide), x5]; exact ⟨(hby i hi).1, (hby i hi).2.1⟩⟩
  obtain ⟨F5, y1, y2, y3, y4, y5, y6⟩ := r_reads (N := N) (G := G) (p := 0) hN tp4 hn (Nat.zero_le _) (by rw [qu_s, pk_un (by decide), qu_s, pk_us]; rfl)
  have rs0 : rS F5 t n 0 := ⟨tp4.x y2, y3, y4, y5, y6⟩
  have b5 : F5 0 6 = 0 := by rw [y2.b, qu_s, pk_us]
  have m5 : mRel (F5 1) a := by rw [y2.m, qu_n (by decide), qu_n (by decide)]; exact g2.m hM h4
  obtain ⟨r, P2, T2, x, F7, F8, z1, z2, z3, z4, z5⟩ := pr_tell_L (N := N) (G := G) hN hn k3 k2 (c + 1) 1 0 N N (q_up P1 0 1 0) T1 F5 a (by omega) (by omega) (by omega) (by omega) (by omega) hw t2 m5 ⟨by rw [qu_s, pk_us]; rfl, Nat.zero_le _, k5.up⟩ rs0 b5
  have base : ∀ j, j ≠ 0 → j ≠ 1 → j ≠ 3 → F8 j = F j := fun j a0 a1 a3 => by rw [z4.1 j a0 a1, y2.1 j a0, qu_n a0, qu_n a0, g2.1.1 j a1 a3]
  have base3 : F8 3 = F1 3 := by rw [z4.1 3 (by decide) (by decide), y2.1 3 (by decide), qu_n (by decide), qu_n (by decide)]
  have base0 : F8 0 0 = F 0 0 := by rw [z4.2.1, y2.2 0 (by decide) (by decide) (by decide) (by decide), qu_s, pk_un (by decide), qu_s, pk_un (by decide), x0]
  have stop : ∀ {R' F' P' : Nat → Nat → Int32}, gI R' (F' 1) → (∀ j, j ≠ 0 → j ≠ 1 → j ≠ 3 → F' j = F j) → F' 0 0 = F 0 0 → F' 0 1 = 0 → P' 0 0 = 0 → gRel b R' K P' B L F' G := by
    intro R' F' P' u1 u2 u3 u4 u5
    refine ⟨u1, by rw [u3, u2 2 (by decide) (by decide) (by decide)]; exact hK, by rw [u2 4 (by decide) (by decide) (by decide)]; exact hF, ⟨0, by decide, u5, u4, fun i hi => absurd hi (Nat.not_lt_zero _)⟩, ?_⟩
    intro s hs
    rw [u2 6 (by decide) (by decide) (by decide), u2 7 (by decide) (by decide) (by decide)]
    exact hS s hs
  rw [f_X3_island, t1, p_bd, f_X2_tell, k1, p_bd, p_let, show f_X2_tell_L11 N N 1 (q_up P1 0 1 0) T1 = _ from z1, p_bd3, p_let]
  rw [f_X4_island, g1, p_bd, p_let, p_let, y1, p_bd, z2, p_bd, show f_X4_island_L24 N G N 1 F7 = _ from z3, p_bd2]
  rcases z5 with ⟨u, a', w1, rfl, rfl, w4, w5, w6, w7, w8⟩ | ⟨s, w1, rfl, w3, w4⟩
  · obtain ⟨R', e1, e2⟩ := c_bec (N := N) (F := R) (by omega) w7 w6
    rw [if_neg (nI_pos (by omega)), e1, p_bd, w4, if_pos rfl, w5, if_pos rfl, f_X4_island_B65, p_gb0, p_let, p_let, show q_up (q_up F8 0 6 0) 0 1 0 0 6 = 0 by rw [qu_s, pk_un (by decide), qu_s, pk_us], if_pos rfl]
    refine ⟨_, _, _, _, _, rfl, rfl, stop ⟨a', w6, e2, ?_⟩ (fun j a0 a1 a3 => ?_) ?_ ?_ ?_⟩
    · rw [qu_n (by decide), qu_n (by decide)]; exact w8
    · rw [qu_n a0, qu_n a0]; exact base j a0 a1 a3
    · rw [qu_s, pk_un (by decide), qu_s, pk_un (by decide)]; exact base0
    · rw [qu_s, pk_us]
    · rw [qu_s, pk_us]
  · have e60 : (if F8 0 6 = 0 then (if F8 0 2 = 22 then f_X4_island_B65 N F8 G x 0 else f_X4_island_B60 N F8 G x) else f_X4_island_B60 N F8 G x) = f_X4_island_B65 N F8 G x 1 := by
      rcases w4 with w4 | ⟨w4, w5⟩
      · rw [w4, if_neg z10]; rfl
      · rw [w4, if_pos rfl, if_neg w5]; rfl
    generalize hF21 : q_up (q_up F8 0 6 1) 0 1 0 = F21
    have v6 : F21 0 6 = 1 := by rw [← hF21, qu_s, pk_un (by decide), qu_s, pk_us]
    have v0 : ∀ j, j ≠ 0 → F21 j = F8 j := fun j hj => by rw [← hF21, qu_n hj, qu_n hj]
    have v3 : F21 0 3 = nI s := by rw [← hF21, qu_s, pk_un (by decide), qu_s, pk_un (by decide)]; exact w3
    have v00 : F21 0 0 = F 0 0 := by rw [← hF21, qu_s, pk_un (by decide), qu_s, pk_un (by decide)]; exact base0
    have v1 : F21 0 1 = 0 := by rw [← hF21, qu_s, pk_us]
    have tkb : tk (fun j => if j = 1 then F 1 else F21 j) F21 := by
      refine ⟨fun j h1 h3 => by show F21 j = if j = 1 then F 1 else F21 j; rw [if_neg h1], fun k hk => ?_⟩
      show F21 3 k = (if 1 = 1 then F 1 else F21 1) k
      rw [if_pos rfl, v0 3 (by decide), base3]
      exact g2.1.2 k hk
    obtain ⟨F23, b1, b2, b3⟩ := tkb.back (N := N) (G := G) hN
    have r0 : F23 0 = F21 0 := b3.1 0 (by decide) (by decide)
    rw [if_pos (neg_s s w1), e60, f_X4_island_B65, p_gb1, p_let, p_let, hF21, v6, if_neg z10, b1, p_bd, r0, v3]
    refine ⟨_, _, _, _, _, rfl, rfl, stop ⟨a, hw, hR, mR_cong hM h4 (fun k hk => b3.2 k hk)⟩ (fun j a0 a1 a3 => ?_) ?_ ?_ ?_⟩
    · rw [b3.1 j a1 a3]
      show (if j = 1 then F 1 else F21 j) = F j
      rw [if_neg a1, v0 j a0]; exact base j a0 a1 a3
    · rw [r0]; exact v00
    · rw [r0]; exact v1
    · rw [qu_s, pk_us]
end IS
