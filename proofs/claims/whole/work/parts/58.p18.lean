/-! ===== pure 18: the class cuts the tape ===== -/
section CT
variable {N : Nat} {P : Nat → Nat → Int32} {n : Nat} {t : Nat → Nat}
def tc (P : Nat → Nat → Int32) (n : Nat) (t : Nat → Nat) : Prop := P 0 0 = nI n ∧ ∀ i, i < n → t i < 256 ∧ P 1 i = sg (t i)
theorem tc.x {P P' : Nat → Nat → Int32} (h : tc P n t) (h0 : P' 0 = P 0) (h1 : P' 1 = P 1) : tc P' n t := ⟨by rw [h0]; exact h.1, fun i hi => by rw [h1]; exact h.2 i hi⟩
theorem c_let (h : tc P n t) (hn : n ≤ 120) {c s : Int32} : ∀ m p f, p + m = n → m < f → f_X2_cutToken_L23 N P c s f (nI p) = some (nI (rn qL t m p)) := by
  intro m
  induction m with
  | zero =>
    intro p f hp hf
    obtain ⟨f, rfl⟩ : ∃ g, f = g + 1 := ⟨f - 1, by omega⟩
    rw [f_X2_cutToken_L23, h.1, if_pos (nI_le (by omega) (by omega)), rn]
  | succ m ih =>
    intro p f hp hf
    obtain ⟨f, rfl⟩ : ∃ g, f = g + 1 := ⟨f - 1, by omega⟩
    obtain ⟨g1, g2⟩ := h.2 p (by omega)
    rw [f_X2_cutToken_L23, h.1, if_neg (nI_ge (by omega) (by omega)), p_grd _ (by omega) (by decide), p_cl (by omega), g2, sg_L _ g1, p_bd, rn]
    by_cases c : qL (t p) = true
    · rw [bI_t (qL_i.mp c), if_neg z10, if_pos c, p_let, nI_1]
      exact ih (p + 1) f (by omega) (by omega)
    · rw [bI_f (fun z => c (qL_i.mpr z)), if_pos rfl, if_neg c]
theorem c_dig (h : tc P n t) (hn : n ≤ 120) {c s : Int32} : ∀ m p f, p + m = n → m < f → f_X2_cutToken_L83 N P c s f (nI p) = some (nI (rn qD t m p)) := by
  intro m
  induction m with
  | zero =>
    intro p f hp hf
    obtain ⟨f, rfl⟩ : ∃ g, f = g + 1 := ⟨f - 1, by omega⟩
    rw [f_X2_cutToken_L83, h.1, if_pos (nI_le (by omega) (by omega)), rn]
  | succ m ih =>
    intro p f hp hf
    obtain ⟨f, rfl⟩ : ∃ g, f = g + 1 := ⟨f - 1, by omega⟩
    obtain ⟨g1, g2⟩ := h.2 p (by omega)
    rw [f_X2_cutToken_L83, h.1, if_neg (nI_ge (by omega) (by omega)), p_grd _ (by omega) (by decide), p_cl (by omega), g2, sg_D _ g1, p_bd, rn]
    by_cases c : qD (t p) = true
    · rw [bI_t (qD_i.mp c), if_neg z10, if_pos c, p_let, nI_1]
      exact ih (p + 1) f (by omega) (by omega)
    · rw [bI_f (fun z => c (qD_i.mpr z)), if_pos rfl, if_neg c]
theorem c_spelt_L {p w : Nat} (h : tc P n t) (hn : n ≤ 120) (hw : w < 12) (hp : p + ln w ≤ n) : ∀ m j f, j + m = ln w → m < f → f_X2_isSpelt_L15 N w P (nI p) (nI (p + ln w)) f (nI (p + j)) = some (bI (ez t p w m j = true)) := by
  intro m
  induction m with
  | zero =>
    intro j f hj hf
    obtain ⟨f, rfl⟩ : ∃ g, f = g + 1 := ⟨f - 1, by omega⟩
    rw [f_X2_isSpelt_L15, if_pos (nI_le (by omega) (by omega)), ez, bI_t rfl]
  | succ m ih =>
    intro j f hj hf
    obtain ⟨f, rfl⟩ : ∃ g, f = g + 1 := ⟨f - 1, by omega⟩
    obtain ⟨g1, g2⟩ := h.2 (p + j) (by omega)
    have hz := t_nz w hw j (by omega)
    rw [f_X2_isSpelt_L15, if_neg (nI_ge (by omega) (by omega)), p_grd _ (by omega) (by decide), pk_sub (by omega), show p + j - p = j by omega, t_chr w hw j (by omega), p_bd, p_cl (by omega), g2, ez]
    by_cases c : t (p + j) = nz w j
    · rw [if_pos ((sg_c _ (by omega) _ g1).mpr c), if_pos c, p_let, nI_1]
      exact ih (j + 1) f (by omega) (by omega)
    · rw [if_neg (fun z => c ((sg_c _ (by omega) _ g1).mp z)), if_neg c, bI_f (by decide)]
theorem c_spelt {p e w : Nat} (hN : 600 ≤ N) (h : tc P n t) (hn : n ≤ 120) (hw : w < 12) (hp : p ≤ e) (he : e ≤ n) : f_X2_isSpelt N P w (nI p) (nI e) = some (bI (wX t p e w)) := by
  have hln := t_ln w hw
  rw [f_X2_isSpelt, t_len w hw, p_bd, pk_sub hp, i_eq (by omega) (by omega)]
  by_cases c : e - p = ln w
  · obtain rfl : e = p + ln w := by omega
    rw [if_pos c, show f_X2_isSpelt_L15 N w P (nI p) (nI (p + ln w)) N (nI p) = _ from c_spelt_L (N := N) h hn hw he (ln w) 0 N (by omega) (by omega)]
    exact congrArg some (bI_dec ⟨fun z => ⟨rfl, z⟩, fun z => z.2⟩)
  · rw [if_neg c, bI_f (fun z => c (by have := z.1; omega))]
theorem c_word {p e : Nat} (hN : 600 ≤ N) (h : tc P n t) (hn : n ≤ 120) (hp : p ≤ e) (he : e ≤ n) : f_X2_wordAt N P (nI p) (nI e) = some (nI (wd t p e)) := by
  have lp : ∀ m v f, v + m = 12 → m < f → f_X2_wordAt_L2 N P (nI p) (nI e) f (nI v) = some (nI (fw t p e m v)) := by
    intro m
    induction m with
    | zero =>
      intro v f hv hf
      obtain ⟨f, rfl⟩ : ∃ g, f = g + 1 := ⟨f - 1, by omega⟩
      rw [f_X2_wordAt_L2, if_pos (show (12 : Int32) ≤ nI v from nI_le (a := 12) (by omega) (by omega)), fw]
    | succ m ih =>
      intro v f hv hf
      obtain ⟨f, rfl⟩ : ∃ g, f = g + 1 := ⟨f - 1, by omega⟩
      rw [f_X2_wordAt_L2, if_neg (show ¬ (12 : Int32) ≤ nI v from nI_ge (b := 12) (by omega) (by decide)), t_wo v (by omega), p_bd, p_lt _ (by omega), c_spelt hN h hn (by omega) hp he, p_bd, fw]
      by_cases c : wX t p e v
      · rw [bI_t c, if_neg z10, if_pos c]
      · rw [bI_f c, if_pos rfl, if_neg c, p_let, nI_1]
        exact ih (v + 1) f (by omega) (by omega)
  rw [f_X2_wordAt, show f_X2_wordAt_L2 N P (nI p) (nI e) N 0 = _ from lp 12 0 N (by omega) (by omega), p_bd]; rfl
theorem c_num_L {e : Nat} (h : tc P n t) (hn : n ≤ 120) (he : e ≤ n) : ∀ m p f x, p + m = e → m < f → x ≤ 1000 → (∀ i, p ≤ i → i < e → bD (t i)) → f_X2_numberAt_L5 N P (nI e) f (nI x) (nI p) = some (nI (nC t m p x), nI e) := by
  intro m
  induction m with
  | zero =>
    intro p f x hp hf hx hd
    obtain ⟨f, rfl⟩ : ∃ g, f = g + 1 := ⟨f - 1, by omega⟩
    rw [f_X2_numberAt_L5, if_pos (nI_le (by omega) (by omega)), nC, show p = e by omega]
  | succ m ih =>
    intro p f x hp hf hx hd
    obtain ⟨f, rfl⟩ : ∃ g, f = g + 1 := ⟨f - 1, by omega⟩
    obtain ⟨g1, g2⟩ := h.2 p (by omega)
    have d := hd p (Nat.le_refl _) (by omega)
    have ev : nI x * 10 + (sg (t p) - 48) = nI (10 * x + (t p - 48)) := by
      rw [sg_d _ (by omega) d.1, show (10 : Int32) = nI 10 from rfl, pk_mul, nI_add, Nat.mul_comm]
    rw [f_X2_numberAt_L5, if_neg (nI_ge (by omega) (by omega)), p_grd _ (by omega) (by decide), p_let, p_let, p_cl (by omega), g2, ev, nI_1, nC]
    have e2 : (if (1000 : Int32) < nI (10 * x + (t p - 48)) then (1000 : Int32) else nI (10 * x + (t p - 48))) = nI (if 1000 < 10 * x + (t p - 48) then 1000 else 10 * x + (t p - 48)) := by
      by_cases c : 1000 < 10 * x + (t p - 48)
      · rw [if_pos c, if_pos (show (1000 : Int32) < _ from nI_lt (a := 1000) c (by omega))]; rfl
      · rw [if_neg c, if_neg (show ¬ (1000 : Int32) < _ from nI_nlt (a := 1000) (by omega) (by decide))]
    rw [e2]
    refine ih (p + 1) f _ (by omega) (by omega) ?_ (fun i a b => hd i (by omega) b)
    split <;> omega
theorem c_cut {c p : Nat} (hN : 600 ≤ N) (h : tc P n t) (hn : n ≤ 120) (hc : c < 121) (hp : p < n) : ∃ P', f_X2_cutToken N P (nI c) (nI p) = some (nI (tE t n p), P') ∧ P' 0 = P 0 ∧ P' 1 = P 1 ∧ (∀ j k, k ≠ c → P' j k = P j k) ∧ P' 3 c = nI p ∧ P' 2 c = nI (cT t n p) ∧ (cT t n p = 1 ∨ cT t n p = 2 → P' 4 c = nI (cV t n p)) := by
  obtain ⟨g1, g2⟩ := h.2 p hp
  have t3 : tc (q_up P 3 c (nI p)) n t := h.x (qu_n (by decide)) (qu_n (by decide))
  have le := tE_le (t := t) (show p ≤ n by omega)
  have kc : ∀ (Q : Nat → Nat → Int32) (j x : Nat) (v : Int32) (k : Nat), k ≠ c → q_up Q j c v x k = Q x k := by
    intro Q j x v k hk
    by_cases e : x = j
    · subst e; rw [qu_s, pk_un hk]
    · rw [qu_n e]
  obtain ⟨m, hm⟩ : ∃ m, n - p = m + 1 := ⟨n - p - 1, by omega⟩
  rw [f_X2_cutToken, p_let, p_grd _ hc (by decide), p_let, p_grd _ (by omega) (by decide), p_cl (by omega), p_cl (by omega), show q_up P 3 c (nI p) 1 p = sg (t p) by rw [qu_n (by decide), g2], sg_L _ g1, p_bd, nI_1]
  by_cases dL : qL (t p) = true
  · have eE : tE t n p = rn qL t m (p + 1) := by unfold tE; rw [if_neg (by omega), if_pos dL, hm, rn, if_pos dL]
    have t4 : tc (q_up (q_up P 3 c (nI p)) 2 c 1) n t := t3.x (qu_n (by decide)) (qu_n (by decide))
    have eT : cT t n p = 1 := by unfold cT; rw [if_neg (by omega), if_pos dL]
    have eV : cV t n p = wd t p (tE t n p) := by unfold cV; rw [if_pos dL]
    rw [bI_t (qL_i.mp dL), if_neg z10, c_let t3 hn m (p + 1) N (by omega) (by omega), p_bd, ← eE, f_X2_cutToken_B49, p_grd _ hc (by decide), p_let, p_cl (by omega), c_word hN t4 hn le.2 le.1, p_bd, p_grd _ hc (by decide), p_let]
    refine ⟨_, rfl, ?_, ?_, ?_, ?_, ?_, ?_⟩
    · rw [qu_n (by decide), qu_n (by decide), qu_n (by decide)]
    · rw [qu_n (by decide), qu_n (by decide), qu_n (by decide)]
    · intro j k hk; rw [kc _ _ _ _ _ hk, kc _ _ _ _ _ hk, kc _ _ _ _ _ hk]
    · rw [qu_n (by decide), qu_n (by decide), qu_s, pk_us]
    · rw [qu_n (by decide), qu_s, pk_us, eT]; rfl
    · intro _; rw [qu_s, pk_us, eV]
  · rw [bI_f (fun z => dL (qL_i.mpr z)), if_pos rfl, p_grd _ (by omega) (by decide), sg_D _ g1, p_bd]
    by_cases dD : qD (t p) = true
    · have eE : tE t n p = rn qD t m (p + 1) := by unfold tE; rw [if_neg (by omega), if_neg dL, if_pos dD, hm, rn, if_pos dD]
      have eE2 : tE t n p = rn qD t (n - p) p := by unfold tE; rw [if_neg (by omega), if_neg dL, if_pos dD]
      have t4 : tc (q_up (q_up P 3 c (nI p)) 2 c 2) n t := t3.x (qu_n (by decide)) (qu_n (by decide))
      have eT : cT t n p = 2 := by unfold cT; rw [if_neg (by omega), if_neg dL, if_pos dD]
      have eV : cV t n p = nC t (tE t n p - p) p 0 := by unfold cV; rw [if_neg dL]
      rw [bI_t (qD_i.mp dD), if_neg z10, c_dig t3 hn m (p + 1) N (by omega) (by omega), p_bd, ← eE, f_X2_cutToken_B109, p_grd _ hc (by decide), p_let, p_cl (by omega), f_X2_numberAt, show f_X2_numberAt_L5 N (q_up (q_up P 3 c (nI p)) 2 c 2) (nI (tE t n p)) N 0 (nI p) = _ from c_num_L t4 hn le.1 (tE t n p - p) p N 0 (by omega) (by omega) (by decide) (fun i a b => qD_i.mp (rn_all (n - p) p i a (by rw [← eE2]; exact b))), p_bd2, p_bd, p_grd _ hc (by decide), p_let]
      refine ⟨_, rfl, ?_, ?_, ?_, ?_, ?_, ?_⟩
      · rw [qu_n (by decide), qu_n (by decide), qu_n (by decide)]
      · rw [qu_n (by decide), qu_n (by decide), qu_n (by decide)]
      · intro j k hk; rw [kc _ _ _ _ _ hk, kc _ _ _ _ _ hk, kc _ _ _ _ _ hk]
      · rw [qu_n (by decide), qu_n (by decide), qu_s, pk_us]
      · rw [qu_n (by decide), qu_s, pk_us, eT]; rfl
      · intro _; rw [qu_s, pk_us, eV]
    · have eE : tE t n p = p + 1 := by unfold tE; rw [if_neg (by omega), if_neg dL, if_neg dD]
      rw [bI_f (fun z => dD (qD_i.mpr z)), if_pos rfl, p_grd _ (by omega) (by decide), eE]
      by_cases d59 : t p = 59
      · have eT : cT t n p = 3 := by unfold cT; rw [if_neg (by omega), if_neg dL, if_neg dD, if_pos d59]
        rw [if_pos ((sg_59 _ g1).mpr d59), p_grd _ hc (by decide), p_let]
        refine ⟨_, rfl, ?_, ?_, ?_, ?_, ?_, ?_⟩
        · rw [qu_n (by decide), qu_n (by decide)]
        · rw [qu_n (by decide), qu_n (by decide)]
        · intro j k hk; rw [kc _ _ _ _ _ hk, kc _ _ _ _ _ hk]
        · rw [qu_n (by decide), qu_s, pk_us]
        · rw [qu_s, pk_us, eT]; rfl
        · intro z; omega
      · have eT : cT t n p = 4 := by unfold cT; rw [if_neg (by omega), if_neg dL, if_neg dD, if_neg d59]
        rw [if_neg (fun z => d59 ((sg_59 _ g1).mp z)), p_grd _ hc (by decide), p_let]
        refine ⟨_, rfl, ?_, ?_, ?_, ?_, ?_, ?_⟩
        · rw [qu_n (by decide), qu_n (by decide)]
        · rw [qu_n (by decide), qu_n (by decide)]
        · intro j k hk; rw [kc _ _ _ _ _ hk, kc _ _ _ _ _ hk]
        · rw [qu_n (by decide), qu_s, pk_us]
        · rw [qu_s, pk_us, eT]; rfl
        · intro z; omega
/-- the rows of the tokens up to the c-th -/
def tb (P : Nat → Nat → Int32) (t : Nat → Nat) (n c : Nat) : Prop := ∀ k, k < c → P 3 k = nI (tS t n k) ∧ P 2 k = nI (cT t n (tS t n k)) ∧ (cT t n (tS t n k) = 1 ∨ cT t n (tS t n k) = 2 → P 4 k = nI (cV t n (tS t n k)))
theorem c_cuts_L (hN : 600 ≤ N) (hn : n ≤ 120) : ∀ m p f c e P, p + m = n → m < f → c ≤ p → e ≤ n → tc P n t → tb P t n c → tS t n c = rn qS t (n - max p e) (max p e) → ∃ c' e' P', f_X2_cutTokens_L6 N f (nI c) (nI e) (nI p) P = some (nI c', nI e', nI n, P') ∧ c' ≤ n ∧ tc P' n t ∧ tb P' t n c' ∧ tS t n c' = n ∧ P' 0 = P 0 := by
  intro m
  induction m with
  | zero =>
    intro p f c e P hp hf hc he h hb hs
    obtain ⟨f, rfl⟩ : ∃ g, f = g + 1 := ⟨f - 1, by omega⟩
    rw [f_X2_cutTokens_L6, h.1, if_pos (nI_le (by omega) (by omega)), show p = n by omega]
    refine ⟨c, e, P, rfl, by omega, h, hb, ?_, rfl⟩
    rw [hs, show max p e = n by omega, Nat.sub_self]; rfl
  | succ m ih =>
    intro p f c e P hp hf hc he h hb hs
    obtain ⟨f, rfl⟩ : ∃ g, f = g + 1 := ⟨f - 1, by omega⟩
    rw [f_X2_cutTokens_L6, h.1, if_neg (nI_ge (by omega) (by omega))]
    by_cases c1 : p < e
    · rw [if_pos (nI_lt c1 (by omega)), p_let, nI_1]
      exact ih (p + 1) f c e P (by omega) (by omega) (by omega) he h hb (by rw [hs, show max p e = e by omega, show max (p + 1) e = e by omega])
    · obtain ⟨g1, g2⟩ := h.2 p (by omega)
      rw [if_neg (nI_nlt (a := p) (by omega) (by omega)), p_grd _ (by omega) (by decide), p_cl (by omega), g2]
      rw [show max p e = p by omega, show n - p = m + 1 by omega, rn] at hs
      by_cases c2 : t p = 32
      · rw [if_pos (qS_i.mpr c2)] at hs
        rw [if_pos ((sg_32 _ g1).mpr c2), p_let, nI_1]
        exact ih (p + 1) f c e P (by omega) (by omega) (by omega) he h hb (by rw [hs, show max (p + 1) e = p + 1 by omega, show n - (p + 1) = m by omega])
      · rw [if_neg (fun z => c2 (qS_i.mp z))] at hs
        obtain ⟨P1, e1, e2, e3, e4, e5, e6, e7⟩ := c_cut (N := N) (c := c) hN h hn (by omega) (show p < n by omega)
        have lt := tE_lt (t := t) (show p < n by omega)
        have le := tE_le (t := t) (show p ≤ n by omega)
        rw [if_neg (fun z => c2 ((sg_32 _ g1).mp z)), e1, p_bd2, p_let, p_let, nI_1, nI_1]
        obtain ⟨c', e', P', q1, q2, q3, q4, q5, q6⟩ := ih (p + 1) f (c + 1) (tE t n p) P1 (by omega) (by omega) (by omega) le.1 (h.x e2 e3) (fun k hk => by
          by_cases d : k = c
          · subst d
            rw [hs]
            exact ⟨e5, e6, e7⟩
          · rw [e4 3 k d, e4 2 k d, e4 4 k d]
            exact hb k (by omega)) (by rw [tS, hs, show max (p + 1) (tE t n p) = tE t n p by omega])
        exact ⟨c', e', P', q1, q2, q3, q4, q5, q6.trans e2⟩
theorem c_tokens (hN : 600 ≤ N) (hn : n ≤ 120) (h : tc P n t) : ∃ c P', f_X2_cutTokens N P = some P' ∧ c ≤ n ∧ tS t n c = n ∧ P' 0 = P 0 ∧ tb P' t n (c + 1) := by
  obtain ⟨c, e, P1, q1, q2, q3, q4, q5, q6⟩ := c_cuts_L (N := N) (t := t) hN hn n 0 N 0 0 P (by omega) (by omega) (by omega) (by omega) h (fun k hk => absurd hk (Nat.not_lt_zero _)) rfl
  rw [f_X2_cutTokens, show f_X2_cutTokens_L6 N N 0 0 0 P = _ from q1, p_bd4, p_grd _ (by omega) (by decide), p_let, p_grd _ (by omega) (by decide), p_let, p_cl (by omega), show q_up P1 2 c 0 0 0 = nI n by rw [qu_n (by decide)]; exact q3.1]
  refine ⟨c, _, rfl, q2, q5, by rw [qu_n (by decide), qu_n (by decide)]; exact q6, fun k hk => ?_⟩
  by_cases d : k = c
  · subst d
    have eT : cT t n (tS t n k) = 0 := by unfold cT; rw [if_pos q5]
    refine ⟨by rw [qu_s, pk_us, q5], by rw [qu_n (by decide), qu_s, pk_us, eT]; rfl, fun z => by omega⟩
  · have := q4 k (by omega)
    refine ⟨by rw [qu_s, pk_un d, qu_n (by decide)]; exact this.1, by rw [qu_n (by decide), qu_s, pk_un d]; exact this.2.1, fun z => ?_⟩
    rw [qu_n (by decide), qu_n (by decide)]
    exact this.2.2 z
end CT
