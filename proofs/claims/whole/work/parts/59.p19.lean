/-! ===== pure 19: an island told in a text, by both ===== -/
section PS
variable {N : Nat} {P T F : Nat → Nat → Int32} {G : Nat → Int64} {n c : Nat} {t a : Nat → Nat}
def pS (P : Nat → Nat → Int32) (t : Nat → Nat) (n c k : Nat) : Prop := P 0 1 = nI k ∧ k ≤ c ∧ tb P t n (c + 1)
def rS (F : Nat → Nat → Int32) (t : Nat → Nat) (n k : Nat) : Prop := tp F n t ∧ F 0 3 = nI (tS t n k) ∧ F 0 4 = nI (tE t n (tS t n k)) ∧ F 0 2 = nI (rT t n (tS t n k)) ∧ F 0 5 = nI (rV t n (tS t n k))
def dX (F F' : Nat → Nat → Int32) : Prop := (∀ j, j ≠ 0 → j ≠ 1 → F' j = F j) ∧ F' 0 0 = F 0 0 ∧ F' 0 1 = F 0 1
theorem dX.rf {F : Nat → Nat → Int32} : dX F F := ⟨fun _ _ _ => rfl, rfl, rfl⟩
theorem dX.tr {F F' F'' : Nat → Nat → Int32} (h : dX F F') (g : dX F' F'') : dX F F'' := ⟨fun j h0 h1 => (g.1 j h0 h1).trans (h.1 j h0 h1), g.2.1.trans h.2.1, g.2.2.trans h.2.2⟩
theorem aX.d {F F' : Nat → Nat → Int32} (h : aX F F') : dX F F' := ⟨fun j h0 _ => h.1 j h0, h.2 0 (by decide) (by decide) (by decide) (by decide), h.2 1 (by decide) (by decide) (by decide) (by decide)⟩
theorem aX.b {F F' : Nat → Nat → Int32} (h : aX F F') : F' 0 6 = F 0 6 := h.2 6 (by decide) (by decide) (by decide) (by decide)
theorem aX.m {F F' : Nat → Nat → Int32} (h : aX F F') : F' 1 = F 1 := h.1 1 (by decide)
theorem sX.d {F F' : Nat → Nat → Int32} (h : sX F F') : dX F F' := ⟨fun j _ h1 => h j h1, by rw [h 0 (by decide)], by rw [h 0 (by decide)]⟩
theorem dX.bad {F : Nat → Nat → Int32} {v : Int32} : dX F (q_up F 0 6 v) := ⟨fun j h0 _ => qu_n h0, by rw [qu_s, pk_un (by decide)], by rw [qu_s, pk_un (by decide)]⟩
theorem tb.up {k : Nat} {v : Int32} (h : tb P t n c) : tb (q_up P 0 k v) t n c := fun i hi => by
  rw [qu_n (by decide), qu_n (by decide), qu_n (by decide)]
  exact h i hi
theorem rS.s {F' : Nat → Nat → Int32} {k : Nat} (h : rS F t n k) (h0 : ∀ x, x ≠ 6 → F' 0 x = F 0 x) (h5 : F' 5 = F 5) : rS F' t n k := by
  obtain ⟨⟨h1, h2⟩, h3, h4, h6, h7⟩ := h
  exact ⟨⟨by rw [h0 1 (by decide)]; exact h1, fun i hi => by rw [h5]; exact h2 i hi⟩, by rw [h0 3 (by decide)]; exact h3, by rw [h0 4 (by decide)]; exact h4, by rw [h0 2 (by decide)]; exact h6, by rw [h0 5 (by decide)]; exact h7⟩
theorem r_next {k : Nat} (hN : 600 ≤ N) (hn : n ≤ 120) (h : rS F t n k) : ∃ F', f_X4_reads N F G = some F' ∧ aX F F' ∧ rS F' t n (k + 1) := by
  have le := tE_le (t := t) (tS_le (t := t) (n := n) k)
  obtain ⟨F', e1, e2, e3, e4, e5, e6⟩ := r_reads (N := N) (G := G) hN h.1 hn le.1 h.2.2.1
  exact ⟨F', e1, e2, h.1.x e2, e3, e4, e5, e6⟩
theorem pm_ne : ∀ w, w ≤ 12 → pm w ≠ 20 ∧ pm w ≠ 21 ∧ pm w ≠ 22 ∧ pm w < 24 := by decide +kernel
/-- the k-th token, as both have it -/
theorem tk_at {k : Nat} (h : pS P t n c k) (g : rS F t n k) (hc : tS t n c = n) : ∃ ct cv rt rv, P 2 k = nI ct ∧ F 0 2 = nI rt ∧ F 0 5 = nI rv ∧ (ct = 1 ∨ ct = 2 → P 4 k = nI cv) ∧ tkR ct cv rt rv ∧ (ct ≠ 0 → k < c) := by
  obtain ⟨h1, h2, h3⟩ := h
  obtain ⟨q1, q2, q3⟩ := h3 k (by omega)
  refine ⟨_, _, _, _, q2, g.2.2.2.1, g.2.2.2.2, q3, tk_of, fun z => ?_⟩
  rcases Nat.lt_or_ge k c with y | y
  · exact y
  · exfalso
    apply z
    unfold cT
    rw [show k = c by omega, if_pos hc]
theorem tkR_lt {ct cv rt rv : Nat} (h : tkR ct cv rt rv) : ct < 5 ∧ rt < 24 := by
  rcases h with ⟨rfl, rfl⟩ | ⟨rfl, h1, rfl⟩ | ⟨rfl, rfl, _⟩ | ⟨rfl, rfl⟩ | ⟨rfl, rfl⟩
  · omega
  · have := pm_ne _ h1; omega
  · omega
  · omega
  · omega
/-- a number behind a word -/
theorem pr_num {k lo hi : Nat} (hN : 600 ≤ N) (hn : n ≤ 120) (hc : tS t n c = n) (hcn : c ≤ n) (hh : hi ≤ 99) (hl : lo ≤ 99) (h : pS P t n c k) (hk : k < c) (g : rS F t n (k + 1)) (hb : F 0 6 = 0) :
    (∃ v P' F', lo ≤ v ∧ v ≤ hi ∧ f_X2_numberBehind N P (nI lo) (nI hi) = some (1, P') ∧ P' 0 2 = nI v ∧ pS P' t n c (k + 2) ∧ f_X4_number N F G (nI lo) (nI hi) = some (nI v, F') ∧ rS F' t n (k + 2) ∧ F' 0 6 = 0 ∧ F' 1 = F 1 ∧ dX F F') ∨
    (∃ P' x F', f_X2_numberBehind N P (nI lo) (nI hi) = some (0, P') ∧ pS P' t n c (k + 1) ∧ f_X4_number N F G (nI lo) (nI hi) = some (x, F') ∧ F' 0 6 = 1 ∧ F' 0 3 = nI (tS t n (k + 1)) ∧ dX F F') := by
  have hP1 : pS (q_up P 0 1 (nI (k + 1))) t n c (k + 1) := ⟨by rw [qu_s, pk_us], by omega, h.2.2.up⟩
  obtain ⟨ct, cv, rt, rv, q1, q2, q3, q4, q5, q6⟩ := tk_at hP1 g hc
  have lt := tkR_lt q5
  have cN : f_X2_numberBehind N P (nI lo) (nI hi) = if ct = 2 then q_bd (f_X3_within N (q_up P 0 1 (nI (k + 1)) 4 (k + 1)) (nI lo) (nI hi)) (fun r => if r = 0 then some (0, q_up P 0 1 (nI (k + 1))) else some (1, q_up (q_up (q_up P 0 1 (nI (k + 1))) 0 2 (q_up P 0 1 (nI (k + 1)) 4 (k + 1))) 0 1 (nI (k + 2)))) else some (0, q_up P 0 1 (nI (k + 1))) := by
    rw [f_X2_numberBehind, p_let, h.1, nI_1, show q_up P 0 1 (nI (k + 1)) 0 1 = nI (k + 1) by rw [qu_s, pk_us]]
    simp only [p_grd _ (show k + 1 < 121 by omega) (show 121 < 2 ^ 31 by decide), p_cl (show k + 1 < 2 ^ 31 by omega), p_let]
    rw [q1, i_e2 (by omega), show q_up (q_up P 0 1 (nI (k + 1))) 0 2 (q_up P 0 1 (nI (k + 1)) 4 (k + 1)) 0 1 + 1 = nI (k + 2) by rw [qu_s, pk_un (by decide), qu_s, pk_us, nI_1]]
  have rN : f_X4_number N F G (nI lo) (nI hi) = if rt = 20 then (q_bd (f_X4_in N (nI rv).toInt64 (nI lo) (nI hi)) fun r_8 => if r_8 = 0 then f_X4_number_B32 N F G (nI rv) else f_X4_number_B37 N F G (nI rv) 0) else f_X4_number_B32 N F G (nI rv) := by
    rw [f_X4_number, p_let, hb, if_pos rfl, q2, q3]
    exact i_eq (y := 20) (by omega) (by omega)
  rw [cN, rN]
  have badR : ∃ x F', f_X4_number_B32 N F G (nI rv) = some (x, F') ∧ F' 0 6 = 1 ∧ F' 0 3 = nI (tS t n (k + 1)) ∧ dX F F' := by
    rw [f_X4_number_B32, f_X4_number_B37, p_gb1, p_let, show q_up F 0 6 1 0 6 = 1 by rw [qu_s, pk_us], if_neg z10]
    exact ⟨_, _, rfl, by rw [qu_s, pk_us], by rw [qu_s, pk_un (by decide)]; exact g.2.1, dX.bad⟩
  by_cases c2 : ct = 2
  · subst c2
    obtain ⟨hrt, hnr⟩ : rt = 20 ∧ nR cv rv := by
      rcases q5 with ⟨z, _⟩ | ⟨z, _⟩ | ⟨_, z1, z2⟩ | ⟨z, _⟩ | ⟨z, _⟩
      · omega
      · omega
      · exact ⟨z1, z2⟩
      · omega
      · omega
    have hcv : cv ≤ 1000 ∧ rv ≤ 9999 := by rcases hnr with z | z <;> omega
    rw [if_pos rfl, if_pos hrt, q4 (Or.inr rfl), c_within, p_bd, r_in, p_bd]
    by_cases d : lo ≤ cv ∧ cv ≤ hi
    · obtain rfl : cv = rv := by rcases hnr with z | z <;> omega
      have dI : nI lo ≤ nI cv ∧ nI cv ≤ nI hi := ⟨nI_le d.1 (by omega), nI_le d.2 (by omega)⟩
      rw [bI_t dI, if_neg z10, if_neg z10, f_X4_number_B37, p_gb0, p_let, show q_up F 0 6 0 0 6 = 0 by rw [qu_s, pk_us], if_pos rfl]
      have g2 : rS (q_up F 0 6 0) t n (k + 1) := g.s (fun x hx => by rw [qu_s, pk_un hx]) (qu_n (by decide))
      obtain ⟨F2, e1, e2, e3⟩ := r_next (N := N) (G := G) hN hn g2
      rw [e1, p_bd]
      refine Or.inl ⟨cv, _, F2, d.1, d.2, rfl, ?_, ⟨?_, ?_, ?_⟩, rfl, e3, ?_, ?_, dX.bad.tr e2.d⟩
      · rw [qu_s, pk_un (by decide), qu_s, pk_us]
      · rw [qu_s, pk_us]
      · have := q6 (by decide); omega
      · exact h.2.2.up.up.up
      · rw [e2.b, qu_s, pk_us]
      · rw [e2.m, qu_n (by decide)]
    · have d2 : ¬ (lo ≤ rv ∧ rv ≤ hi) := by rcases hnr with z | z <;> omega
      have dI : ¬ (nI lo ≤ nI cv ∧ nI cv ≤ nI hi) := by rw [nI_leI (by omega) (by omega), nI_leI (by omega) (by omega)]; exact d
      have dI2 : ¬ (nI lo ≤ nI rv ∧ nI rv ≤ nI hi) := by rw [nI_leI (by omega) (by omega), nI_leI (by omega) (by omega)]; exact d2
      rw [bI_f dI, bI_f dI2, if_pos rfl, if_pos rfl]
      obtain ⟨x, F', r1, r2, r3, r4⟩ := badR
      exact Or.inr ⟨_, x, F', rfl, hP1, r1, r2, r3, r4⟩
  · have hrt : ¬ rt = 20 := by
      rcases q5 with ⟨_, z⟩ | ⟨_, z, z2⟩ | ⟨z, _⟩ | ⟨_, z⟩ | ⟨_, z⟩
      · omega
      · have := pm_ne _ z; omega
      · omega
      · omega
      · omega
    rw [if_neg c2, if_neg hrt]
    obtain ⟨x, F', r1, r2, r3, r4⟩ := badR
    exact Or.inr ⟨_, x, F', rfl, hP1, r1, r2, r3, r4⟩
/-- a word passed by, by the reference -/
theorem r_by {k w : Nat} {rt : Nat} (hN : 600 ≤ N) (hn : n ≤ 120) (g : rS F t n k) (hb : F 0 6 = 0) (hr : F 0 2 = nI rt) (h1 : rt < 1000) (h2 : w < 1000) : (rt = w → ∃ F', f_X4_passesBy N F G (nI w) = some (1, F') ∧ aX F F' ∧ rS F' t n (k + 1)) ∧ (rt ≠ w → f_X4_passesBy N F G (nI w) = some (0, F)) := by
  refine ⟨fun z => ?_, fun z => ?_⟩
  · obtain ⟨F', e1, e2, e3⟩ := r_next (N := N) (G := G) hN hn g
    rw [f_X4_passesBy, hb, if_pos rfl, hr, if_pos (by rw [z]), e1, p_bd]
    exact ⟨F', rfl, e2, e3⟩
  · rw [f_X4_passesBy, hb, if_pos rfl, hr, if_neg (fun y => z ((nI_eq (by omega) (by omega)).mp y))]
theorem r_byBad {w : Int32} (hb : F 0 6 = 1) : f_X4_passesBy N F G w = some (0, F) := by
  rw [f_X4_passesBy, hb, if_neg z10]
theorem r_perBad {w lo hi so : Int32} (hb : F 0 6 = 1) : f_X4_perhaps N F G w lo hi so = some (so, F) := by
  rw [f_X4_perhaps, r_byBad hb, p_bd2, if_pos rfl]
theorem upd_id {f : Nat → Int32} {i : Nat} {v : Int32} (h : f i = v) : upd f i v = f := by
  funext j
  by_cases e : j = i
  · subst e; rw [pk_us, h]
  · rw [pk_un e]
theorem pmj : ∀ w, w ≤ 12 → ∀ u, u < 12 → (pm w = pm u ↔ w = u) := by decide +kernel
/-- a part that may be left out -/
theorem pr_part {k w hi d i : Nat} {E : Nat → Int32} (hN : 600 ≤ N) (hn : n ≤ 120) (hc : tS t n c = n) (hcn : c ≤ n) (hh : hi ≤ 99) (hw : w < 12) (hi8 : i < 8) (hE : E i = nI d) (hd : d ≤ hi) (h : pS P t n c k) (g : rS F t n k) (hb : F 0 6 = 0) :
    (∃ v k' P' F', v ≤ hi ∧ k ≤ k' ∧ f_X2_tellPart N P E (nI w) (nI hi) (nI i) = some (1, P', upd E i (nI v)) ∧ pS P' t n c k' ∧ f_X4_perhaps N F G (nI (pm w)) 0 (nI hi) (nI d) = some (nI v, F') ∧ rS F' t n k' ∧ F' 0 6 = 0 ∧ F' 1 = F 1 ∧ dX F F') ∨
    (∃ k' P' E' x F', f_X2_tellPart N P E (nI w) (nI hi) (nI i) = some (0, P', E') ∧ pS P' t n c k' ∧ f_X4_perhaps N F G (nI (pm w)) 0 (nI hi) (nI d) = some (x, F') ∧ F' 0 6 = 1 ∧ F' 0 3 = nI (tS t n k') ∧ dX F F') := by
  obtain ⟨ct, cv, rt, rv, q1, q2, q3, q4, q5, q6⟩ := tk_at h g hc
  have lt := tkR_lt q5
  have hk := h.2.1
  obtain ⟨b1, b2⟩ := r_by (N := N) (G := G) (w := pm w) hN hn g hb q2 (by omega) (by have := pm_ne w (by omega); omega)
  rw [f_X2_tellPart, h.1]
  simp only [p_grd _ (show k < 121 by omega) (show 121 < 2 ^ 31 by decide), p_cl (show k < 2 ^ 31 by omega)]
  rw [q1, i_e1 (by omega), f_X4_perhaps]
  have skip : rt ≠ pm w → (∃ F', (q_bd2 (f_X4_passesBy N F G (nI (pm w))) fun r_1 F_2 => if r_1 = 0 then some (nI d, F_2) else q_bd2 (f_X4_number N F_2 G 0 (nI hi)) fun r_5 F_6 => some (r_5, F_6)) = some (nI d, F') ∧ F' = F) := by
    intro z
    rw [b2 z, p_bd2, if_pos rfl]
    exact ⟨F, rfl, rfl⟩
  by_cases c1 : ct = 1
  · subst c1
    obtain ⟨hcv, hrt⟩ : cv ≤ 12 ∧ rt = pm cv := by
      rcases q5 with ⟨z, _⟩ | ⟨_, z1, z2⟩ | ⟨z, _⟩ | ⟨z, _⟩ | ⟨z, _⟩
      · omega
      · exact ⟨z1, z2⟩
      · omega
      · omega
      · omega
    rw [if_pos rfl, q4 (Or.inl rfl), i_eq (by omega) (by omega)]
    by_cases c2 : cv = w
    · obtain ⟨F1, e1, e2, e3⟩ := b1 (by rw [hrt, c2])
      rw [if_pos c2, e1, p_bd2, if_neg z10]
      rcases pr_num (N := N) (G := G) (lo := 0) (hi := hi) hN hn hc hcn hh (by omega) h (q6 (by decide)) e3 (by rw [e2.b]; exact hb) with ⟨v, P', F', v1, v2, r1, r2, r3, r4, r5, r6, r7, r8⟩ | ⟨P', x, F', r1, r2, r3, r4, r5, r6⟩
      · rw [show f_X2_numberBehind N P 0 (nI hi) = _ from r1, p_bd2, if_neg z10, p_grd _ hi8 (by decide), p_let, p_cl (by omega), r2, show f_X4_number N F1 G 0 (nI hi) = _ from r4, p_bd2]
        exact Or.inl ⟨v, k + 2, P', F', v2, by omega, rfl, r3, rfl, r5, r6, r7.trans e2.m, e2.d.tr r8⟩
      · rw [show f_X2_numberBehind N P 0 (nI hi) = _ from r1, p_bd2, if_pos rfl, show f_X4_number N F1 G 0 (nI hi) = _ from r3, p_bd2]
        exact Or.inr ⟨k + 1, P', _, x, F', rfl, r2, rfl, r4, r5, e2.d.tr r6⟩
    · obtain ⟨F', s1, rfl⟩ := skip (by rw [hrt]; exact fun z => c2 ((pmj cv hcv w hw).mp z))
      rw [if_neg c2, s1]
      exact Or.inl ⟨d, k, P, F', hd, Nat.le_refl _, by rw [upd_id hE], h, rfl, g, hb, rfl, dX.rf⟩
  · have hrt : rt ≠ pm w := by
      have pw : ∀ u, u < 12 → pm u < 12 := by decide +kernel
      have := pw w hw
      rcases q5 with ⟨_, z⟩ | ⟨z, _⟩ | ⟨_, z, _⟩ | ⟨_, z⟩ | ⟨_, z⟩ <;> omega
    obtain ⟨F', s1, rfl⟩ := skip hrt
    rw [if_neg c1, s1]
    exact Or.inl ⟨d, k, P, F', hd, Nat.le_refl _, by rw [upd_id hE], h, rfl, g, hb, rfl, dX.rf⟩
theorem va_qu {R : Nat → Nat → Int32} {j i : Nat} {v : Int32} : va_up R j (upd (R j) i v) = q_up R j i v := rfl
theorem sAdd_o {k p o o' w g : Nat} : upN (sAdd a k p o w g) (7 + 8 * a 4) o' = sAdd a k p o' w g := by
  funext j
  unfold upN sAdd
  repeat' split
  all_goals omega
theorem sAdd_w {k p o w w' g : Nat} : upN (sAdd a k p o w g) (9 + 8 * a 4) w' = sAdd a k p o w' g := by
  funext j
  unfold upN sAdd
  repeat' split
  all_goals omega
theorem sAdd_g {k p o w g g' : Nat} : upN (sAdd a k p o w g) (10 + 8 * a 4) g' = sAdd a k p o w g' := by
  funext j
  unfold upN sAdd
  repeat' split
  all_goals omega
/-- an item: it comes to both, or it is bad at the same place -/
def okI (t : Nat → Nat) (n c k : Nat) (P' T' F F' : Nat → Nat → Int32) : Prop := ∃ k' a', k + 2 ≤ k' ∧ pS P' t n c k' ∧ rS F' t n k' ∧ F' 0 6 = 0 ∧ wf a' ∧ cRel T' a' ∧ mRel (F' 1) a' ∧ dX F F'
def noI (t : Nat → Nat) (n c : Nat) (P' F F' : Nat → Nat → Int32) : Prop := ∃ k', pS P' t n c k' ∧ F' 0 6 = 1 ∧ F' 0 3 = nI (tS t n k') ∧ dX F F'
theorem pr_tellThing {k w : Nat} (hN : 600 ≤ N) (hn : n ≤ 120) (hc : tS t n c = n) (hcn : c ≤ n) (hw6 : w < 6) (hw : wf a) (hT : cRel T a) (hM : mRel (F 1) a) (h : pS P t n c k) (hk : k < c) (g : rS F t n k) (hr : F 0 2 = nI w) (hb : F 0 6 = 0) :
    ∃ r P' T' F', f_X2_tellThing N P T (nI w) = some (r, P', T') ∧ f_X4_thingItem N F G = some F' ∧ ((r = 1 ∧ okI t n c k P' T' F F') ∨ (r = 0 ∧ noI t n c P' F F')) := by
  have h4 := hw.2.2.2.1
  rw [f_X2_tellThing, f_X4_thingItem, p_let, p_gM4, p_c4, hT.2.2.2.2.1, hM 4 (by omega), hr]
  by_cases c8 : a 4 = 8
  · rw [if_pos (show (8 : Int32) ≤ nI (a 4) from nI_le (a := 8) (by omega) (by omega)), if_pos (show nI (a 4) = 8 by rw [c8]; rfl), f_X4_thingItem_B22, p_gb1, p_let, show q_up F 0 6 1 0 6 = 1 by rw [qu_s, pk_us], if_neg z10]
    exact ⟨_, _, _, _, rfl, rfl, Or.inr ⟨rfl, k, h, by rw [qu_s, pk_us], by rw [qu_s, pk_un (by decide)]; exact g.2.1, dX.bad⟩⟩
  · have h8 : a 4 < 8 := by omega
    have g2 : rS (q_up F 0 6 0) t n k := g.s (fun x hx => by rw [qu_s, pk_un hx]) (qu_n (by decide))
    obtain ⟨F1, e1, e2, e3⟩ := r_next (N := N) (G := G) hN hn g2
    have b1 : F1 0 6 = 0 := by rw [e2.b, qu_s, pk_us]
    have m1 : F1 1 = F 1 := by rw [e2.m, qu_n (by decide)]
    have d1 : dX F F1 := dX.bad.tr e2.d
    rw [if_neg (show ¬ (8 : Int32) ≤ nI (a 4) from nI_ge (b := 8) h8 (by decide)), if_neg (show ¬ nI (a 4) = 8 from fun z => c8 ((nI_eq (b := 8) (by omega) (by decide)).mp z)), f_X4_thingItem_B22, p_gb0, p_let, show q_up F 0 6 0 0 6 = 0 by rw [qu_s, pk_us], if_pos rfl, e1, p_bd]
    rcases pr_num (N := N) (G := G) (lo := 0) (hi := 59) hN hn hc hcn (by decide) (by decide) h hk e3 b1 with ⟨v, P2, F2, v1, v2, r1, r2, r3, r4, r5, r6, r7, r8⟩ | ⟨P2, x, F2, r1, r2, r3, r4, r5, r6⟩
    · obtain ⟨T2, t1, t2⟩ := c_add (N := N) (k := w) (p := v) hT h8
      have wa : wf (sAdd a w v 3 50 30) := wf_add hw h8 hw6 (by omega) (by decide) (by decide) (by decide)
      have hi4 : a 4 < (sAdd a w v 3 50 30) 4 := by rw [sAdd_n]; omega
      have rows := t2.2.2.2.2.2.2.2 (a 4) hi4
      rw [show f_X2_numberBehind N P 0 59 = _ from r1, p_bd2, if_neg z10, r2, t1, p_bd2, show f_X4_number N F1 G 0 59 = _ from r4, p_bd2]
      have hE1 : T2 3 (a 4) = nI 3 := by rw [rows.2.2.1, sAdd7]
      have hE2 : T2 4 (a 4) = nI 50 := by rw [rows.2.2.2.1, sAdd9]
      have hE3 : T2 5 (a 4) = nI 30 := by rw [rows.2.2.2.2.1, sAdd10]
      rcases pr_part (N := N) (G := G) (w := 9) (hi := 9) (d := 3) hN hn hc hcn (by decide) (by decide) h8 hE1 (by decide) r3 r5 r6 with ⟨o, k3, P3, F3, o1, o2, s1, s2, s3, s4, s5, s6, s7⟩ | ⟨k3, P3, E3, x, F3, s1, s2, s3, s4, s5, s6⟩
      · rw [show f_X2_tellPart N P2 (T2 3) 9 9 (nI (a 4)) = _ from s1, p_bd3, p_let, if_neg z10, va_qu, show f_X4_perhaps N F2 G 6 0 9 3 = _ from s3, p_bd2]
        rcases pr_part (N := N) (G := G) (w := 10) (hi := 99) (d := 50) (E := q_up T2 3 (a 4) (nI o) 4) hN hn hc hcn (by decide) (by decide) h8 (by rw [qu_n (by decide)]; exact hE2) (by decide) s2 s4 s5 with ⟨wv, k4, P4, F4, u1, u2, y1, y2, y3, y4, y5, y6, y7⟩ | ⟨k4, P4, E4, x, F4, y1, y2, y3, y4, y5, y6⟩
        · rw [show f_X2_tellPart N P3 (q_up T2 3 (a 4) (nI o) 4) 10 99 (nI (a 4)) = _ from y1, p_bd3, p_let, if_neg z10, va_qu, show f_X4_perhaps N F3 G 7 0 99 50 = _ from y3, p_bd2]
          rcases pr_part (N := N) (G := G) (w := 11) (hi := 59) (d := 30) (E := q_up (q_up T2 3 (a 4) (nI o)) 4 (a 4) (nI wv) 5) hN hn hc hcn (by decide) (by decide) h8 (by rw [qu_n (by decide), qu_n (by decide)]; exact hE3) (by decide) y2 y4 y5 with ⟨gv, k5, P5, F5, i1, i2, z1, z2, z3, z4, z5, z6, z7⟩ | ⟨k5, P5, E5, x, F5, z1, z2, z3, z4, z5, z6⟩
          · rw [show f_X2_tellPart N P4 (q_up (q_up T2 3 (a 4) (nI o)) 4 (a 4) (nI wv) 5) 11 59 (nI (a 4)) = _ from z1, p_bd3, p_let, if_neg z10, va_qu, show f_X4_perhaps N F4 G 8 0 59 30 = _ from z3, p_bd2, z5, if_pos rfl]
            have mm : mRel (F5 1) a := by rw [z6, y6, s6, r7, m1]; exact hM
            obtain ⟨F6, f1, f2, f3⟩ := r_add (N := N) (G := G) (k := w) (p := v) (o := o) (w := wv) (g := gv) mm h8
            have R1 := cR_out (v := o) t2 hi4
            rw [sAdd_o] at R1
            have R2 := cR_wet (v := wv) R1 (show a 4 < (sAdd a w v o 50 30) 4 by rw [sAdd_n]; omega)
            rw [sAdd_w] at R2
            have R3 := cR_goal (v := gv) R2 (show a 4 < (sAdd a w v o wv 30) 4 by rw [sAdd_n]; omega)
            rw [sAdd_g] at R3
            rw [f1, p_bd2]
            refine ⟨_, _, _, _, rfl, rfl, Or.inl ⟨rfl, k5, _, by omega, z2, z4.s (fun x hx => by rw [f3 0 (by decide)]) (f3 5 (by decide)), by rw [f3 0 (by decide)]; exact z5, wf_add hw h8 hw6 (by omega) (by omega) (by omega) (by omega), R3, f2, ?_⟩⟩
            exact ((((d1.tr r8).tr s7).tr y7).tr z7).tr f3.d
          · rw [show f_X2_tellPart N P4 (q_up (q_up T2 3 (a 4) (nI o)) 4 (a 4) (nI wv) 5) 11 59 (nI (a 4)) = _ from z1, p_bd3, p_let, if_pos rfl, show f_X4_perhaps N F4 G 8 0 59 30 = _ from z3, p_bd2, z4, if_neg z10]
            exact ⟨_, _, _, _, rfl, rfl, Or.inr ⟨rfl, k5, z2, z4, z5, (((d1.tr r8).tr s7).tr y7).tr z6⟩⟩
        · rw [show f_X2_tellPart N P3 (q_up T2 3 (a 4) (nI o) 4) 10 99 (nI (a 4)) = _ from y1, p_bd3, p_let, if_pos rfl, show f_X4_perhaps N F3 G 7 0 99 50 = _ from y3, p_bd2, r_perBad y4, p_bd2, y4, if_neg z10]
          exact ⟨_, _, _, _, rfl, rfl, Or.inr ⟨rfl, k4, y2, y4, y5, ((d1.tr r8).tr s7).tr y6⟩⟩
      · rw [show f_X2_tellPart N P2 (T2 3) 9 9 (nI (a 4)) = _ from s1, p_bd3, p_let, if_pos rfl, show f_X4_perhaps N F2 G 6 0 9 3 = _ from s3, p_bd2, r_perBad s4, p_bd2, r_perBad s4, p_bd2, s4, if_neg z10]
        exact ⟨_, _, _, _, rfl, rfl, Or.inr ⟨rfl, k3, s2, s4, s5, (d1.tr r8).tr s6⟩⟩
    · rw [show f_X2_numberBehind N P 0 59 = _ from r1, p_bd2, if_pos rfl, show f_X4_number N F1 G 0 59 = _ from r3, p_bd2, r_perBad r4, p_bd2, r_perBad r4, p_bd2, r_perBad r4, p_bd2, r4, if_neg z10]
      exact ⟨_, _, _, _, rfl, rfl, Or.inr ⟨rfl, k + 1, r2, r4, r5, d1.tr r6⟩⟩
end PS
