/-! ===== pure 17: the tape's tokens, by both ===== -/
def nzL : List (List Nat) := [[116, 104, 105, 110, 103], [119, 97, 115, 104], [114, 105, 100, 101, 114], [103, 117, 101, 115, 116], [115, 104, 101, 101, 116], [116, 104, 105, 101, 102], [98, 101, 97, 109], [115, 112, 101, 101, 100], [116, 104, 105, 99, 107], [111, 117, 116], [119, 101, 116], [103, 111, 97, 108]]
def nz (w k : Nat) : Nat := (nzL.getD w []).getD k 0
def ln (w : Nat) : Nat := [5, 4, 5, 5, 5, 5, 4, 5, 5, 3, 3, 4].getD w 0
def pm (w : Nat) : Nat := [0, 1, 2, 3, 4, 5, 9, 10, 11, 6, 7, 8].getD w 23
theorem t_len {N : Nat} : ∀ w, w < 12 → f_J0_length_8abf5 N w = some (nI (ln w)) := by
  show ∀ w, w < 12 → f_J0_length_8abf5 0 w = some (nI (ln w))
  decide +kernel
theorem t_chr {N : Nat} : ∀ w, w < 12 → ∀ k, k < ln w → f_J0_charAt_5068e N w (nI k) = some (nI (nz w k)) := by
  show ∀ w, w < 12 → ∀ k, k < ln w → f_J0_charAt_5068e 0 w (nI k) = some (nI (nz w k))
  decide +kernel
theorem t_nms : ∀ w, w < 12 → ∀ k, k < 7 → nms (7 * pm w + k) = nI (nz w k) := by decide +kernel
theorem t_wo {N : Nat} : ∀ w, w < 12 → f_X2_wordOf N (nI w) = some w := by
  show ∀ w, w < 12 → f_X2_wordOf 0 (nI w) = some w
  decide +kernel
theorem t_ln : ∀ w, w < 12 → 3 ≤ ln w ∧ ln w ≤ 5 := by decide +kernel
theorem t_nz : ∀ w, w < 12 → ∀ k, k < ln w → 97 ≤ nz w k ∧ nz w k ≤ 122 := by decide +kernel
theorem t_nz0 : ∀ w, w < 12 → ∀ k, k < 7 → ln w ≤ k → nz w k = 0 := by decide +kernel
theorem t_inj : ∀ u, u < 12 → ∀ w, w < 12 → ln u = ln w → (∀ k, k < ln u → nz u k = nz w k) → u = w := by decide +kernel
theorem t_pm : ∀ w, w < 12 → pm w < 12 ∧ pm (pm w) = w := by decide +kernel
/-! bytes -/
def sg (v : Nat) : Int32 := (nI v).toInt8.toInt32
abbrev bL (v : Nat) : Prop := 97 ≤ v ∧ v ≤ 122
abbrev bD (v : Nat) : Prop := 48 ≤ v ∧ v ≤ 57
theorem sg_L {N : Nat} : ∀ v, v < 256 → f_X2_isLetter N (sg v) = some (bI (bL v)) := by
  show ∀ v, v < 256 → f_X2_isLetter 0 (sg v) = some (bI (bL v))
  decide +kernel
theorem sg_D {N : Nat} : ∀ v, v < 256 → f_X2_isDigit N (sg v) = some (bI (bD v)) := by
  show ∀ v, v < 256 → f_X2_isDigit 0 (sg v) = some (bI (bD v))
  decide +kernel
theorem sg_32 : ∀ v, v < 256 → (sg v = 32 ↔ v = 32) := by decide +kernel
theorem sg_59 : ∀ v, v < 256 → (sg v = 59 ↔ v = 59) := by decide +kernel
theorem sg_c : ∀ c, c < 123 → ∀ v, v < 256 → (sg v = nI c ↔ v = c) := by decide +kernel
theorem sg_d : ∀ v, v < 58 → 48 ≤ v → sg v - 48 = nI (v - 48) := by decide +kernel
/-! runs -/
def rn (q : Nat → Bool) (t : Nat → Nat) : Nat → Nat → Nat
  | 0, p => p
  | m + 1, p => if q (t p) = true then rn q t m (p + 1) else p
theorem rn_le {q : Nat → Bool} {t : Nat → Nat} : ∀ m p, p ≤ rn q t m p ∧ rn q t m p ≤ p + m := by
  intro m
  induction m with
  | zero => intro p; exact ⟨Nat.le_refl _, Nat.le_refl _⟩
  | succ m ih =>
    intro p
    rw [rn]
    split
    · have := ih (p + 1); omega
    · omega
theorem rn_all {q : Nat → Bool} {t : Nat → Nat} : ∀ m p i, p ≤ i → i < rn q t m p → q (t i) = true := by
  intro m
  induction m with
  | zero => intro p i h1 h2; rw [rn] at h2; omega
  | succ m ih =>
    intro p i h1 h2
    rw [rn] at h2
    by_cases c : q (t p) = true
    · rw [if_pos c] at h2
      by_cases e : i = p
      · subst e; exact c
      · exact ih (p + 1) i (by omega) h2
    · rw [if_neg c] at h2; omega
def qS (v : Nat) : Bool := decide (v = 32)
def qL (v : Nat) : Bool := decide (bL v)
def qD (v : Nat) : Bool := decide (bD v)
theorem qS_i {v : Nat} : qS v = true ↔ v = 32 := decide_eq_true_iff
theorem qL_i {v : Nat} : qL v = true ↔ bL v := decide_eq_true_iff
theorem qD_i {v : Nat} : qD v = true ↔ bD v := decide_eq_true_iff
/-! words -/
def ez (t : Nat → Nat) (p w : Nat) : Nat → Nat → Bool
  | 0, _ => true
  | m + 1, j => if t (p + j) = nz w j then ez t p w m (j + 1) else false
theorem ez_all {t : Nat → Nat} {p w : Nat} : ∀ m j, ez t p w m j = true ↔ ∀ k, j ≤ k → k < j + m → t (p + k) = nz w k := by
  intro m
  induction m with
  | zero => intro j; exact ⟨fun _ k h1 h2 => absurd h2 (by omega), fun _ => rfl⟩
  | succ m ih =>
    intro j
    rw [ez]
    by_cases c : t (p + j) = nz w j
    · rw [if_pos c, ih (j + 1)]
      refine ⟨fun h k h1 h2 => ?_, fun h k h1 h2 => h k (by omega) (by omega)⟩
      by_cases e : k = j
      · subst e; exact c
      · exact h k (by omega) (by omega)
    · rw [if_neg c]
      exact ⟨fun h => (Bool.false_ne_true h).elim, fun h => absurd (h j (Nat.le_refl _) (by omega)) c⟩
abbrev wX (t : Nat → Nat) (p e w : Nat) : Prop := e = p + ln w ∧ ez t p w (ln w) 0 = true
theorem wX_uni {t : Nat → Nat} {p e u w : Nat} (hu : u < 12) (hw : w < 12) (h1 : wX t p e u) (h2 : wX t p e w) : u = w := by
  have e : ln u = ln w := by have := h1.1; have := h2.1; omega
  refine t_inj u hu w hw e (fun k hk => ?_)
  rw [← (ez_all _ _).mp h1.2 k (Nat.zero_le _) (by omega), ← (ez_all _ _).mp h2.2 k (Nat.zero_le _) (by omega)]
def fw (t : Nat → Nat) (p e : Nat) : Nat → Nat → Nat
  | 0, w => w
  | m + 1, w => if wX t p e w then w else fw t p e m (w + 1)
def fr (t : Nat → Nat) (p e : Nat) : Nat → Nat → Nat
  | 0, w => w
  | m + 1, w => if wX t p e (pm w) then w else fr t p e m (w + 1)
theorem fw_s {t : Nat → Nat} {p e : Nat} : ∀ m w, w + m = 12 → (fw t p e m w = 12 ∧ ∀ u, w ≤ u → u < 12 → ¬ wX t p e u) ∨ (fw t p e m w < 12 ∧ wX t p e (fw t p e m w)) := by
  intro m
  induction m with
  | zero => intro w h; exact Or.inl ⟨by rw [fw]; omega, fun u h1 h2 => absurd h1 (by omega)⟩
  | succ m ih =>
    intro w h
    rw [fw]
    by_cases c : wX t p e w
    · rw [if_pos c]; exact Or.inr ⟨by omega, c⟩
    · rw [if_neg c]
      rcases ih (w + 1) (by omega) with ⟨h1, h2⟩ | h1
      · refine Or.inl ⟨h1, fun u h3 h4 => ?_⟩
        by_cases d : u = w
        · subst d; exact c
        · exact h2 u (by omega) h4
      · exact Or.inr h1
theorem fr_s {t : Nat → Nat} {p e : Nat} : ∀ m w, w + m = 12 → (fr t p e m w = 12 ∧ ∀ u, w ≤ u → u < 12 → ¬ wX t p e (pm u)) ∨ (fr t p e m w < 12 ∧ wX t p e (pm (fr t p e m w))) := by
  intro m
  induction m with
  | zero => intro w h; exact Or.inl ⟨by rw [fr]; omega, fun u h1 h2 => absurd h1 (by omega)⟩
  | succ m ih =>
    intro w h
    rw [fr]
    by_cases c : wX t p e (pm w)
    · rw [if_pos c]; exact Or.inr ⟨by omega, c⟩
    · rw [if_neg c]
      rcases ih (w + 1) (by omega) with ⟨h1, h2⟩ | h1
      · refine Or.inl ⟨h1, fun u h3 h4 => ?_⟩
        by_cases d : u = w
        · subst d; exact c
        · exact h2 u (by omega) h4
      · exact Or.inr h1
def wd (t : Nat → Nat) (p e : Nat) : Nat := fw t p e 12 0
theorem wd_le {t : Nat → Nat} {p e : Nat} : wd t p e ≤ 12 := by
  rcases fw_s (t := t) (p := p) (e := e) 12 0 (by omega) with h | h
  · exact Nat.le_of_eq h.1
  · exact Nat.le_of_lt h.1
theorem wd_fr {t : Nat → Nat} {p e : Nat} : (wd t p e = 12 ∧ fr t p e 12 0 = 12) ∨ (wd t p e < 12 ∧ fr t p e 12 0 = pm (wd t p e)) := by
  unfold wd
  rcases fw_s (t := t) (p := p) (e := e) 12 0 (by omega) with ⟨h1, h2⟩ | ⟨h1, h2⟩
  · rcases fr_s (t := t) (p := p) (e := e) 12 0 (by omega) with ⟨g1, g2⟩ | ⟨g1, g2⟩
    · exact Or.inl ⟨h1, g1⟩
    · exact absurd g2 (h2 _ (Nat.zero_le _) (t_pm _ g1).1)
  · rcases fr_s (t := t) (p := p) (e := e) 12 0 (by omega) with ⟨g1, g2⟩ | ⟨g1, g2⟩
    · exfalso
      refine g2 (pm (fw t p e 12 0)) (Nat.zero_le _) (t_pm _ h1).1 ?_
      rw [(t_pm _ h1).2]; exact h2
    · refine Or.inr ⟨h1, ?_⟩
      rw [wX_uni h1 (t_pm _ g1).1 h2 g2, (t_pm _ g1).2]
/-! numbers -/
def nC (t : Nat → Nat) : Nat → Nat → Nat → Nat
  | 0, _, x => x
  | m + 1, p, x => nC t m (p + 1) (if 1000 < 10 * x + (t p - 48) then 1000 else 10 * x + (t p - 48))
def nV (t : Nat → Nat) : Nat → Nat → Nat → Nat
  | 0, _, y => y
  | m + 1, p, y => nV t m (p + 1) (if y ≤ 999 then 10 * y + (t p - 48) else y)
def nR (x y : Nat) : Prop := (x = y ∧ x < 1000) ∨ (x = 1000 ∧ 1000 ≤ y ∧ y ≤ 9999)
theorem nR_all {t : Nat → Nat} : ∀ m p x y, nR x y → (∀ i, p ≤ i → i < p + m → bD (t i)) → nR (nC t m p x) (nV t m p y) := by
  intro m
  induction m with
  | zero => intro p x y h _; exact h
  | succ m ih =>
    intro p x y h hd
    rw [nC, nV]
    have d := hd p (Nat.le_refl _) (by omega)
    refine ih (p + 1) _ _ ?_ (fun i h1 h2 => hd i (by omega) (by omega))
    obtain ⟨d1, d2⟩ := d
    rcases h with ⟨rfl, h2⟩ | ⟨rfl, h2, h3⟩
    · rw [if_pos (show x ≤ 999 by omega)]
      by_cases c : 1000 < 10 * x + (t p - 48)
      · rw [if_pos c]; exact Or.inr ⟨rfl, by omega, by omega⟩
      · rw [if_neg c]
        by_cases c2 : 10 * x + (t p - 48) = 1000
        · exact Or.inr ⟨c2, by omega, by omega⟩
        · exact Or.inl ⟨rfl, by omega⟩
    · rw [if_pos (show 1000 < 10 * 1000 + (t p - 48) by omega), if_neg (show ¬ y ≤ 999 by omega)]
      exact Or.inr ⟨rfl, h2, h3⟩
/-! a token from its start -/
def tE (t : Nat → Nat) (n s : Nat) : Nat := if s = n then n else if qL (t s) = true then rn qL t (n - s) s else if qD (t s) = true then rn qD t (n - s) s else s + 1
def rT (t : Nat → Nat) (n s : Nat) : Nat := if s = n then 22 else if qL (t s) = true then pm (wd t s (tE t n s)) else if qD (t s) = true then 20 else if t s = 59 then 21 else 23
def rV (t : Nat → Nat) (n s : Nat) : Nat := if s = n then 0 else if qL (t s) = true then 0 else if qD (t s) = true then nV t (tE t n s - s) s 0 else 0
def cT (t : Nat → Nat) (n s : Nat) : Nat := if s = n then 0 else if qL (t s) = true then 1 else if qD (t s) = true then 2 else if t s = 59 then 3 else 4
def cV (t : Nat → Nat) (n s : Nat) : Nat := if qL (t s) = true then wd t s (tE t n s) else nC t (tE t n s - s) s 0
def tkR (ct cv rt rv : Nat) : Prop := (ct = 0 ∧ rt = 22) ∨ (ct = 1 ∧ cv ≤ 12 ∧ rt = pm cv) ∨ (ct = 2 ∧ rt = 20 ∧ nR cv rv) ∨ (ct = 3 ∧ rt = 21) ∨ (ct = 4 ∧ rt = 23)
theorem tE_le {t : Nat → Nat} {n s : Nat} (h : s ≤ n) : tE t n s ≤ n ∧ s ≤ tE t n s := by
  unfold tE
  by_cases c : s = n
  · rw [if_pos c]; omega
  · rw [if_neg c]
    by_cases d : qL (t s) = true
    · rw [if_pos d]; have := rn_le (q := qL) (t := t) (n - s) s; omega
    · rw [if_neg d]
      by_cases d2 : qD (t s) = true
      · rw [if_pos d2]; have := rn_le (q := qD) (t := t) (n - s) s; omega
      · rw [if_neg d2]; omega
theorem tE_lt {t : Nat → Nat} {n s : Nat} (h : s < n) : s < tE t n s := by
  unfold tE
  rw [if_neg (by omega)]
  obtain ⟨m, hm⟩ : ∃ m, n - s = m + 1 := ⟨n - s - 1, by omega⟩
  rw [hm]
  by_cases d : qL (t s) = true
  · rw [if_pos d, rn, if_pos d]; have := rn_le (q := qL) (t := t) m (s + 1); omega
  · rw [if_neg d]
    by_cases d2 : qD (t s) = true
    · rw [if_pos d2, rn, if_pos d2]; have := rn_le (q := qD) (t := t) m (s + 1); omega
    · rw [if_neg d2]; omega
theorem tk_of {t : Nat → Nat} {n s : Nat} : tkR (cT t n s) (cV t n s) (rT t n s) (rV t n s) := by
  unfold tkR cT cV rT rV
  by_cases c : s = n
  · rw [if_pos c, if_pos c]; exact Or.inl ⟨rfl, rfl⟩
  · rw [if_neg c, if_neg c, if_neg c]
    by_cases d : qL (t s) = true
    · rw [if_pos d, if_pos d, if_pos d]
      exact Or.inr (Or.inl ⟨rfl, wd_le, rfl⟩)
    · rw [if_neg d, if_neg d, if_neg d, if_neg d]
      by_cases d2 : qD (t s) = true
      · rw [if_pos d2, if_pos d2, if_pos d2]
        have e : tE t n s = rn qD t (n - s) s := by unfold tE; rw [if_neg c, if_neg d, if_pos d2]
        refine Or.inr (Or.inr (Or.inl ⟨rfl, rfl, nR_all _ _ _ _ (Or.inl ⟨rfl, by decide⟩) (fun i h1 h2 => ?_)⟩))
        rw [e] at h2
        have := rn_le (q := qD) (t := t) (n - s) s
        exact qD_i.mp (rn_all (n - s) s i h1 (by omega))
      · rw [if_neg d2, if_neg d2, if_neg d2]
        by_cases d3 : t s = 59
        · rw [if_pos d3, if_pos d3]; exact Or.inr (Or.inr (Or.inr (Or.inl ⟨rfl, rfl⟩)))
        · rw [if_neg d3, if_neg d3]; exact Or.inr (Or.inr (Or.inr (Or.inr ⟨rfl, rfl⟩)))
def tS (t : Nat → Nat) (n : Nat) : Nat → Nat
  | 0 => rn qS t n 0
  | k + 1 => rn qS t (n - tE t n (tS t n k)) (tE t n (tS t n k))
theorem tS_le {t : Nat → Nat} {n : Nat} : ∀ k, tS t n k ≤ n := by
  intro k
  induction k with
  | zero => have := rn_le (q := qS) (t := t) n 0; rw [tS]; omega
  | succ k ih =>
    have h1 := tE_le (t := t) ih
    have := rn_le (q := qS) (t := t) (n - tE t n (tS t n k)) (tE t n (tS t n k))
    rw [tS]; omega
/-! the reference reads -/
section RD
variable {N : Nat} {F : Nat → Nat → Int32} {G : Nat → Int64} {n : Nat} {t : Nat → Nat}
def tp (F : Nat → Nat → Int32) (n : Nat) (t : Nat → Nat) : Prop := F 0 1 = nI n ∧ ∀ i, i < n → t i < 256 ∧ F 5 i = nI (t i)
def aX (F F' : Nat → Nat → Int32) : Prop := (∀ j, j ≠ 0 → F' j = F j) ∧ ∀ k, k ≠ 2 → k ≠ 3 → k ≠ 4 → k ≠ 5 → F' 0 k = F 0 k
theorem aX.rf {F : Nat → Nat → Int32} : aX F F := ⟨fun _ _ => rfl, fun _ _ _ _ _ => rfl⟩
theorem aX.tr {F F' F'' : Nat → Nat → Int32} (h : aX F F') (g : aX F' F'') : aX F F'' := ⟨fun j hj => (g.1 j hj).trans (h.1 j hj), fun k a b c d => (g.2 k a b c d).trans (h.2 k a b c d)⟩
theorem aX.up {F : Nat → Nat → Int32} {k : Nat} {v : Int32} (hk : k = 2 ∨ k = 3 ∨ k = 4 ∨ k = 5) : aX F (q_up F 0 k v) := ⟨fun _ hj => qu_n hj, fun j a b c d => by rw [qu_s, pk_un (by omega)]⟩
theorem tp.x {F F' : Nat → Nat → Int32} (h : tp F n t) (x : aX F F') : tp F' n t := ⟨by rw [x.2 1 (by decide) (by decide) (by decide) (by decide)]; exact h.1, fun i hi => by rw [x.1 5 (by decide)]; exact h.2 i hi⟩
theorem r_isByte {p lo hi : Nat} (h : tp F n t) (hn : n ≤ 120) (hp : p ≤ n) (h1 : lo < 1000) (h2 : hi < 1000) : f_X4_isByte N F G (nI p) (nI lo) (nI hi) = some (bI (p < n ∧ lo ≤ t p ∧ t p ≤ hi)) := by
  rw [f_X4_isByte, h.1]
  by_cases c : p < n
  · obtain ⟨g1, g2⟩ := h.2 p c
    rw [if_neg (nI_ge c (by omega)), p_grd _ (by omega) (by decide), p_cl (by omega), g2, r_in, p_bd]
    have e : (nI lo ≤ nI (t p) ∧ nI (t p) ≤ nI hi) ↔ (p < n ∧ lo ≤ t p ∧ t p ≤ hi) := by
      rw [nI_leI (by omega) (by omega), nI_leI (by omega) (by omega)]
      exact ⟨fun x => ⟨c, x⟩, fun x => x.2⟩
    rw [bI_dec e]
    by_cases d : p < n ∧ lo ≤ t p ∧ t p ≤ hi
    · rw [bI_t d, if_neg z10]
    · rw [bI_f d, if_pos rfl]
  · rw [if_pos (nI_le (by omega) (by omega)), bI_f (fun x => c x.1)]
theorem r_sk (hn : n ≤ 120) : ∀ m p f F, p + m = n → m < f → tp F n t → F 0 4 = nI p → ∃ F', f_X4_reads_L0 N G f F = some F' ∧ aX F F' ∧ F' 0 4 = nI (rn qS t m p) := by
  intro m
  induction m with
  | zero =>
    intro p f F hp hf h h4
    obtain ⟨f, rfl⟩ : ∃ g, f = g + 1 := ⟨f - 1, by omega⟩
    rw [f_X4_reads_L0, h4, show f_X4_isByte N F G (nI p) 32 32 = _ from r_isByte (lo := 32) (hi := 32) h hn (by omega) (by decide) (by decide), p_bd, bI_f (by omega), if_pos rfl]
    exact ⟨F, rfl, aX.rf, by rw [h4, rn]⟩
  | succ m ih =>
    intro p f F hp hf h h4
    obtain ⟨f, rfl⟩ : ∃ g, f = g + 1 := ⟨f - 1, by omega⟩
    rw [f_X4_reads_L0, h4, show f_X4_isByte N F G (nI p) 32 32 = _ from r_isByte (lo := 32) (hi := 32) h hn (by omega) (by decide) (by decide), p_bd, rn]
    by_cases c : qS (t p) = true
    · have d := qS_i.mp c
      rw [bI_t (by omega), if_neg z10, if_pos c, p_let, nI_1]
      obtain ⟨F', e1, e2, e3⟩ := ih (p + 1) f (q_up F 0 4 (nI (p + 1))) (by omega) (by omega) (h.x (aX.up (by omega))) (by rw [qu_s, pk_us])
      exact ⟨F', e1, (aX.up (by omega)).tr e2, e3⟩
    · have d : ¬ t p = 32 := fun z => c (qS_i.mpr z)
      rw [bI_f (by omega), if_pos rfl, if_neg c]
      exact ⟨F, rfl, aX.rf, h4⟩
theorem r_let (hn : n ≤ 120) : ∀ m p f F, p + m = n → m < f → tp F n t → F 0 4 = nI p → ∃ F', f_X4_reads_L76 N G f F = some F' ∧ aX F F' ∧ F' 0 4 = nI (rn qL t m p) ∧ F' 0 3 = F 0 3 ∧ F' 0 5 = F 0 5 := by
  intro m
  induction m with
  | zero =>
    intro p f F hp hf h h4
    obtain ⟨f, rfl⟩ : ∃ g, f = g + 1 := ⟨f - 1, by omega⟩
    rw [f_X4_reads_L76, h4, show f_X4_isByte N F G (nI p) 97 122 = _ from r_isByte (lo := 97) (hi := 122) h hn (by omega) (by decide) (by decide), p_bd, bI_f (by omega), if_pos rfl]
    exact ⟨F, rfl, aX.rf, by rw [h4, rn], rfl, rfl⟩
  | succ m ih =>
    intro p f F hp hf h h4
    obtain ⟨f, rfl⟩ : ∃ g, f = g + 1 := ⟨f - 1, by omega⟩
    rw [f_X4_reads_L76, h4, show f_X4_isByte N F G (nI p) 97 122 = _ from r_isByte (lo := 97) (hi := 122) h hn (by omega) (by decide) (by decide), p_bd, rn]
    by_cases c : qL (t p) = true
    · have d := qL_i.mp c
      rw [bI_t ⟨by omega, d⟩, if_neg z10, if_pos c, p_let, nI_1]
      obtain ⟨F', e1, e2, e3, e4, e5⟩ := ih (p + 1) f (q_up F 0 4 (nI (p + 1))) (by omega) (by omega) (h.x (aX.up (by omega))) (by rw [qu_s, pk_us])
      exact ⟨F', e1, (aX.up (by omega)).tr e2, e3, by rw [e4, qu_s, pk_un (by decide)], by rw [e5, qu_s, pk_un (by decide)]⟩
    · have d : ¬ bL (t p) := fun z => c (qL_i.mpr z)
      rw [bI_f (fun z => d z.2), if_pos rfl, if_neg c]
      exact ⟨F, rfl, aX.rf, h4, rfl, rfl⟩
theorem r_dig (hn : n ≤ 120) : ∀ m p f F y, p + m = n → m < f → tp F n t → F 0 4 = nI p → F 0 5 = nI y → y ≤ 9999 → ∃ F', f_X4_reads_L130 N G f F = some F' ∧ aX F F' ∧ F' 0 4 = nI (rn qD t m p) ∧ F' 0 3 = F 0 3 ∧ F' 0 5 = nI (nV t (rn qD t m p - p) p y) := by
  intro m
  induction m with
  | zero =>
    intro p f F y hp hf h h4 h5 hy
    obtain ⟨f, rfl⟩ : ∃ g, f = g + 1 := ⟨f - 1, by omega⟩
    rw [f_X4_reads_L130, h4, show f_X4_isByte N F G (nI p) 48 57 = _ from r_isByte (lo := 48) (hi := 57) h hn (by omega) (by decide) (by decide), p_bd, bI_f (by omega), if_pos rfl, rn, Nat.sub_self]
    exact ⟨F, rfl, aX.rf, h4, rfl, h5⟩
  | succ m ih =>
    intro p f F y hp hf h h4 h5 hy
    obtain ⟨f, rfl⟩ : ∃ g, f = g + 1 := ⟨f - 1, by omega⟩
    rw [f_X4_reads_L130, h4, show f_X4_isByte N F G (nI p) 48 57 = _ from r_isByte (lo := 48) (hi := 57) h hn (by omega) (by decide) (by decide), p_bd, rn]
    by_cases c : qD (t p) = true
    · have d := qD_i.mp c
      have r := rn_le (q := qD) (t := t) m (p + 1)
      have hp5 := (h.2 p (by omega)).2
      rw [bI_t ⟨by omega, d⟩, if_neg z10, if_pos c, h5, show rn qD t m (p + 1) - p = (rn qD t m (p + 1) - (p + 1)) + 1 by omega, nV]
      by_cases c9 : y ≤ 999
      · rw [if_pos (show nI y ≤ 999 from nI_le (b := 999) c9 (by decide)), if_pos c9, p_grd _ (by omega) (by decide), p_let, p_let, p_cl (by omega), hp5]
        have ev : (10 : Int32) * nI y + nI (t p) - 48 = nI (10 * y + (t p - 48)) := by
          rw [show (10 : Int32) = nI 10 from rfl, pk_mul, nI_add, show (48 : Int32) = nI 48 from rfl, pk_sub (by omega)]
          rw [show 10 * y + t p - 48 = 10 * y + (t p - 48) by omega]
        rw [ev, show q_up F 0 5 (nI (10 * y + (t p - 48))) 0 4 + 1 = nI (p + 1) by rw [qu_s, pk_un (by decide), h4, nI_1]]
        obtain ⟨F', e1, e2, e3, e4, e5⟩ := ih (p + 1) f (q_up (q_up F 0 5 (nI (10 * y + (t p - 48)))) 0 4 (nI (p + 1))) (10 * y + (t p - 48)) (by omega) (by omega) (h.x ((aX.up (by omega)).tr (aX.up (by omega)))) (by rw [qu_s, pk_us]) (by rw [qu_s, pk_un (by decide), qu_s, pk_us]) (by omega)
        exact ⟨F', e1, ((aX.up (by omega)).tr (aX.up (by omega))).tr e2, e3, by rw [e4, qu_s, pk_un (by decide), qu_s, pk_un (by decide)], e5⟩
      · rw [if_neg (show ¬ nI y ≤ 999 from nI_ge (a := 999) (by omega) (by omega)), if_neg c9, p_let, p_let]
        rw [show q_up F 0 5 (nI y) 0 4 + 1 = nI (p + 1) by rw [qu_s, pk_un (by decide), h4, nI_1]]
        obtain ⟨F', e1, e2, e3, e4, e5⟩ := ih (p + 1) f (q_up (q_up F 0 5 (nI y)) 0 4 (nI (p + 1))) y (by omega) (by omega) (h.x ((aX.up (by omega)).tr (aX.up (by omega)))) (by rw [qu_s, pk_us]) (by rw [qu_s, pk_un (by decide), qu_s, pk_us]) hy
        exact ⟨F', e1, ((aX.up (by omega)).tr (aX.up (by omega))).tr e2, e3, by rw [e4, qu_s, pk_un (by decide), qu_s, pk_un (by decide)], e5⟩
    · have d : ¬ bD (t p) := fun z => c (qD_i.mpr z)
      rw [bI_f (fun z => d z.2), if_pos rfl, if_neg c, Nat.sub_self]
      exact ⟨F, rfl, aX.rf, h4, rfl, h5⟩
theorem ix7 (w j : Nat) : (7 : Int32) * nI w + nI j = nI (7 * w + j) := by rw [show (7 : Int32) = nI 7 from rfl, pk_mul, nI_add]
theorem r_name_L {p s w : Nat} (h : tp F n t) (hn : n ≤ 120) (h3 : F 0 3 = nI p) (hs : s ≤ 7) (hps : p + s ≤ n) (hw : w < 12) : ∀ m j f, j + m = s → m + 1 < f → ∃ x, f_X4_isName_L34 N F G (nI (pm w)) (nI s) f 1 (nI j) = some (bI (ez t p w m j = true), x) := by
  have hpw := (t_pm w hw).1
  intro m
  induction m with
  | zero =>
    intro j f hj hf
    obtain ⟨f, rfl⟩ : ∃ g, f = g + 1 := ⟨f - 1, by omega⟩
    rw [f_X4_isName_L34, if_pos (nI_le (by omega) (by omega)), ez, bI_t rfl]
    exact ⟨_, rfl⟩
  | succ m ih =>
    intro j f hj hf
    obtain ⟨f, rfl⟩ : ∃ g, f = g + 1 := ⟨f - 1, by omega⟩
    obtain ⟨g1, g2⟩ := h.2 (p + j) (by omega)
    have hz : nz w j < 256 := by
      by_cases q : j < ln w
      · have := t_nz w hw j q; omega
      · rw [t_nz0 w hw j (by omega) (by omega)]; decide
    rw [f_X4_isName_L34, if_neg (nI_ge (by omega) (by omega)), if_neg z10, ix7, h3, nI_add, p_grd _ (by omega) (by decide), p_grd _ (by omega) (by decide), p_cl (by omega), p_cl (by omega), t_nms w hw j (by omega), g2, ez, i_eq (by omega) (by omega)]
    by_cases c : t (p + j) = nz w j
    · rw [if_pos c, if_pos c.symm, p_let, nI_1]
      exact ih (j + 1) f (by omega) (by omega)
    · obtain ⟨f, rfl⟩ : ∃ g, f = g + 1 := ⟨f - 1, by omega⟩
      rw [if_neg c, if_neg (fun z => c z.symm), p_let, nI_1, bI_f (by decide), f_X4_isName_L34, if_pos (show (0 : Int32) = 0 from rfl)]
      refine ⟨nI (j + 1), ?_⟩
      split <;> rfl
theorem r_name {p s w : Nat} (hN : 600 ≤ N) (h : tp F n t) (hn : n ≤ 120) (h3 : F 0 3 = nI p) (hs : 1 ≤ s) (hps : p + s ≤ n) (hw : w < 12) (hl : ∀ i, p ≤ i → i < p + s → bL (t i)) : f_X4_isName N F G (nI (pm w)) (nI s) = some (bI (wX t p (p + s) w)) := by
  have hln := t_ln w hw
  have hpw := (t_pm w hw).1
  have zero : ∃ x, f_X4_isName_L34 N F G (nI (pm w)) (nI s) N 0 0 = some (0, x) := by
    obtain ⟨f, rfl⟩ : ∃ g, N = g + 1 := ⟨N - 1, by omega⟩
    rw [f_X4_isName_L34, if_neg (show ¬ nI s ≤ 0 from nI_nle (by omega) (by omega)), if_pos rfl]
    exact ⟨_, rfl⟩
  obtain ⟨x0, e0⟩ := zero
  rw [f_X4_isName]
  by_cases c7 : 7 < s
  · rw [if_pos (show (7 : Int32) < nI s from nI_lt (a := 7) c7 (by omega)), e0, p_bd2, p_gb0, bI_f (fun z => by have := z.1; omega)]
  · rw [if_neg (show ¬ (7 : Int32) < nI s from nI_nlt (a := 7) (by omega) (by decide))]
    obtain ⟨x1, e1⟩ := r_name_L (N := N) (G := G) h hn h3 (by omega) hps hw s 0 N (by omega) (by omega)
    have e1 : f_X4_isName_L34 N F G (nI (pm w)) (nI s) N 1 0 = some (bI (ez t p w s 0 = true), x1) := e1
    by_cases c8 : s = 7
    · rw [if_pos (by rw [c8]; rfl), e1, p_bd2, q_gbI]
      have ne : ¬ ez t p w s 0 = true := by
        intro z
        have y := (ez_all _ _).mp z (ln w) (Nat.zero_le _) (by omega)
        rw [t_nz0 w hw (ln w) (by omega) (Nat.le_refl _)] at y
        have := hl (p + ln w) (by omega) (by omega)
        omega
      rw [bI_f ne, bI_f (fun z => by have := z.1; omega)]
    · rw [if_neg (show ¬ nI s = 7 from fun z => c8 ((nI_eq (b := 7) (by omega) (by decide)).mp z)), ix7, p_grd _ (by omega) (by decide), p_cl (by omega), t_nms w hw s (by omega)]
      by_cases cz : nz w s = 0
      · rw [if_pos (by rw [cz]; rfl), e1, p_bd2, q_gbI]
        refine congrArg some (bI_dec ⟨fun z => ?_, fun z => ?_⟩)
        · have q1 : ln w ≤ s := by
            rcases Nat.lt_or_ge s (ln w) with q | q
            · have := t_nz w hw s q; omega
            · exact q
          have q2 : ¬ ln w < s := by
            intro q
            have y := (ez_all _ _).mp z (ln w) (Nat.zero_le _) (by omega)
            rw [t_nz0 w hw (ln w) (by omega) (Nat.le_refl _)] at y
            have := hl (p + ln w) (by omega) (by omega)
            omega
          have q3 : s = ln w := by omega
          exact ⟨by omega, by rw [← q3]; exact z⟩
        · have q3 : s = ln w := by have := z.1; omega
          rw [q3]; exact z.2
      · have hz : nz w s < 256 := by
          by_cases q : s < ln w
          · have := t_nz w hw s q; omega
          · rw [t_nz0 w hw s (by omega) (by omega)]; decide
        rw [if_neg (nI_ne0 (by omega) (by omega)), e0, p_bd2, p_gb0, bI_f (fun z => cz (t_nz0 w hw s (by omega) (by have := z.1; omega)))]
theorem r_word {p e : Nat} (hN : 600 ≤ N) (h : tp F n t) (hn : n ≤ 120) (h3 : F 0 3 = nI p) (h4 : F 0 4 = nI e) (hpe : p < e) (he : e ≤ n) (hl : ∀ i, p ≤ i → i < e → bL (t i)) : f_X4_wordHere N F G = some (nI (pm (wd t p e))) := by
  have lp : ∀ m v f, v + m = 12 → m < f → f_X4_wordHere_L2 N F G f (nI v) = some (nI (fr t p e m v)) := by
    intro m
    induction m with
    | zero =>
      intro v f hv hf
      obtain ⟨f, rfl⟩ : ∃ g, f = g + 1 := ⟨f - 1, by omega⟩
      rw [f_X4_wordHere_L2, if_pos (show (12 : Int32) ≤ nI v from nI_le (a := 12) (by omega) (by omega)), fr]
    | succ m ih =>
      intro v f hv hf
      obtain ⟨f, rfl⟩ : ∃ g, f = g + 1 := ⟨f - 1, by omega⟩
      obtain ⟨q1, q2⟩ := t_pm v (by omega)
      have q := r_name (N := N) (G := G) (s := e - p) (w := pm v) hN h hn h3 (by omega) (by omega) q1 (fun i a b => hl i a (by omega))
      rw [q2, show p + (e - p) = e by omega] at q
      rw [f_X4_wordHere_L2, if_neg (show ¬ (12 : Int32) ≤ nI v from nI_ge (b := 12) (by omega) (by decide)), h4, h3, pk_sub (by omega), q, p_bd, fr]
      by_cases c : wX t p e (pm v)
      · rw [bI_t c, if_neg z10, if_pos c]
      · rw [bI_f c, if_pos rfl, if_neg c, p_let, nI_1]
        exact ih (v + 1) f (by omega) (by omega)
  rw [f_X4_wordHere, show f_X4_wordHere_L2 N F G N 0 = _ from lp 12 0 N (by omega) (by omega), p_bd, f_X4_wordHere_B31]
  rcases wd_fr (t := t) (p := p) (e := e) with ⟨q1, q2⟩ | ⟨q1, q2⟩
  · rw [q1, q2, if_pos (show (12 : Int32) ≤ nI 12 by decide)]; rfl
  · have := (t_pm _ q1).1
    rw [q2, if_neg (show ¬ (12 : Int32) ≤ nI (pm (wd t p e)) from nI_ge (b := 12) (by omega) (by decide))]
theorem r_reads {p : Nat} (hN : 600 ≤ N) (h : tp F n t) (hn : n ≤ 120) (hp : p ≤ n) (h4 : F 0 4 = nI p) : ∃ F', f_X4_reads N F G = some F' ∧ aX F F' ∧ F' 0 3 = nI (rn qS t (n - p) p) ∧ F' 0 4 = nI (tE t n (rn qS t (n - p) p)) ∧ F' 0 2 = nI (rT t n (rn qS t (n - p) p)) ∧ F' 0 5 = nI (rV t n (rn qS t (n - p) p)) := by
  obtain ⟨F1, e1, e2, e3⟩ := r_sk (N := N) (G := G) hn (n - p) p N F (by omega) (by omega) h h4
  have hs := rn_le (q := qS) (t := t) (n - p) p
  rw [f_X4_reads, e1, p_bd, p_let, p_let, e3]
  generalize rn qS t (n - p) p = s at *
  generalize hF2 : q_up (q_up F1 0 3 (nI s)) 0 5 0 = F2
  have x2 : aX F F2 := by rw [← hF2]; exact (e2.tr (aX.up (by omega))).tr (aX.up (by omega))
  have g4 : F2 0 4 = nI s := by rw [← hF2, qu_s, pk_un (by decide), qu_s, pk_un (by decide), e3]
  have g3 : F2 0 3 = nI s := by rw [← hF2, qu_s, pk_un (by decide), qu_s, pk_us]
  have g5 : F2 0 5 = nI 0 := by rw [← hF2, qu_s, pk_us]; rfl
  have tp2 : tp F2 n t := h.x x2
  rw [g4, tp2.1, i_eq (by omega) (by omega)]
  by_cases c : s = n
  · rw [if_pos c, p_let]
    refine ⟨_, rfl, x2.tr (aX.up (by omega)), by rw [qu_s, pk_un (by decide), g3], ?_, ?_, ?_⟩
    · rw [qu_s, pk_un (by decide), g4]; unfold tE; rw [if_pos c, c]
    · rw [qu_s, pk_us]; unfold rT; rw [if_pos c]; rfl
    · rw [qu_s, pk_un (by decide), g5]; unfold rV; rw [if_pos c]
  · rw [if_neg c, show f_X4_isByte N F2 G (nI s) 97 122 = _ from r_isByte (lo := 97) (hi := 122) tp2 hn (by omega) (by decide) (by decide), p_bd]
    by_cases dL : qL (t s) = true
    · have bl := qL_i.mp dL
      rw [bI_t ⟨by omega, bl⟩, if_neg z10]
      obtain ⟨F3, f1, f2, f3, f4, f5⟩ := r_let (N := N) (G := G) hn (n - s) s N F2 (by omega) (by omega) tp2 g4
      have eE : tE t n s = rn qL t (n - s) s := by unfold tE; rw [if_neg c, if_pos dL]
      have lt := tE_lt (t := t) (show s < n by omega)
      have le := tE_le (t := t) (show s ≤ n by omega)
      have w := r_word (N := N) (G := G) (p := s) (e := tE t n s) hN (tp2.x f2) hn (by rw [f4, g3]) (by rw [f3, eE]) lt le.1 (fun i a b => qL_i.mp (rn_all (n - s) s i a (by rw [← eE]; exact b)))
      rw [f1, p_bd, w, p_bd, p_let]
      refine ⟨_, rfl, (x2.tr f2).tr (aX.up (by omega)), by rw [qu_s, pk_un (by decide), f4, g3], ?_, ?_, ?_⟩
      · rw [qu_s, pk_un (by decide), f3, eE]
      · rw [qu_s, pk_us]; unfold rT; rw [if_neg c, if_pos dL]
      · rw [qu_s, pk_un (by decide), f5, g5]; unfold rV; rw [if_neg c, if_pos dL]
    · have bl : ¬ bL (t s) := fun z => dL (qL_i.mpr z)
      rw [bI_f (fun z => bl z.2), if_pos rfl, show f_X4_isByte N F2 G (nI s) 48 57 = _ from r_isByte (lo := 48) (hi := 57) tp2 hn (by omega) (by decide) (by decide), p_bd]
      by_cases dD : qD (t s) = true
      · have bd := qD_i.mp dD
        rw [bI_t ⟨by omega, bd⟩, if_neg z10]
        obtain ⟨F3, f1, f2, f3, f4, f5⟩ := r_dig (N := N) (G := G) hn (n - s) s N F2 0 (by omega) (by omega) tp2 g4 g5 (by decide)
        have eE : tE t n s = rn qD t (n - s) s := by unfold tE; rw [if_neg c, if_neg dL, if_pos dD]
        rw [f1, p_bd, p_let]
        refine ⟨_, rfl, (x2.tr f2).tr (aX.up (by omega)), by rw [qu_s, pk_un (by decide), f4, g3], ?_, ?_, ?_⟩
        · rw [qu_s, pk_un (by decide), f3, eE]
        · rw [qu_s, pk_us]; unfold rT; rw [if_neg c, if_neg dL, if_pos dD]; rfl
        · rw [qu_s, pk_un (by decide), f5, ← eE]; unfold rV; rw [if_neg c, if_neg dL, if_pos dD]
      · have bd : ¬ bD (t s) := fun z => dD (qD_i.mpr z)
        have eE : tE t n s = s + 1 := by unfold tE; rw [if_neg c, if_neg dL, if_neg dD]
        have eV : rV t n s = 0 := by unfold rV; rw [if_neg c, if_neg dL, if_neg dD]
        rw [bI_f (fun z => bd z.2), if_pos rfl, show f_X4_isByte N F2 G (nI s) 59 59 = _ from r_isByte (lo := 59) (hi := 59) tp2 hn (by omega) (by decide) (by decide), p_bd]
        have last : ∀ v : Nat, ∃ F', f_X4_reads_B231 N F2 G (nI v) = some F' ∧ aX F F' ∧ F' 0 3 = nI s ∧ F' 0 4 = nI (tE t n s) ∧ F' 0 2 = nI v ∧ F' 0 5 = nI (rV t n s) := by
          intro v
          rw [f_X4_reads_B231, p_let, p_let]
          refine ⟨_, rfl, (x2.tr (aX.up (by omega))).tr (aX.up (by omega)), ?_, ?_, ?_, ?_⟩
          · rw [qu_s, pk_un (by decide), qu_s, pk_un (by decide), g3]
          · rw [qu_s, pk_us, qu_s, pk_un (by decide), g4, nI_1, eE]
          · rw [qu_s, pk_un (by decide), qu_s, pk_us]
          · rw [qu_s, pk_un (by decide), qu_s, pk_un (by decide), g5, eV]
        by_cases d59 : t s = 59
        · have eT : rT t n s = 21 := by unfold rT; rw [if_neg c, if_neg dL, if_neg dD, if_pos d59]
          rw [bI_t (by omega), if_neg z10, eT]
          exact last 21
        · have eT : rT t n s = 23 := by unfold rT; rw [if_neg c, if_neg dL, if_neg dD, if_neg d59]
          rw [bI_f (by omega), if_pos rfl, eT]
          exact last 23
end RD
