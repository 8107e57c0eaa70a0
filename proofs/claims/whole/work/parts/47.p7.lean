/-! ===== pure 7: what calls share ===== -/
theorem fa_lt (a b : Int32) : a < b ↔ a.toInt < b.toInt := Int32.lt_iff_toInt_lt
theorem fa_le (a b : Int32) : a ≤ b ↔ a.toInt ≤ b.toInt := Int32.le_iff_toInt_le
theorem fa_eq (a b : Int32) : a = b ↔ a.toInt = b.toInt := Int32.toInt_inj.symm
theorem fa_lt64 (a b : Int64) : a < b ↔ a.toInt < b.toInt := Int64.lt_iff_toInt_lt
theorem fa_le64 (a b : Int64) : a ≤ b ↔ a.toInt ≤ b.toInt := Int64.le_iff_toInt_le
theorem fa_eq64 (a b : Int64) : a = b ↔ a.toInt = b.toInt := Int64.toInt_inj.symm
theorem fa_wide_lt (a b : Int32) : a.toInt64 < b.toInt64 ↔ a < b := by rw [fa_lt64, fa_lt, Int32.toInt_toInt64, Int32.toInt_toInt64]
def bI (c : Prop) [Decidable c] : Int32 := if c then 1 else 0
theorem bI_t {c : Prop} [Decidable c] (h : c) : bI c = 1 := if_pos h
theorem bI_f {c : Prop} [Decidable c] (h : ¬ c) : bI c = 0 := if_neg h
theorem c_within {N : Nat} {p lo hi : Int32} : f_X3_within N p lo hi = some (bI (lo ≤ p ∧ p ≤ hi)) := by
  rw [f_X3_within]
  by_cases c : p < lo
  · rw [if_pos c, bI_f (fun z => by rw [fa_lt] at c; have := z.1; rw [fa_le] at this; omega)]
  · rw [if_neg c]
    by_cases d : hi < p
    · rw [if_pos d, bI_f (fun z => by rw [fa_lt] at d; have := z.2; rw [fa_le] at this; omega)]
    · rw [if_neg d, bI_t]
      rw [fa_lt] at c d
      rw [fa_le, fa_le]
      omega
theorem lg_lt0 (x y : Int64) : (lg_cmp x y < 0) = (x < y) := by
  unfold lg_cmp
  by_cases c : x > y
  · rw [if_pos c]
    refine propext ⟨fun h => absurd h (by decide), fun h => ?_⟩
    have c : y < x := c
    rw [fa_lt64] at c h
    omega
  · rw [if_neg c]
    by_cases d : x = y
    · rw [if_pos d]
      refine propext ⟨fun h => absurd h (by decide), fun h => ?_⟩
      rw [d, fa_lt64] at h
      omega
    · rw [if_neg d]
      refine propext ⟨fun _ => ?_, fun _ => by decide⟩
      have c : ¬ y < x := c
      rw [fa_lt64] at c ⊢
      rw [fa_eq64] at d
      omega
theorem lg_0lt (x y : Int64) : (0 < lg_cmp x y) = (y < x) := by
  unfold lg_cmp
  by_cases c : x > y
  · rw [if_pos c]
    exact propext ⟨fun _ => c, fun _ => by decide⟩
  · rw [if_neg c]
    have c : ¬ y < x := c
    by_cases d : x = y
    · rw [if_pos d]
      exact propext ⟨fun h => absurd h (by decide), fun h => absurd h c⟩
    · rw [if_neg d]
      exact propext ⟨fun h => absurd h (by decide), fun h => absurd h c⟩
theorem r_in {N : Nat} {p lo hi : Int32} : f_X4_in N p.toInt64 lo hi = some (bI (lo ≤ p ∧ p ≤ hi)) := by
  have h := c_within (N := N) (p := p) (lo := lo) (hi := hi)
  rw [f_X3_within] at h
  rw [f_X4_in]
  simp only [lg_lt0, lg_0lt, fa_wide_lt]
  exact h
theorem q_gbI {c : Prop} [Decidable c] {β : Type} (k : Option β) : q_gb (bI c) k = k := by
  by_cases h : c
  · rw [bI_t h]; rfl
  · rw [bI_f h]; rfl
/-- one is there -/
abbrev hasI (n : Nat) (p : Int32) : Prop := 0 ≤ p ∧ p < nI n
theorem hasI_of {n : Nat} {p : Int32} (hn : n < 2 ^ 31) (h : hasI n p) : ∃ i, i < n ∧ p = nI i := by
  obtain ⟨h1, h2⟩ := h
  obtain ⟨j, hj, rfl⟩ := nI_of (x := p) (by rw [fa_lt]; rw [fa_le] at h1; omega)
  exact ⟨j, by rw [nI_ltI hj hn] at h2; exact h2, rfl⟩
theorem hasI_nI {n i : Nat} (hn : n < 2 ^ 31) (h : i < n) : hasI n (nI i) := ⟨nI_pos' (by omega), nI_lt h hn⟩
theorem c_has {N n : Nat} {R : Nat → Nat → Int32} {p : Int32} (h : R 0 4 = nI n) : f_X0_has N R p = some (bI (hasI n p)) := by
  rw [f_X0_has, h]
  by_cases c : p < 0
  · rw [if_pos c, bI_f (fun z => by rw [fa_lt] at c; have := z.1; rw [fa_le] at this; omega)]
  · rw [if_neg c]
    by_cases d : nI n ≤ p
    · rw [if_pos d, bI_f (fun z => by rw [fa_le] at d; have := z.2; rw [fa_lt] at this; omega)]
    · rw [if_neg d, bI_t]
      rw [fa_lt] at c
      rw [fa_le] at d
      show 0 ≤ p ∧ p < nI n
      rw [fa_le, fa_lt]
      omega
theorem b_m1 : ∀ n, n < 9 → (nI n - 1).toInt = (n : Int) - 1 := by decide +kernel
theorem r_has {N n : Nat} {F : Nat → Nat → Int32} {G : Nat → Int64} {p : Int32} (h : F 1 4 = nI n) (hn : n ≤ 8) : f_X4_isThing N F G p = some (bI (hasI n p)) := by
  rw [f_X4_isThing, p_gM4, p_c4, h, r_in, p_bd, q_gbI]
  have e : (0 ≤ p ∧ p ≤ nI n - 1) = hasI n p := by
    show (0 ≤ p ∧ p ≤ nI n - 1) = (0 ≤ p ∧ p < nI n)
    rw [propext (fa_le p (nI n - 1)), propext (fa_lt p (nI n)), b_m1 n (by omega), nI_toInt (by omega)]
    exact propext ⟨fun h => ⟨h.1, by omega⟩, fun h => ⟨h.1, by omega⟩⟩
  by_cases c : hasI n p
  · rw [bI_t c, bI_t (e ▸ c)]
  · rw [bI_f c, bI_f (fun z => c (e ▸ z))]
/-! a finding is told -/
def fb (b : Nat → Nat → Int32) (k : Nat) : Nat → Nat → Int32 := q_up b 1 k (b 1 k + 1)
def fF (F : Nat → Nat → Int32) (k : Nat) : Nat → Nat → Int32 := q_up F 4 k (F 4 k + 1)
theorem c_found {N k : Nat} {b R T K P B : Nat → Nat → Int32} {L : Nat → Nat → Int64} {c : Int32} (hc : (-1000000001 : Int32) - c = nI k) (hk : k < 7) : f_X3_found N b R T K P B L c = some (c, fb b k) := by
  rw [f_X3_found, p_let, hc, c_within, p_bd, bI_t ⟨nI_pos' (by omega), nI_le (b := 6) (by omega) (by omega)⟩, if_neg (by decide), p_grd _ hk (by decide), p_grd _ hk (by decide), p_let, p_cl (by omega)]
  rfl
theorem r_finds {N k : Nat} {F : Nat → Nat → Int32} {G : Nat → Int64} {c : Int32} (hc : (-1000000001 : Int32) - c = nI k) (hk : k < 7) : f_X4_finds N F G c = some (c, fF F k) := by
  rw [f_X4_finds, hc, p_grd _ hk (by decide), p_grd _ hk (by decide), p_let, p_cl (by omega)]
  rfl
/-! copies -/
theorem r_copy_L {N : Nat} {E : Nat → Int32} : ∀ m i f F, i + m = 69 → m < f → (∀ k, k < i → F k = E k) → ∃ F', f_X4_copyAll_L2 N E f (nI i) F = some (nI 69, F') ∧ ∀ k, k < 69 → F' k = E k := by
  intro m
  induction m with
  | zero =>
    intro i f F hi hf h
    obtain ⟨f, rfl⟩ : ∃ g, f = g + 1 := ⟨f - 1, by omega⟩
    rw [f_X4_copyAll_L2, show (69 : Int32) = nI 69 from rfl, if_pos (nI_le (by omega) (by omega)), show i = 69 by omega]
    exact ⟨F, rfl, fun k hk => h k (by omega)⟩
  | succ m ih =>
    intro i f F hi hf h
    obtain ⟨f, rfl⟩ : ∃ g, f = g + 1 := ⟨f - 1, by omega⟩
    rw [f_X4_copyAll_L2, show (69 : Int32) = nI 69 from rfl, if_neg (nI_ge (by omega) (by omega)), p_grd _ (by omega) (by decide), p_grd _ (by omega) (by decide), p_let, p_let, nI_1, p_cl (by omega)]
    refine ih (i + 1) f _ (by omega) (by omega) (fun k hk => ?_)
    by_cases e : k = i
    · subst e; rw [pk_us]
    · rw [pk_un e]; exact h k (by omega)
theorem r_copy {N : Nat} {E F : Nat → Int32} (hN : 70 ≤ N) : ∃ F', f_X4_copyAll N E F = some F' ∧ ∀ k, k < 69 → F' k = E k := by
  obtain ⟨F', e1, e2⟩ := r_copy_L (N := N) (E := E) 69 0 N F (by omega) (by omega) (fun k hk => absurd hk (Nat.not_lt_zero _))
  refine ⟨F', ?_, e2⟩
  rw [f_X4_copyAll, show (0 : Int32) = nI 0 from rfl, e1, p_bd2]
theorem r_thinks {N : Nat} {F : Nat → Nat → Int32} {G : Nat → Int64} (hN : 70 ≤ N) : ∃ F', f_X4_thinks N F G = some F' ∧ (∀ j, j ≠ 3 → F' j = F j) ∧ ∀ k, k < 69 → F' 3 k = F 1 k := by
  obtain ⟨E, e1, e2⟩ := r_copy (N := N) (E := F 1) (F := F 3) hN
  refine ⟨va_up F 3 E, ?_, fun j hj => va_up_ne F E hj, fun k hk => ?_⟩
  · rw [f_X4_thinks, e1, p_bd, p_let]
  · rw [va_up_self]; exact e2 k hk
theorem r_back {N : Nat} {F : Nat → Nat → Int32} {G : Nat → Int64} (hN : 70 ≤ N) : ∃ F', f_X4_putsBack N F G = some F' ∧ (∀ j, j ≠ 1 → F' j = F j) ∧ ∀ k, k < 69 → F' 1 k = F 3 k := by
  obtain ⟨E, e1, e2⟩ := r_copy (N := N) (E := F 3) (F := F 1) hN
  refine ⟨va_up F 1 E, ?_, fun j hj => va_up_ne F E hj, fun k hk => ?_⟩
  · rw [f_X4_putsBack, e1, p_bd, p_let]
  · rw [va_up_self]; exact e2 k hk
theorem mR_cong {M M' : Nat → Int32} {a : Nat → Nat} (hM : mRel M a) (h4 : a 4 ≤ 8) (h : ∀ k, k < 69 → M' k = M k) : mRel M' a := fun k hk => (h k (by omega)).trans (hM k hk)
