/-! ===== pure 1: numbers, bits, the abstract island ===== -/
theorem p_let {α β : Type} (e : α) (k : α → β) : q_let e k = k e := rfl
theorem p_bd {α β : Type} (a : α) (k : α → Option β) : q_bd (some a) k = k a := rfl
theorem p_bd2 {α β γ : Type} (a : α) (b : β) (k : α → β → Option γ) : q_bd2 (some (a, b)) k = k a b := rfl
theorem p_bd3 {α β γ δ : Type} (a : α) (b : β) (c : γ) (k : α → β → γ → Option δ) : q_bd3 (some (a, b, c)) k = k a b c := rfl
theorem p_bd4 {α β γ δ ε : Type} (a : α) (b : β) (c : γ) (d : δ) (k : α → β → γ → δ → Option ε) : q_bd4 (some (a, b, c, d)) k = k a b c d := rfl
theorem p_bd5 {α β γ δ ε ζ : Type} (a : α) (b : β) (c : γ) (d : δ) (e : ε) (k : α → β → γ → δ → ε → Option ζ) : q_bd5 (some (a, b, c, d, e)) k = k a b c d e := rfl
theorem p_bd6 {α β γ δ ε ζ η : Type} (a : α) (b : β) (c : γ) (d : δ) (e : ε) (f : ζ) (k : α → β → γ → δ → ε → ζ → Option η) : q_bd6 (some (a, b, c, d, e, f)) k = k a b c d e f := rfl
theorem p_grd {β : Type} {j n : Nat} (k : Option β) (h : j < n) (hn : n < 2 ^ 31) : q_grd (nI j) n k = k := by
  unfold q_grd; rw [if_neg (nI_in h hn)]
theorem p_lt {β : Type} {i n : Nat} (k : Option β) (h : i < n) : q_lt i n k = k := by unfold q_lt; rw [if_pos h]
theorem p_gb0 {β : Type} (k : Option β) : q_gb 0 k = k := rfl
theorem p_gb1 {β : Type} (k : Option β) : q_gb 1 k = k := rfl
theorem p_cl {n : Nat} (h : n < 2 ^ 31) : (nI n).toNatClampNeg = n := nI_clamp h
def pop8 (s : Nat) : Nat := s % 2 + s / 2 % 2 + s / 4 % 2 + s / 8 % 2 + s / 16 % 2 + s / 32 % 2 + s / 64 % 2 + s / 128 % 2
theorem b_bit : ∀ s, s < 256 → ∀ i, i < 8 → ((nI s >>> (nI i &&& 31)) &&& 1) = nI (s / 2 ^ i % 2) := by decide +kernel
theorem b_set : ∀ s, s < 256 → ∀ i, i < 8 → s / 2 ^ i % 2 = 0 → (nI s ||| ((1 : Int32) <<< (nI i &&& 31))) = nI (s + 2 ^ i) := by decide +kernel
theorem b_clr : ∀ s, s < 256 → ∀ i, i < 8 → (nI s &&& (((1 : Int32) <<< (nI i &&& 31)) ^^^ (-1 : Int32))) = nI (s - s / 2 ^ i % 2 * 2 ^ i) := by decide +kernel
theorem b_and0 : ∀ s, s < 256 → ∀ i, i < 8 → ((nI s &&& ((1 : Int32) <<< (nI i &&& 31))) = 0 ↔ s / 2 ^ i % 2 = 0) := by decide +kernel
theorem b_one : ∀ s, s < 256 → ∀ i, i < 8 → (nI s = ((1 : Int32) <<< (nI i &&& 31)) ↔ s = 2 ^ i) := by decide +kernel
theorem b_add : ∀ i, i < 8 → ∀ x, x < 2 ^ i → ∀ b, b < 2 → (nI x ||| (nI b <<< (nI i &&& 31))) = nI (x + b * 2 ^ i) := by decide +kernel
theorem b_get : ∀ m, m < 8 → ∀ x, x < 2 ^ m → ∀ b, b < 2 → ∀ i, i < m + 1 → (x + b * 2 ^ m) / 2 ^ i % 2 = if i = m then b else x / 2 ^ i % 2 := by decide +kernel
theorem b_pop (N : Nat) : ∀ s, s < 256 → f_J6_bitCount_0f7a4 N (nI s) = some (nI (pop8 s)) := by
  show ∀ s, s < 256 → f_J6_bitCount_0f7a4 0 (nI s) = some (nI (pop8 s))
  decide +kernel
theorem b_low : ∀ s, s < 256 → s ≠ 0 → (nI s &&& (nI s - 1)) = nI (s &&& (s - 1)) ∧ (s &&& (s - 1)) < 256 ∧ pop8 (s &&& (s - 1)) + 1 = pop8 s := by decide +kernel
theorem b_pop0 : ∀ s, s < 256 → (pop8 s = 0 ↔ s = 0) := by decide +kernel
theorem b_oth : ∀ s, s < 256 → ∀ i, i < 8 → s / 2 ^ i % 2 = 1 → (s = 2 ^ i ↔ pop8 (s - 2 ^ i) = 0) := by decide +kernel
theorem b_pop9 : ∀ s, s < 256 → pop8 s < 9 := by decide +kernel
theorem b_or2 {u s i : Nat} : (u ||| s) / 2 ^ i % 2 = 0 ↔ u / 2 ^ i % 2 = 0 ∧ s / 2 ^ i % 2 = 0 := by
  have h := Nat.testBit_or u s i
  rw [Nat.testBit_eq_decide_div_mod_eq, Nat.testBit_eq_decide_div_mod_eq, Nat.testBit_eq_decide_div_mod_eq] at h
  have h1 := Nat.mod_two_eq_zero_or_one ((u ||| s) / 2 ^ i)
  have h2 := Nat.mod_two_eq_zero_or_one (u / 2 ^ i)
  have h3 := Nat.mod_two_eq_zero_or_one (s / 2 ^ i)
  rcases h1 with h1 | h1 <;> rcases h2 with h2 | h2 <;> rcases h3 with h3 | h3 <;> simp [h1, h2, h3] at h ⊢
theorem b_orlt {u s : Nat} (hu : u < 256) (hs : s < 256) : u ||| s < 256 := Nat.or_lt_two_pow (n := 8) hu hs
theorem nI_or (a b : Nat) : nI a ||| nI b = nI (a ||| b) := by
  apply Int32.toBitVec_inj.mp
  show BitVec.ofNat 32 a ||| BitVec.ofNat 32 b = BitVec.ofNat 32 (a ||| b)
  apply BitVec.eq_of_toNat_eq
  simp [BitVec.toNat_or, BitVec.toNat_ofNat, Nat.or_mod_two_pow (n := 32)]
/-- the count by the reference -/
theorem r_bits_L (N : Nat) : ∀ k s c, s < 256 → pop8 s < k → f_X4_bits_L4 N k (nI c) (nI s) = some (nI (c + pop8 s), 0) := by
  intro k
  induction k with
  | zero => intro s c _ h; exact absurd h (Nat.not_lt_zero _)
  | succ k ih =>
    intro s c hs hk
    rw [f_X4_bits_L4]
    by_cases h0 : s = 0
    · subst h0
      rw [if_pos (show nI 0 = 0 from rfl)]
      rfl
    · obtain ⟨h1, h2, h3⟩ := b_low s hs h0
      rw [if_neg (nI_ne0 (by omega) (by omega)), p_let, p_let, h1, nI_1, ih _ _ h2 (by omega)]
      rw [show c + 1 + pop8 (s &&& (s - 1)) = c + pop8 s by omega]
theorem r_bits {N s : Nat} (hs : s < 256) (hN : 9 ≤ N) : f_X4_bits N (nI s) = some (nI (pop8 s)) := by
  have h9 := b_pop9 s hs
  rw [f_X4_bits, show (0 : Int32) = nI 0 from rfl, r_bits_L N N s 0 hs (by omega), p_bd2, Nat.zero_add]
/-! the abstract island: a row of numbers as the reference's, in Nat -/
def upN (a : Nat → Nat) (k v : Nat) : Nat → Nat := fun j => if j = k then v else a j
theorem upN_s {a : Nat → Nat} {k v : Nat} : upN a k v k = v := if_pos rfl
theorem upN_n {a : Nat → Nat} {k v j : Nat} (h : j ≠ k) : upN a k v j = a j := if_neg h
def sSet (a : Nat → Nat) (k : Nat) : Nat → Nat
  | 0 => 0
  | m + 1 => sSet a k m + a (5 + k + 8 * m) * 2 ^ m
theorem sSet_lt {a : Nat → Nat} {k : Nat} : ∀ m, (∀ i, i < m → a (5 + k + 8 * i) ≤ 1) → sSet a k m < 2 ^ m := by
  intro m
  induction m with
  | zero => intro _; exact Nat.one_pos
  | succ m ih =>
    intro h
    have h1 := ih (fun i hi => h i (by omega))
    have h2 := h m (by omega)
    rw [sSet, Nat.pow_succ]
    have h3 : a (5 + k + 8 * m) * 2 ^ m ≤ 1 * 2 ^ m := Nat.mul_le_mul_right _ h2
    omega
theorem pw8 : ∀ m, m ≤ 8 → 2 ^ m ≤ 256 := by decide
theorem sSet_256 {a : Nat → Nat} {k m : Nat} (hm : m ≤ 8) (h : ∀ i, i < m → a (5 + k + 8 * i) ≤ 1) : sSet a k m < 256 := Nat.lt_of_lt_of_le (sSet_lt m h) (pw8 m hm)
theorem sSet_bit {a : Nat → Nat} {k : Nat} : ∀ m, m ≤ 8 → (∀ i, i < m → a (5 + k + 8 * i) ≤ 1) → ∀ i, i < m → sSet a k m / 2 ^ i % 2 = a (5 + k + 8 * i) := by
  intro m
  induction m with
  | zero => intro _ _ i hi; exact absurd hi (Nat.not_lt_zero _)
  | succ m ih =>
    intro hm h i hi
    have h1 := sSet_lt m (fun i hi => h i (by omega)) (a := a) (k := k)
    rw [sSet, b_get m (by omega) _ h1 _ (by have := h m (by omega); omega) i hi]
    by_cases e : i = m
    · rw [if_pos e, e]
    · rw [if_neg e]
      exact ih (by omega) (fun i hi => h i (by omega)) i (by omega)
theorem sSet_cong {a b : Nat → Nat} {k : Nat} : ∀ m, (∀ i, i < m → a (5 + k + 8 * i) = b (5 + k + 8 * i)) → sSet a k m = sSet b k m := by
  intro m
  induction m with
  | zero => intro _; rfl
  | succ m ih =>
    intro h
    rw [sSet, sSet, ih (fun i hi => h i (by omega)), h m (by omega)]
theorem sSet_up {a : Nat → Nat} {k i v : Nat} : ∀ m, i < m → sSet (upN a (5 + k + 8 * i) v) k m + a (5 + k + 8 * i) * 2 ^ i = sSet a k m + v * 2 ^ i := by
  intro m
  induction m with
  | zero => intro h; exact absurd h (Nat.not_lt_zero _)
  | succ m ih =>
    intro h
    rw [sSet, sSet]
    by_cases e : i = m
    · subst e
      have h1 : sSet (upN a (5 + k + 8 * i) v) k i = sSet a k i := sSet_cong i (fun j hj => upN_n (by omega))
      rw [h1, upN_s]
      omega
    · have h1 := ih (by omega)
      rw [upN_n (show 5 + k + 8 * m ≠ 5 + k + 8 * i by omega)]
      omega
/-- what is in range -/
def wfT (a : Nat → Nat) (i : Nat) : Prop := a (5 + 8 * i) < 6 ∧ a (6 + 8 * i) < 60 ∧ a (7 + 8 * i) < 10 ∧ a (8 + 8 * i) ≤ 1 ∧ a (9 + 8 * i) < 100 ∧ a (10 + 8 * i) < 60 ∧ a (11 + 8 * i) ≤ 1 ∧ a (12 + 8 * i) < 10000
def wf (a : Nat → Nat) : Prop := a 1 < 60 ∧ (1 ≤ a 2 ∧ a 2 < 11) ∧ (1 ≤ a 3 ∧ a 3 < 41) ∧ a 4 ≤ 8 ∧ ∀ i, i < a 4 → wfT a i
/-- the class's island holds it -/
def cRel (R : Nat → Nat → Int32) (a : Nat → Nat) : Prop := R 0 0 = nI (a 0) ∧ R 0 1 = nI (a 1) ∧ R 0 2 = nI (a 2) ∧ R 0 3 = nI (a 3) ∧ R 0 4 = nI (a 4) ∧ R 0 5 = nI (sSet a 3 (a 4)) ∧ R 0 6 = nI (sSet a 6 (a 4)) ∧
  ∀ i, i < a 4 → R 1 i = nI (a (5 + 8 * i)) ∧ R 2 i = nI (a (6 + 8 * i)) ∧ R 3 i = nI (a (7 + 8 * i)) ∧ R 4 i = nI (a (9 + 8 * i)) ∧ R 5 i = nI (a (10 + 8 * i)) ∧ R 6 i = nI (a (12 + 8 * i))
/-- the reference's row holds it -/
def mRel (M : Nat → Int32) (a : Nat → Nat) : Prop := ∀ k, k < 5 + 8 * a 4 → M k = nI (a k)
theorem wf.on {a : Nat → Nat} (h : wf a) : ∀ i, i < a 4 → a (5 + 3 + 8 * i) ≤ 1 := fun i hi => (h.2.2.2.2 i hi).2.2.2.1
theorem wf.lost {a : Nat → Nat} (h : wf a) : ∀ i, i < a 4 → a (5 + 6 + 8 * i) ≤ 1 := fun i hi => (h.2.2.2.2 i hi).2.2.2.2.2.2.1
/-! what it weighs and dries -/
def wt (k w : Nat) : Nat := if k = 1 then 1 + w / 25 else if k = 2 then 4 else if k = 3 then 5 else if k = 4 then 1 + w / 25 + 1 else if k = 5 then 2 else 3
def dr (k o sp : Nat) : Nat := if k = 1 then 3 + o / 3 else if k = 2 then 1 else if k = 3 then 0 else if k = 4 then 3 + o / 3 + sp / 2 else 1
theorem wt_lt {k w : Nat} (hw : w < 100) : wt k w ≤ 6 := by
  unfold wt
  repeat' split
  all_goals omega
theorem n_div {w d : Nat} (hw : w < 1000) (h0 : 0 < d) (hd : d < 1000) : nI w / nI d = nI (w / d) := pk_div (by omega) h0 (by omega)
theorem lt6 {k : Nat} (h : k < 6) : k = 0 ∨ k = 1 ∨ k = 2 ∨ k = 3 ∨ k = 4 ∨ k = 5 := by omega
theorem c_wt {N i k w : Nat} {R : Nat → Nat → Int32} (hi : i < 8) (h1 : R 1 i = nI k) (h4 : R 4 i = nI w) (hk : k < 6) (hw : w < 100) : f_X0_weightOf N R (nI i) = some (nI (wt k w)) := by
  have e : (1 : Int32) + nI w / 25 = nI (1 + w / 25) := by rw [show (25 : Int32) = nI 25 from rfl, n_div (by omega) (by omega) (by omega), show (1 : Int32) = nI 1 from rfl, nI_add]
  rw [f_X0_weightOf, p_grd _ hi (by decide), p_let, p_grd _ hi (by decide), p_let, p_cl (by omega), h1, h4, e]
  rcases lt6 hk with rfl | rfl | rfl | rfl | rfl | rfl
  · rfl
  · rfl
  · rfl
  · rfl
  · show some (nI (1 + w / 25) + 1) = _
    rw [nI_1]; rfl
  · rfl
