/-! ===== pure 2: what the parts of a second say, by both ===== -/
theorem p_gM0 {β : Type} (k : Option β) : q_grd (0 : Int32) 69 k = k := p_grd (j := 0) k (by decide) (by decide)
theorem p_gM1 {β : Type} (k : Option β) : q_grd (1 : Int32) 69 k = k := p_grd (j := 1) k (by decide) (by decide)
theorem p_gM2 {β : Type} (k : Option β) : q_grd (2 : Int32) 69 k = k := p_grd (j := 2) k (by decide) (by decide)
theorem p_gM3 {β : Type} (k : Option β) : q_grd (3 : Int32) 69 k = k := p_grd (j := 3) k (by decide) (by decide)
theorem p_gM4 {β : Type} (k : Option β) : q_grd (4 : Int32) 69 k = k := p_grd (j := 4) k (by decide) (by decide)
theorem p_c0 : (0 : Int32).toNatClampNeg = 0 := by decide
theorem p_c1 : (1 : Int32).toNatClampNeg = 1 := by decide
theorem p_c2 : (2 : Int32).toNatClampNeg = 2 := by decide
theorem p_c3 : (3 : Int32).toNatClampNeg = 3 := by decide
theorem p_c4 : (4 : Int32).toNatClampNeg = 4 := by decide
section RIT
variable {N t : Nat} {F : Nat → Nat → Int32} {G : Nat → Int64}
theorem r_ix {t k : Nat} : (5 : Int32) + 8 * nI t + nI k = nI (5 + k + 8 * t) := by
  rw [show (5 : Int32) = nI 5 from rfl, show (8 : Int32) = nI 8 from rfl, pk_mul, nI_add, nI_add]
  congr 1
  omega
theorem r_it {k : Nat} (ht : t < 8) (hk : k < 8) : f_X4_it N F G (nI t) (nI k) = some (F 1 (5 + k + 8 * t)) := by
  rw [f_X4_it, r_ix, p_grd _ (by omega) (by decide), p_cl (by omega)]
theorem r_it0 (ht : t < 8) : f_X4_it N F G (nI t) (0 : Int32) = some (F 1 (5 + 8 * t)) := r_it (k := 0) ht (by decide)
theorem r_it1 (ht : t < 8) : f_X4_it N F G (nI t) (1 : Int32) = some (F 1 (6 + 8 * t)) := r_it (k := 1) ht (by decide)
theorem r_it2 (ht : t < 8) : f_X4_it N F G (nI t) (2 : Int32) = some (F 1 (7 + 8 * t)) := r_it (k := 2) ht (by decide)
theorem r_it3 (ht : t < 8) : f_X4_it N F G (nI t) (3 : Int32) = some (F 1 (8 + 8 * t)) := r_it (k := 3) ht (by decide)
theorem r_it4 (ht : t < 8) : f_X4_it N F G (nI t) (4 : Int32) = some (F 1 (9 + 8 * t)) := r_it (k := 4) ht (by decide)
theorem r_it5 (ht : t < 8) : f_X4_it N F G (nI t) (5 : Int32) = some (F 1 (10 + 8 * t)) := r_it (k := 5) ht (by decide)
theorem r_it6 (ht : t < 8) : f_X4_it N F G (nI t) (6 : Int32) = some (F 1 (11 + 8 * t)) := r_it (k := 6) ht (by decide)
theorem r_it7 (ht : t < 8) : f_X4_it N F G (nI t) (7 : Int32) = some (F 1 (12 + 8 * t)) := r_it (k := 7) ht (by decide)
theorem r_put {k : Nat} {v : Int32} (ht : t < 8) (hk : k < 8) : f_X4_put N F G (nI t) (nI k) v = some (q_up F 1 (5 + k + 8 * t) v) := by
  rw [f_X4_put, r_ix, p_grd _ (by omega) (by decide), p_let, p_cl (by omega)]
theorem r_put0 {v : Int32} (ht : t < 8) : f_X4_put N F G (nI t) (0 : Int32) v = some (q_up F 1 (5 + 8 * t) v) := r_put (k := 0) ht (by decide)
theorem r_put1 {v : Int32} (ht : t < 8) : f_X4_put N F G (nI t) (1 : Int32) v = some (q_up F 1 (6 + 8 * t) v) := r_put (k := 1) ht (by decide)
theorem r_put2 {v : Int32} (ht : t < 8) : f_X4_put N F G (nI t) (2 : Int32) v = some (q_up F 1 (7 + 8 * t) v) := r_put (k := 2) ht (by decide)
theorem r_put3 {v : Int32} (ht : t < 8) : f_X4_put N F G (nI t) (3 : Int32) v = some (q_up F 1 (8 + 8 * t) v) := r_put (k := 3) ht (by decide)
theorem r_put4 {v : Int32} (ht : t < 8) : f_X4_put N F G (nI t) (4 : Int32) v = some (q_up F 1 (9 + 8 * t) v) := r_put (k := 4) ht (by decide)
theorem r_put5 {v : Int32} (ht : t < 8) : f_X4_put N F G (nI t) (5 : Int32) v = some (q_up F 1 (10 + 8 * t) v) := r_put (k := 5) ht (by decide)
theorem r_put6 {v : Int32} (ht : t < 8) : f_X4_put N F G (nI t) (6 : Int32) v = some (q_up F 1 (11 + 8 * t) v) := r_put (k := 6) ht (by decide)
theorem r_put7 {v : Int32} (ht : t < 8) : f_X4_put N F G (nI t) (7 : Int32) v = some (q_up F 1 (12 + 8 * t) v) := r_put (k := 7) ht (by decide)
end RIT
theorem e_wt (w : Nat) (hw : w < 100) : (1 : Int32) + nI w / 25 = nI (1 + w / 25) := by
  rw [show (25 : Int32) = nI 25 from rfl, n_div (by omega) (by omega) (by omega), show (1 : Int32) = nI 1 from rfl, nI_add]
theorem e_dr (o : Nat) (ho : o < 10) : (3 : Int32) + nI o / 3 = nI (3 + o / 3) := by
  rw [show (3 : Int32) = nI 3 from rfl, n_div (by omega) (by omega) (by omega), nI_add]
theorem e_dr2 (o sp : Nat) (hs : sp < 11) : nI (3 + o / 3) + nI sp / 2 = nI (3 + o / 3 + sp / 2) := by
  rw [show (2 : Int32) = nI 2 from rfl, n_div (by omega) (by omega) (by omega), nI_add]
section PAIRS
variable {N : Nat} {F R : Nat → Nat → Int32} {G : Nat → Int64} {a : Nat → Nat} {i : Nat}
theorem r_wt (hM : mRel (F 1) a) (hw : wf a) (hi : i < a 4) : f_X4_weighs N F G (nI i) = some (nI (wt (a (5 + 8 * i)) (a (9 + 8 * i)))) := by
  have h8 : i < 8 := Nat.lt_of_lt_of_le hi hw.2.2.2.1
  obtain ⟨hk, -, -, -, hwet, -⟩ := hw.2.2.2.2 i hi
  rw [f_X4_weighs, r_it4 h8, p_bd, p_let, r_it0 h8, p_bd, hM _ (by omega), hM _ (by omega), e_wt _ hwet]
  generalize a (5 + 8 * i) = k at hk ⊢
  rcases lt6 hk with rfl | rfl | rfl | rfl | rfl | rfl
  · rfl
  · rfl
  · rfl
  · rfl
  · show some (nI (1 + a (9 + 8 * i) / 25) + 1) = _
    rw [nI_1]; rfl
  · rfl
theorem r_dr (hM : mRel (F 1) a) (hw : wf a) (hi : i < a 4) : f_X4_dries N F G (nI i) = some (nI (dr (a (5 + 8 * i)) (a (7 + 8 * i)) (a 2))) := by
  have h8 : i < 8 := Nat.lt_of_lt_of_le hi hw.2.2.2.1
  obtain ⟨hk, -, ho, -⟩ := hw.2.2.2.2 i hi
  rw [f_X4_dries, r_it2 h8, p_bd, p_let, r_it0 h8, p_bd, p_gM2, p_c2, hM _ (by omega), hM _ (by omega), hM 2 (by omega), e_dr _ ho, e_dr2 _ _ hw.2.1.2]
  generalize a (5 + 8 * i) = k at hk ⊢
  rcases lt6 hk with rfl | rfl | rfl | rfl | rfl | rfl <;> rfl
theorem c_wt2 (hR : cRel R a) (hw : wf a) (hi : i < a 4) : f_X0_weightOf N R (nI i) = some (nI (wt (a (5 + 8 * i)) (a (9 + 8 * i)))) := by
  obtain ⟨h1, -, -, h4, -⟩ := hR.2.2.2.2.2.2.2 i hi
  obtain ⟨hk, -, -, -, hwet, -⟩ := hw.2.2.2.2 i hi
  exact c_wt (Nat.lt_of_lt_of_le hi hw.2.2.2.1) h1 h4 hk hwet
theorem c_dr (hR : cRel R a) (hw : wf a) (hi : i < a 4) : f_X0_dries N R (nI i) = some (nI (dr (a (5 + 8 * i)) (a (7 + 8 * i)) (a 2))) := by
  have h8 : i < 8 := Nat.lt_of_lt_of_le hi hw.2.2.2.1
  obtain ⟨h1, -, h3, -⟩ := hR.2.2.2.2.2.2.2 i hi
  obtain ⟨hk, -, ho, -⟩ := hw.2.2.2.2 i hi
  rw [f_X0_dries, p_grd _ h8 (by decide), p_let, p_grd _ h8 (by decide), p_let, p_cl (by omega), h1, h3, hR.2.2.1, e_dr _ ho, e_dr2 _ _ hw.2.1.2]
  generalize a (5 + 8 * i) = k at hk ⊢
  rcases lt6 hk with rfl | rfl | rfl | rfl | rfl | rfl <;> rfl
theorem dr_lt {k o sp : Nat} (ho : o < 10) (hs : sp < 11) : dr k o sp < 20 := by
  unfold dr
  repeat' split
  all_goals omega
/-! on, lost -/
theorem le1 {x : Nat} (h : x ≤ 1) : x = 0 ∨ x = 1 := by omega
theorem r_on (hM : mRel (F 1) a) (hw : wf a) (hi : i < a 4) : f_X4_isOn N F G (nI i) = some (nI (a (8 + 8 * i))) := by
  have h8 : i < 8 := Nat.lt_of_lt_of_le hi hw.2.2.2.1
  rw [f_X4_isOn, r_it3 h8, p_bd, hM _ (by omega)]
  have h1 := (hw.2.2.2.2 i hi).2.2.2.1
  rcases le1 h1 with e | e <;> rw [e] <;> rfl
theorem c_on (hR : cRel R a) (hw : wf a) (hi : i < a 4) : f_X0_isOn N R (nI i) = some (nI (a (8 + 8 * i))) := by
  have h8 : i < 8 := Nat.lt_of_lt_of_le hi hw.2.2.2.1
  have h1 := (hw.2.2.2.2 i hi).2.2.2.1
  rw [f_X0_isOn, hR.2.2.2.2.2.1, b_bit _ (sSet_256 hw.2.2.2.1 hw.on) _ h8, sSet_bit _ hw.2.2.2.1 hw.on i hi]
  show (if nI (a (8 + 8 * i)) = 1 then some 1 else some 0) = _
  rcases le1 h1 with e | e <;> rw [e] <;> rfl
theorem c_lost (hR : cRel R a) (hw : wf a) (hi : i < a 4) : f_X0_isLost N R (nI i) = some (nI (a (11 + 8 * i))) := by
  have h8 : i < 8 := Nat.lt_of_lt_of_le hi hw.2.2.2.1
  have h1 := (hw.2.2.2.2 i hi).2.2.2.2.2.2.1
  rw [f_X0_isLost, hR.2.2.2.2.2.2.1, b_bit _ (sSet_256 hw.2.2.2.1 hw.lost) _ h8, sSet_bit _ hw.2.2.2.1 hw.lost i hi]
  show (if nI (a (11 + 8 * i)) = 1 then some 1 else some 0) = _
  rcases le1 h1 with e | e <;> rw [e] <;> rfl
/-! the set, by the reference -/
theorem r_set_L {k : Nat} (hk : k < 8) (hM : mRel (F 1) a) (h4 : a 4 ≤ 8) (hb : ∀ i, i < a 4 → a (5 + k + 8 * i) ≤ 1) : ∀ f i, i ≤ a 4 → a 4 - i < f → f_X4_setOf_L4 N F G (nI k) f (nI (sSet a k i)) (nI i) = some (nI (sSet a k (a 4)), nI (a 4)) := by
  intro f
  induction f with
  | zero => intro i _ h; exact absurd h (Nat.not_lt_zero _)
  | succ f ih =>
    intro i hi hf
    rw [f_X4_setOf_L4, p_gM4, p_c4, hM 4 (by omega)]
    by_cases e : i = a 4
    · rw [if_pos (nI_le (by omega) (by omega)), e]
    · rw [if_neg (nI_ge (by omega) (by omega)), r_it (by omega) hk, p_bd, p_let, p_let, hM _ (by omega)]
      rw [b_add i (by omega) _ (sSet_lt i (fun j hj => hb j (by omega))) _ (by have := hb i (by omega); omega), nI_1]
      exact ih (i + 1) (by omega) (by omega)
theorem r_set {k : Nat} (hk : k < 8) (hM : mRel (F 1) a) (h4 : a 4 ≤ 8) (hb : ∀ i, i < a 4 → a (5 + k + 8 * i) ≤ 1) (hN : 9 ≤ N) : f_X4_setOf N F G (nI k) = some (nI (sSet a k (a 4))) := by
  rw [f_X4_setOf]
  have h := r_set_L (N := N) (G := G) hk hM h4 hb N 0 (by omega) (by omega)
  rw [show (0 : Int32) = nI 0 from rfl]
  rw [show sSet a k 0 = 0 from rfl] at h
  rw [h, p_bd2]
def oth (a : Nat → Nat) (i : Nat) : Nat := pop8 (sSet a 3 (a 4) - a (8 + 8 * i) * 2 ^ i)
theorem r_oth (hM : mRel (F 1) a) (hw : wf a) (hi : i < a 4) (hN : 9 ≤ N) : f_X4_others N F G (nI i) = some (nI (oth a i)) := by
  have h8 : i < 8 := Nat.lt_of_lt_of_le hi hw.2.2.2.1
  have h2 := sSet_256 hw.2.2.2.1 hw.on
  rw [f_X4_others, show (3 : Int32) = nI 3 from rfl, r_set (by decide) hM hw.2.2.2.1 hw.on hN, p_bd, b_clr _ h2 _ h8, sSet_bit _ hw.2.2.2.1 hw.on i hi, r_bits (by omega) hN, p_bd]
  rfl
end PAIRS
