/-! ===== pure 8: an island becomes another; the whole state, by both ===== -/
def q6 (F E : Nat → Nat → Int32) (i : Nat) : Nat → Nat → Int32 := q_up (q_up (q_up (q_up (q_up (q_up F 1 i (E 1 i)) 2 i (E 2 i)) 3 i (E 3 i)) 4 i (E 4 i)) 5 i (E 5 i)) 6 i (E 6 i)
theorem q6_row {F E : Nat → Nat → Int32} {i : Nat} : ∀ j, 1 ≤ j → j ≤ 6 → q6 F E i j = upd (F j) i (E j i)
  | 1, _, _ => rfl
  | 2, _, _ => rfl
  | 3, _, _ => rfl
  | 4, _, _ => rfl
  | 5, _, _ => rfl
  | 6, _, _ => rfl
theorem c_bec_L {N n : Nat} {E : Nat → Nat → Int32} (hn : n ≤ 8) : ∀ m i f F, i + m = n → m < f → F 0 4 = nI n → (∀ j k, 1 ≤ j → j ≤ 6 → k < i → F j k = E j k) → ∃ F', f_X0_becomes_L58 N E f (nI i) F = some (nI n, F') ∧ F' 0 = F 0 ∧ ∀ j k, 1 ≤ j → j ≤ 6 → k < n → F' j k = E j k := by
  intro m
  induction m with
  | zero =>
    intro i f F hi hf h4 h
    obtain ⟨f, rfl⟩ : ∃ g, f = g + 1 := ⟨f - 1, by omega⟩
    rw [f_X0_becomes_L58, h4, if_pos (nI_le (by omega) (by omega)), show i = n by omega]
    exact ⟨F, rfl, rfl, fun j k h1 h2 h3 => h j k h1 h2 (by omega)⟩
  | succ m ih =>
    intro i f F hi hf h4 h
    obtain ⟨f, rfl⟩ : ∃ g, f = g + 1 := ⟨f - 1, by omega⟩
    have h8 : i < 8 := by omega
    rw [f_X0_becomes_L58, h4, if_neg (nI_ge (by omega) (by omega))]
    simp only [p_grd _ h8 (show 8 < 2 ^ 31 by decide), p_let, p_cl (show i < 2 ^ 31 by omega), nI_1]
    obtain ⟨F', e1, e2, e3⟩ := ih (i + 1) f (q6 F E i) (by omega) (by omega) h4 (fun j k h1 h2 h3 => by
      rw [q6_row j h1 h2]
      by_cases e : k = i
      · subst e; rw [pk_us]
      · rw [pk_un e]; exact h j k h1 h2 (by omega))
    exact ⟨F', e1, e2, e3⟩
theorem c_bec {N : Nat} {F E : Nat → Nat → Int32} {a : Nat → Nat} (hN : 9 ≤ N) (hR : cRel E a) (hw : wf a) : ∃ F', f_X0_becomes N F E = some F' ∧ cRel F' a := by
  have h4 := hw.2.2.2.1
  obtain ⟨F', e1, e2, e3⟩ := c_bec_L (N := N) (E := E) h4 (a 4) 0 N (q_up (q_up (q_up (q_up (q_up (q_up (q_up F 0 0 (E 0 0)) 0 1 (E 0 1)) 0 2 (E 0 2)) 0 3 (E 0 3)) 0 4 (E 0 4)) 0 5 (E 0 5)) 0 6 (E 0 6)) (by omega) (by omega) hR.2.2.2.2.1 (fun j k _ _ h => absurd h (Nat.not_lt_zero _))
  refine ⟨F', ?_, ?_⟩
  · rw [f_X0_becomes, p_let, p_let, p_let, p_let, p_let, p_let, p_let, show (0 : Int32) = nI 0 from rfl, e1, p_bd2]
  · obtain ⟨h0, h1, h2, h3, h4', h5, h6, h7⟩ := hR
    refine ⟨by rw [e2]; exact h0, by rw [e2]; exact h1, by rw [e2]; exact h2, by rw [e2]; exact h3, by rw [e2]; exact h4', by rw [e2]; exact h5, by rw [e2]; exact h6, ?_⟩
    intro i hi
    have g := h7 i hi
    exact ⟨by rw [e3 1 i (by omega) (by omega) hi]; exact g.1, by rw [e3 2 i (by omega) (by omega) hi]; exact g.2.1, by rw [e3 3 i (by omega) (by omega) hi]; exact g.2.2.1, by rw [e3 4 i (by omega) (by omega) hi]; exact g.2.2.2.1, by rw [e3 5 i (by omega) (by omega) hi]; exact g.2.2.2.2.1, by rw [e3 6 i (by omega) (by omega) hi]; exact g.2.2.2.2.2⟩
/-! the whole state -/
def gI (R : Nat → Nat → Int32) (M : Nat → Int32) : Prop := ∃ a, wf a ∧ cRel R a ∧ mRel M a
def gK (x : Int32) (K : Nat → Nat → Int32) (z : Int32) (M : Nat → Int32) : Prop := (x = 0 ∧ z = 0) ∨ (x = 1 ∧ z = 1 ∧ gI K M)
def gF (f g : Nat → Int32) : Prop := ∀ k, k < 7 → f k = g k
def gT (P F : Nat → Nat → Int32) : Prop := ∃ n, n ≤ 120 ∧ P 0 0 = nI n ∧ F 0 1 = nI n ∧ ∀ i, i < n → ∃ v, v < 256 ∧ F 5 i = nI v ∧ P 1 i = (nI v).toInt8.toInt32
def gB (x : Int32) : Prop := x = 0 ∨ x = 8 ∨ x = 16 ∨ x = 64
def gS (B : Nat → Nat → Int32) (L : Nat → Nat → Int64) (F : Nat → Nat → Int32) (G : Nat → Int64) : Prop := ∀ s, s < 4 → ∃ z, z ≤ 40 ∧ B s 0 = F 6 s ∧ gB (F 6 s) ∧ B s 1 = nI z ∧ F 7 s = nI z ∧ ∀ i, i < z → L s i = G (40 * s + i)
def gRel (b R K P B : Nat → Nat → Int32) (L : Nat → Nat → Int64) (F : Nat → Nat → Int32) (G : Nat → Int64) : Prop := gI R (F 1) ∧ gK (b 0 0) K (F 0 0) (F 2) ∧ gF (b 1) (F 4) ∧ gT P F ∧ gS B L F G
section GR
variable {b R K P B F : Nat → Nat → Int32} {L : Nat → Nat → Int64} {G : Nat → Int64}
theorem gF_up {f g : Nat → Int32} {k : Nat} (h : gF f g) : gF (upd f k (f k + 1)) (upd g k (g k + 1)) := by
  intro j hj
  by_cases e : j = k
  · subst e; rw [pk_us, pk_us, h j hj]
  · rw [pk_un e, pk_un e]; exact h j hj
/-- a finding on both sides -/
theorem gRel.fnd {k : Nat} (h : gRel b R K P B L F G) : gRel (fb b k) R K P B L (fF F k) G := by
  obtain ⟨h1, h2, h3, h4, h5⟩ := h
  refine ⟨h1, h2, ?_, h4, h5⟩
  show gF (q_up b 1 k (b 1 k + 1) 1) (q_up F 4 k (F 4 k + 1) 4)
  rw [qu_s, qu_s]
  exact gF_up h3
/-- the reference's row changes to that of the new island -/
theorem gRel.isl {R' F' : Nat → Nat → Int32} (h : gRel b R K P B L F G) (hx : sX F F') (hi : gI R' (F' 1)) : gRel b R' K P B L F' G := by
  obtain ⟨h1, h2, h3, ⟨n, t1, t2, t3, t4⟩, h5⟩ := h
  refine ⟨hi, by rw [hx 0 (by decide), hx 2 (by decide)]; exact h2, by rw [hx 4 (by decide)]; exact h3, ⟨n, t1, t2, by rw [hx 0 (by decide)]; exact t3, by rw [hx 5 (by decide)]; exact t4⟩, ?_⟩
  intro s hs
  rw [hx 6 (by decide), hx 7 (by decide)]
  exact h5 s hs
/-- what is only thought -/
def tX (F F' : Nat → Nat → Int32) : Prop := (∀ j, j ≠ 1 → j ≠ 3 → F' j = F j) ∧ ∀ k, k < 69 → F' 1 k = F 1 k
theorem gI_cong {M M' : Nat → Int32} (h : gI R M) (e : ∀ k, k < 69 → M' k = M k) : gI R M' := by
  obtain ⟨a, h1, h2, h3⟩ := h
  exact ⟨a, h1, h2, mR_cong h3 h1.2.2.2.1 e⟩
theorem gRel.thk {F' : Nat → Nat → Int32} (h : gRel b R K P B L F G) (hx : tX F F') : gRel b R K P B L F' G := by
  obtain ⟨h1, h2, h3, ⟨n, t1, t2, t3, t4⟩, h5⟩ := h
  refine ⟨gI_cong h1 hx.2, by rw [hx.1 0 (by decide) (by decide), hx.1 2 (by decide) (by decide)]; exact h2, by rw [hx.1 4 (by decide) (by decide)]; exact h3, ⟨n, t1, t2, by rw [hx.1 0 (by decide) (by decide)]; exact t3, by rw [hx.1 5 (by decide) (by decide)]; exact t4⟩, ?_⟩
  intro s hs
  rw [hx.1 6 (by decide) (by decide), hx.1 7 (by decide) (by decide)]
  exact h5 s hs
end GR
