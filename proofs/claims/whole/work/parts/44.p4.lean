/-! ===== pure 4: what changes ===== -/
theorem qu_s {R : Nat → Nat → Int32} {j i : Nat} {v : Int32} : q_up R j i v j = upd (R j) i v := if_pos rfl
theorem qu_n {R : Nat → Nat → Int32} {j i x : Nat} {v : Int32} (h : x ≠ j) : q_up R j i v x = R x := if_neg h
theorem upN4 {a : Nat → Nat} {k v : Nat} (h : 4 < k) : upN a k v 4 = a 4 := upN_n (by omega)
theorem upN1 {a : Nat → Nat} {k v : Nat} (h : 4 < k) : upN a k v 1 = a 1 := upN_n (by omega)
theorem upN2 {a : Nat → Nat} {k v : Nat} (h : 4 < k) : upN a k v 2 = a 2 := upN_n (by omega)
theorem wf_kind {a : Nat → Nat} {i v : Nat} (hw : wf a) (hi : i < a 4) (hv : v < 6) : wf (upN a (5 + 8 * i) v) := by
  obtain ⟨h1, h2, h3, h4, h5⟩ := hw
  refine ⟨by rw [upN_n (by omega)]; exact h1, by rw [upN_n (by omega)]; exact h2, by rw [upN_n (by omega)]; exact h3, by rw [upN_n (by omega)]; exact h4, ?_⟩
  intro j hj
  rw [upN_n (by omega)] at hj
  obtain ⟨g1, g2, g3, g4, g5, g6, g7, g8⟩ := h5 j hj
  simp only [wfT, upN]
  refine ⟨?_, ?_, ?_, ?_, ?_, ?_, ?_, ?_⟩ <;> split <;> omega
theorem wf_at {a : Nat → Nat} {i v : Nat} (hw : wf a) (hi : i < a 4) (hv : v < 60) : wf (upN a (6 + 8 * i) v) := by
  obtain ⟨h1, h2, h3, h4, h5⟩ := hw
  refine ⟨by rw [upN_n (by omega)]; exact h1, by rw [upN_n (by omega)]; exact h2, by rw [upN_n (by omega)]; exact h3, by rw [upN_n (by omega)]; exact h4, ?_⟩
  intro j hj
  rw [upN_n (by omega)] at hj
  obtain ⟨g1, g2, g3, g4, g5, g6, g7, g8⟩ := h5 j hj
  simp only [wfT, upN]
  refine ⟨?_, ?_, ?_, ?_, ?_, ?_, ?_, ?_⟩ <;> split <;> omega
theorem wf_out {a : Nat → Nat} {i v : Nat} (hw : wf a) (hi : i < a 4) (hv : v < 10) : wf (upN a (7 + 8 * i) v) := by
  obtain ⟨h1, h2, h3, h4, h5⟩ := hw
  refine ⟨by rw [upN_n (by omega)]; exact h1, by rw [upN_n (by omega)]; exact h2, by rw [upN_n (by omega)]; exact h3, by rw [upN_n (by omega)]; exact h4, ?_⟩
  intro j hj
  rw [upN_n (by omega)] at hj
  obtain ⟨g1, g2, g3, g4, g5, g6, g7, g8⟩ := h5 j hj
  simp only [wfT, upN]
  refine ⟨?_, ?_, ?_, ?_, ?_, ?_, ?_, ?_⟩ <;> split <;> omega
theorem wf_on {a : Nat → Nat} {i v : Nat} (hw : wf a) (hi : i < a 4) (hv : v ≤ 1) : wf (upN a (8 + 8 * i) v) := by
  obtain ⟨h1, h2, h3, h4, h5⟩ := hw
  refine ⟨by rw [upN_n (by omega)]; exact h1, by rw [upN_n (by omega)]; exact h2, by rw [upN_n (by omega)]; exact h3, by rw [upN_n (by omega)]; exact h4, ?_⟩
  intro j hj
  rw [upN_n (by omega)] at hj
  obtain ⟨g1, g2, g3, g4, g5, g6, g7, g8⟩ := h5 j hj
  simp only [wfT, upN]
  refine ⟨?_, ?_, ?_, ?_, ?_, ?_, ?_, ?_⟩ <;> split <;> omega
theorem wf_wet {a : Nat → Nat} {i v : Nat} (hw : wf a) (hi : i < a 4) (hv : v < 100) : wf (upN a (9 + 8 * i) v) := by
  obtain ⟨h1, h2, h3, h4, h5⟩ := hw
  refine ⟨by rw [upN_n (by omega)]; exact h1, by rw [upN_n (by omega)]; exact h2, by rw [upN_n (by omega)]; exact h3, by rw [upN_n (by omega)]; exact h4, ?_⟩
  intro j hj
  rw [upN_n (by omega)] at hj
  obtain ⟨g1, g2, g3, g4, g5, g6, g7, g8⟩ := h5 j hj
  simp only [wfT, upN]
  refine ⟨?_, ?_, ?_, ?_, ?_, ?_, ?_, ?_⟩ <;> split <;> omega
theorem wf_goal {a : Nat → Nat} {i v : Nat} (hw : wf a) (hi : i < a 4) (hv : v < 60) : wf (upN a (10 + 8 * i) v) := by
  obtain ⟨h1, h2, h3, h4, h5⟩ := hw
  refine ⟨by rw [upN_n (by omega)]; exact h1, by rw [upN_n (by omega)]; exact h2, by rw [upN_n (by omega)]; exact h3, by rw [upN_n (by omega)]; exact h4, ?_⟩
  intro j hj
  rw [upN_n (by omega)] at hj
  obtain ⟨g1, g2, g3, g4, g5, g6, g7, g8⟩ := h5 j hj
  simp only [wfT, upN]
  refine ⟨?_, ?_, ?_, ?_, ?_, ?_, ?_, ?_⟩ <;> split <;> omega
theorem wf_lost {a : Nat → Nat} {i v : Nat} (hw : wf a) (hi : i < a 4) (hv : v ≤ 1) : wf (upN a (11 + 8 * i) v) := by
  obtain ⟨h1, h2, h3, h4, h5⟩ := hw
  refine ⟨by rw [upN_n (by omega)]; exact h1, by rw [upN_n (by omega)]; exact h2, by rw [upN_n (by omega)]; exact h3, by rw [upN_n (by omega)]; exact h4, ?_⟩
  intro j hj
  rw [upN_n (by omega)] at hj
  obtain ⟨g1, g2, g3, g4, g5, g6, g7, g8⟩ := h5 j hj
  simp only [wfT, upN]
  refine ⟨?_, ?_, ?_, ?_, ?_, ?_, ?_, ?_⟩ <;> split <;> omega
theorem wf_times {a : Nat → Nat} {i v : Nat} (hw : wf a) (hi : i < a 4) (hv : v < 10000) : wf (upN a (12 + 8 * i) v) := by
  obtain ⟨h1, h2, h3, h4, h5⟩ := hw
  refine ⟨by rw [upN_n (by omega)]; exact h1, by rw [upN_n (by omega)]; exact h2, by rw [upN_n (by omega)]; exact h3, by rw [upN_n (by omega)]; exact h4, ?_⟩
  intro j hj
  rw [upN_n (by omega)] at hj
  obtain ⟨g1, g2, g3, g4, g5, g6, g7, g8⟩ := h5 j hj
  simp only [wfT, upN]
  refine ⟨?_, ?_, ?_, ?_, ?_, ?_, ?_, ?_⟩ <;> split <;> omega
theorem wf_bear {a : Nat → Nat} {v : Nat} (hw : wf a) (hv : v < 60) : wf (upN a 1 v) := by
  obtain ⟨h1, h2, h3, h4, h5⟩ := hw
  refine ⟨by rw [upN_s]; exact hv, by rw [upN_n (by omega)]; exact h2, by rw [upN_n (by omega)]; exact h3, by rw [upN_n (by omega)]; exact h4, ?_⟩
  intro j hj
  rw [upN_n (by omega)] at hj
  have g := h5 j hj
  simp only [wfT, upN]
  refine ⟨?_, ?_, ?_, ?_, ?_, ?_, ?_, ?_⟩ <;> rw [if_neg (by omega)]
  · exact g.1
  · exact g.2.1
  · exact g.2.2.1
  · exact g.2.2.2.1
  · exact g.2.2.2.2.1
  · exact g.2.2.2.2.2.1
  · exact g.2.2.2.2.2.2.1
  · exact g.2.2.2.2.2.2.2
theorem wf_spd {a : Nat → Nat} {v : Nat} (hw : wf a) (hv : 1 ≤ v ∧ v < 11) : wf (upN a 2 v) := by
  obtain ⟨h1, h2, h3, h4, h5⟩ := hw
  refine ⟨by rw [upN_n (by omega)]; exact h1, by rw [upN_s]; exact hv, by rw [upN_n (by omega)]; exact h3, by rw [upN_n (by omega)]; exact h4, ?_⟩
  intro j hj
  rw [upN_n (by omega)] at hj
  have g := h5 j hj
  simp only [wfT, upN]
  refine ⟨?_, ?_, ?_, ?_, ?_, ?_, ?_, ?_⟩ <;> rw [if_neg (by omega)]
  · exact g.1
  · exact g.2.1
  · exact g.2.2.1
  · exact g.2.2.2.1
  · exact g.2.2.2.2.1
  · exact g.2.2.2.2.2.1
  · exact g.2.2.2.2.2.2.1
  · exact g.2.2.2.2.2.2.2
theorem wf_thk {a : Nat → Nat} {v : Nat} (hw : wf a) (hv : 1 ≤ v ∧ v < 41) : wf (upN a 3 v) := by
  obtain ⟨h1, h2, h3, h4, h5⟩ := hw
  refine ⟨by rw [upN_n (by omega)]; exact h1, by rw [upN_n (by omega)]; exact h2, by rw [upN_s]; exact hv, by rw [upN_n (by omega)]; exact h4, ?_⟩
  intro j hj
  rw [upN_n (by omega)] at hj
  have g := h5 j hj
  simp only [wfT, upN]
  refine ⟨?_, ?_, ?_, ?_, ?_, ?_, ?_, ?_⟩ <;> rw [if_neg (by omega)]
  · exact g.1
  · exact g.2.1
  · exact g.2.2.1
  · exact g.2.2.2.1
  · exact g.2.2.2.2.1
  · exact g.2.2.2.2.2.1
  · exact g.2.2.2.2.2.2.1
  · exact g.2.2.2.2.2.2.2
theorem wf_sec {a : Nat → Nat} {v : Nat} (hw : wf a) : wf (upN a 0 v) := by
  obtain ⟨h1, h2, h3, h4, h5⟩ := hw
  refine ⟨by rw [upN_n (by omega)]; exact h1, by rw [upN_n (by omega)]; exact h2, by rw [upN_n (by omega)]; exact h3, by rw [upN_n (by omega)]; exact h4, ?_⟩
  intro j hj
  rw [upN_n (by omega)] at hj
  have g := h5 j hj
  simp only [wfT, upN]
  refine ⟨?_, ?_, ?_, ?_, ?_, ?_, ?_, ?_⟩ <;> rw [if_neg (by omega)]
  · exact g.1
  · exact g.2.1
  · exact g.2.2.1
  · exact g.2.2.2.1
  · exact g.2.2.2.2.1
  · exact g.2.2.2.2.2.1
  · exact g.2.2.2.2.2.2.1
  · exact g.2.2.2.2.2.2.2
theorem mR_up {M : Nat → Int32} {a : Nat → Nat} {k v : Nat} (hM : mRel M a) (hk : k ≠ 4) : mRel (upd M k (nI v)) (upN a k v) := by
  intro j hj
  rw [upN_n (Ne.symm hk)] at hj
  by_cases e : j = k
  · subst e; rw [pk_us, upN_s]
  · rw [pk_un e, upN_n e]; exact hM j hj
theorem cR_kind {R : Nat → Nat → Int32} {a : Nat → Nat} {i v : Nat} (hR : cRel R a) (hi : i < a 4) : cRel (q_up R 1 i (nI v)) (upN a (5 + 8 * i) v) := by
  obtain ⟨h0, h1, h2, h3, h4, h5, h6, h7⟩ := hR
  have s3 : sSet (upN a (5 + 8 * i) v) 3 (a 4) = sSet a 3 (a 4) := sSet_cong _ (fun j hj => upN_n (by omega))
  have s6 : sSet (upN a (5 + 8 * i) v) 6 (a 4) = sSet a 6 (a 4) := sSet_cong _ (fun j hj => upN_n (by omega))
  refine ⟨by rw [qu_n (by decide), upN_n (by omega)]; exact h0, by rw [qu_n (by decide), upN_n (by omega)]; exact h1, by rw [qu_n (by decide), upN_n (by omega)]; exact h2, by rw [qu_n (by decide), upN_n (by omega)]; exact h3, by rw [qu_n (by decide), upN_n (by omega)]; exact h4, by rw [qu_n (by decide), upN4 (by omega), s3]; exact h5, by rw [qu_n (by decide), upN4 (by omega), s6]; exact h6, ?_⟩
  intro x hx
  rw [upN4 (by omega)] at hx
  have g := h7 x hx
  exact ⟨by
      rw [qu_s]
      by_cases e : x = i
      · subst e; rw [pk_us, upN_s]
      · rw [pk_un e, upN_n (by omega)]; exact g.1, by rw [qu_n (by decide), upN_n (by omega)]; exact g.2.1, by rw [qu_n (by decide), upN_n (by omega)]; exact g.2.2.1, by rw [qu_n (by decide), upN_n (by omega)]; exact g.2.2.2.1, by rw [qu_n (by decide), upN_n (by omega)]; exact g.2.2.2.2.1, by rw [qu_n (by decide), upN_n (by omega)]; exact g.2.2.2.2.2⟩
theorem cR_at {R : Nat → Nat → Int32} {a : Nat → Nat} {i v : Nat} (hR : cRel R a) (hi : i < a 4) : cRel (q_up R 2 i (nI v)) (upN a (6 + 8 * i) v) := by
  obtain ⟨h0, h1, h2, h3, h4, h5, h6, h7⟩ := hR
  have s3 : sSet (upN a (6 + 8 * i) v) 3 (a 4) = sSet a 3 (a 4) := sSet_cong _ (fun j hj => upN_n (by omega))
  have s6 : sSet (upN a (6 + 8 * i) v) 6 (a 4) = sSet a 6 (a 4) := sSet_cong _ (fun j hj => upN_n (by omega))
  refine ⟨by rw [qu_n (by decide), upN_n (by omega)]; exact h0, by rw [qu_n (by decide), upN_n (by omega)]; exact h1, by rw [qu_n (by decide), upN_n (by omega)]; exact h2, by rw [qu_n (by decide), upN_n (by omega)]; exact h3, by rw [qu_n (by decide), upN_n (by omega)]; exact h4, by rw [qu_n (by decide), upN4 (by omega), s3]; exact h5, by rw [qu_n (by decide), upN4 (by omega), s6]; exact h6, ?_⟩
  intro x hx
  rw [upN4 (by omega)] at hx
  have g := h7 x hx
  exact ⟨by rw [qu_n (by decide), upN_n (by omega)]; exact g.1, by
      rw [qu_s]
      by_cases e : x = i
      · subst e; rw [pk_us, upN_s]
      · rw [pk_un e, upN_n (by omega)]; exact g.2.1, by rw [qu_n (by decide), upN_n (by omega)]; exact g.2.2.1, by rw [qu_n (by decide), upN_n (by omega)]; exact g.2.2.2.1, by rw [qu_n (by decide), upN_n (by omega)]; exact g.2.2.2.2.1, by rw [qu_n (by decide), upN_n (by omega)]; exact g.2.2.2.2.2⟩
theorem cR_out {R : Nat → Nat → Int32} {a : Nat → Nat} {i v : Nat} (hR : cRel R a) (hi : i < a 4) : cRel (q_up R 3 i (nI v)) (upN a (7 + 8 * i) v) := by
  obtain ⟨h0, h1, h2, h3, h4, h5, h6, h7⟩ := hR
  have s3 : sSet (upN a (7 + 8 * i) v) 3 (a 4) = sSet a 3 (a 4) := sSet_cong _ (fun j hj => upN_n (by omega))
  have s6 : sSet (upN a (7 + 8 * i) v) 6 (a 4) = sSet a 6 (a 4) := sSet_cong _ (fun j hj => upN_n (by omega))
  refine ⟨by rw [qu_n (by decide), upN_n (by omega)]; exact h0, by rw [qu_n (by decide), upN_n (by omega)]; exact h1, by rw [qu_n (by decide), upN_n (by omega)]; exact h2, by rw [qu_n (by decide), upN_n (by omega)]; exact h3, by rw [qu_n (by decide), upN_n (by omega)]; exact h4, by rw [qu_n (by decide), upN4 (by omega), s3]; exact h5, by rw [qu_n (by decide), upN4 (by omega), s6]; exact h6, ?_⟩
  intro x hx
  rw [upN4 (by omega)] at hx
  have g := h7 x hx
  exact ⟨by rw [qu_n (by decide), upN_n (by omega)]; exact g.1, by rw [qu_n (by decide), upN_n (by omega)]; exact g.2.1, by
      rw [qu_s]
      by_cases e : x = i
      · subst e; rw [pk_us, upN_s]
      · rw [pk_un e, upN_n (by omega)]; exact g.2.2.1, by rw [qu_n (by decide), upN_n (by omega)]; exact g.2.2.2.1, by rw [qu_n (by decide), upN_n (by omega)]; exact g.2.2.2.2.1, by rw [qu_n (by decide), upN_n (by omega)]; exact g.2.2.2.2.2⟩
theorem cR_wet {R : Nat → Nat → Int32} {a : Nat → Nat} {i v : Nat} (hR : cRel R a) (hi : i < a 4) : cRel (q_up R 4 i (nI v)) (upN a (9 + 8 * i) v) := by
  obtain ⟨h0, h1, h2, h3, h4, h5, h6, h7⟩ := hR
  have s3 : sSet (upN a (9 + 8 * i) v) 3 (a 4) = sSet a 3 (a 4) := sSet_cong _ (fun j hj => upN_n (by omega))
  have s6 : sSet (upN a (9 + 8 * i) v) 6 (a 4) = sSet a 6 (a 4) := sSet_cong _ (fun j hj => upN_n (by omega))
  refine ⟨by rw [qu_n (by decide), upN_n (by omega)]; exact h0, by rw [qu_n (by decide), upN_n (by omega)]; exact h1, by rw [qu_n (by decide), upN_n (by omega)]; exact h2, by rw [qu_n (by decide), upN_n (by omega)]; exact h3, by rw [qu_n (by decide), upN_n (by omega)]; exact h4, by rw [qu_n (by decide), upN4 (by omega), s3]; exact h5, by rw [qu_n (by decide), upN4 (by omega), s6]; exact h6, ?_⟩
  intro x hx
  rw [upN4 (by omega)] at hx
  have g := h7 x hx
  exact ⟨by rw [qu_n (by decide), upN_n (by omega)]; exact g.1, by rw [qu_n (by decide), upN_n (by omega)]; exact g.2.1, by rw [qu_n (by decide), upN_n (by omega)]; exact g.2.2.1, by
      rw [qu_s]
      by_cases e : x = i
      · subst e; rw [pk_us, upN_s]
      · rw [pk_un e, upN_n (by omega)]; exact g.2.2.2.1, by rw [qu_n (by decide), upN_n (by omega)]; exact g.2.2.2.2.1, by rw [qu_n (by decide), upN_n (by omega)]; exact g.2.2.2.2.2⟩
theorem cR_goal {R : Nat → Nat → Int32} {a : Nat → Nat} {i v : Nat} (hR : cRel R a) (hi : i < a 4) : cRel (q_up R 5 i (nI v)) (upN a (10 + 8 * i) v) := by
  obtain ⟨h0, h1, h2, h3, h4, h5, h6, h7⟩ := hR
  have s3 : sSet (upN a (10 + 8 * i) v) 3 (a 4) = sSet a 3 (a 4) := sSet_cong _ (fun j hj => upN_n (by omega))
  have s6 : sSet (upN a (10 + 8 * i) v) 6 (a 4) = sSet a 6 (a 4) := sSet_cong _ (fun j hj => upN_n (by omega))
  refine ⟨by rw [qu_n (by decide), upN_n (by omega)]; exact h0, by rw [qu_n (by decide), upN_n (by omega)]; exact h1, by rw [qu_n (by decide), upN_n (by omega)]; exact h2, by rw [qu_n (by decide), upN_n (by omega)]; exact h3, by rw [qu_n (by decide), upN_n (by omega)]; exact h4, by rw [qu_n (by decide), upN4 (by omega), s3]; exact h5, by rw [qu_n (by decide), upN4 (by omega), s6]; exact h6, ?_⟩
  intro x hx
  rw [upN4 (by omega)] at hx
  have g := h7 x hx
  exact ⟨by rw [qu_n (by decide), upN_n (by omega)]; exact g.1, by rw [qu_n (by decide), upN_n (by omega)]; exact g.2.1, by rw [qu_n (by decide), upN_n (by omega)]; exact g.2.2.1, by rw [qu_n (by decide), upN_n (by omega)]; exact g.2.2.2.1, by
      rw [qu_s]
      by_cases e : x = i
      · subst e; rw [pk_us, upN_s]
      · rw [pk_un e, upN_n (by omega)]; exact g.2.2.2.2.1, by rw [qu_n (by decide), upN_n (by omega)]; exact g.2.2.2.2.2⟩
theorem cR_times {R : Nat → Nat → Int32} {a : Nat → Nat} {i v : Nat} (hR : cRel R a) (hi : i < a 4) : cRel (q_up R 6 i (nI v)) (upN a (12 + 8 * i) v) := by
  obtain ⟨h0, h1, h2, h3, h4, h5, h6, h7⟩ := hR
  have s3 : sSet (upN a (12 + 8 * i) v) 3 (a 4) = sSet a 3 (a 4) := sSet_cong _ (fun j hj => upN_n (by omega))
  have s6 : sSet (upN a (12 + 8 * i) v) 6 (a 4) = sSet a 6 (a 4) := sSet_cong _ (fun j hj => upN_n (by omega))
  refine ⟨by rw [qu_n (by decide), upN_n (by omega)]; exact h0, by rw [qu_n (by decide), upN_n (by omega)]; exact h1, by rw [qu_n (by decide), upN_n (by omega)]; exact h2, by rw [qu_n (by decide), upN_n (by omega)]; exact h3, by rw [qu_n (by decide), upN_n (by omega)]; exact h4, by rw [qu_n (by decide), upN4 (by omega), s3]; exact h5, by rw [qu_n (by decide), upN4 (by omega), s6]; exact h6, ?_⟩
  intro x hx
  rw [upN4 (by omega)] at hx
  have g := h7 x hx
  exact ⟨by rw [qu_n (by decide), upN_n (by omega)]; exact g.1, by rw [qu_n (by decide), upN_n (by omega)]; exact g.2.1, by rw [qu_n (by decide), upN_n (by omega)]; exact g.2.2.1, by rw [qu_n (by decide), upN_n (by omega)]; exact g.2.2.2.1, by rw [qu_n (by decide), upN_n (by omega)]; exact g.2.2.2.2.1, by
      rw [qu_s]
      by_cases e : x = i
      · subst e; rw [pk_us, upN_s]
      · rw [pk_un e, upN_n (by omega)]; exact g.2.2.2.2.2⟩
theorem cR_sec {R : Nat → Nat → Int32} {a : Nat → Nat} {v : Nat} (hR : cRel R a) : cRel (q_up R 0 0 (nI v)) (upN a 0 v) := by
  obtain ⟨h0, h1, h2, h3, h4, h5, h6, h7⟩ := hR
  have s3 : sSet (upN a 0 v) 3 (a 4) = sSet a 3 (a 4) := sSet_cong _ (fun j hj => upN_n (by omega))
  have s6 : sSet (upN a 0 v) 6 (a 4) = sSet a 6 (a 4) := sSet_cong _ (fun j hj => upN_n (by omega))
  refine ⟨by rw [qu_s, pk_us, upN_s], by rw [qu_s, pk_un (by decide), upN_n (by omega)]; exact h1, by rw [qu_s, pk_un (by decide), upN_n (by omega)]; exact h2, by rw [qu_s, pk_un (by decide), upN_n (by omega)]; exact h3, by rw [qu_s, pk_un (by decide), upN_n (by omega)]; exact h4, by rw [qu_s, pk_un (by decide), upN_n (by decide), s3]; exact h5, by rw [qu_s, pk_un (by decide), upN_n (by decide), s6]; exact h6, ?_⟩
  intro x hx
  rw [upN_n (by decide)] at hx
  have g := h7 x hx
  refine ⟨?_, ?_, ?_, ?_, ?_, ?_⟩ <;> rw [qu_n (by decide), upN_n (by omega)]
  · exact g.1
  · exact g.2.1
  · exact g.2.2.1
  · exact g.2.2.2.1
  · exact g.2.2.2.2.1
  · exact g.2.2.2.2.2
theorem cR_bear {R : Nat → Nat → Int32} {a : Nat → Nat} {v : Nat} (hR : cRel R a) : cRel (q_up R 0 1 (nI v)) (upN a 1 v) := by
  obtain ⟨h0, h1, h2, h3, h4, h5, h6, h7⟩ := hR
  have s3 : sSet (upN a 1 v) 3 (a 4) = sSet a 3 (a 4) := sSet_cong _ (fun j hj => upN_n (by omega))
  have s6 : sSet (upN a 1 v) 6 (a 4) = sSet a 6 (a 4) := sSet_cong _ (fun j hj => upN_n (by omega))
  refine ⟨by rw [qu_s, pk_un (by decide), upN_n (by omega)]; exact h0, by rw [qu_s, pk_us, upN_s], by rw [qu_s, pk_un (by decide), upN_n (by omega)]; exact h2, by rw [qu_s, pk_un (by decide), upN_n (by omega)]; exact h3, by rw [qu_s, pk_un (by decide), upN_n (by omega)]; exact h4, by rw [qu_s, pk_un (by decide), upN_n (by decide), s3]; exact h5, by rw [qu_s, pk_un (by decide), upN_n (by decide), s6]; exact h6, ?_⟩
  intro x hx
  rw [upN_n (by decide)] at hx
  have g := h7 x hx
  refine ⟨?_, ?_, ?_, ?_, ?_, ?_⟩ <;> rw [qu_n (by decide), upN_n (by omega)]
  · exact g.1
  · exact g.2.1
  · exact g.2.2.1
  · exact g.2.2.2.1
  · exact g.2.2.2.2.1
  · exact g.2.2.2.2.2
theorem cR_spd {R : Nat → Nat → Int32} {a : Nat → Nat} {v : Nat} (hR : cRel R a) : cRel (q_up R 0 2 (nI v)) (upN a 2 v) := by
  obtain ⟨h0, h1, h2, h3, h4, h5, h6, h7⟩ := hR
  have s3 : sSet (upN a 2 v) 3 (a 4) = sSet a 3 (a 4) := sSet_cong _ (fun j hj => upN_n (by omega))
  have s6 : sSet (upN a 2 v) 6 (a 4) = sSet a 6 (a 4) := sSet_cong _ (fun j hj => upN_n (by omega))
  refine ⟨by rw [qu_s, pk_un (by decide), upN_n (by omega)]; exact h0, by rw [qu_s, pk_un (by decide), upN_n (by omega)]; exact h1, by rw [qu_s, pk_us, upN_s], by rw [qu_s, pk_un (by decide), upN_n (by omega)]; exact h3, by rw [qu_s, pk_un (by decide), upN_n (by omega)]; exact h4, by rw [qu_s, pk_un (by decide), upN_n (by decide), s3]; exact h5, by rw [qu_s, pk_un (by decide), upN_n (by decide), s6]; exact h6, ?_⟩
  intro x hx
  rw [upN_n (by decide)] at hx
  have g := h7 x hx
  refine ⟨?_, ?_, ?_, ?_, ?_, ?_⟩ <;> rw [qu_n (by decide), upN_n (by omega)]
  · exact g.1
  · exact g.2.1
  · exact g.2.2.1
  · exact g.2.2.2.1
  · exact g.2.2.2.2.1
  · exact g.2.2.2.2.2
theorem cR_thk {R : Nat → Nat → Int32} {a : Nat → Nat} {v : Nat} (hR : cRel R a) : cRel (q_up R 0 3 (nI v)) (upN a 3 v) := by
  obtain ⟨h0, h1, h2, h3, h4, h5, h6, h7⟩ := hR
  have s3 : sSet (upN a 3 v) 3 (a 4) = sSet a 3 (a 4) := sSet_cong _ (fun j hj => upN_n (by omega))
  have s6 : sSet (upN a 3 v) 6 (a 4) = sSet a 6 (a 4) := sSet_cong _ (fun j hj => upN_n (by omega))
  refine ⟨by rw [qu_s, pk_un (by decide), upN_n (by omega)]; exact h0, by rw [qu_s, pk_un (by decide), upN_n (by omega)]; exact h1, by rw [qu_s, pk_un (by decide), upN_n (by omega)]; exact h2, by rw [qu_s, pk_us, upN_s], by rw [qu_s, pk_un (by decide), upN_n (by omega)]; exact h4, by rw [qu_s, pk_un (by decide), upN_n (by decide), s3]; exact h5, by rw [qu_s, pk_un (by decide), upN_n (by decide), s6]; exact h6, ?_⟩
  intro x hx
  rw [upN_n (by decide)] at hx
  have g := h7 x hx
  refine ⟨?_, ?_, ?_, ?_, ?_, ?_⟩ <;> rw [qu_n (by decide), upN_n (by omega)]
  · exact g.1
  · exact g.2.1
  · exact g.2.2.1
  · exact g.2.2.2.1
  · exact g.2.2.2.2.1
  · exact g.2.2.2.2.2
theorem cR_on {R : Nat → Nat → Int32} {a : Nat → Nat} {i v : Nat} (hR : cRel R a) (hi : i < a 4) : cRel (q_up R 0 5 (nI (sSet (upN a (8 + 8 * i) v) 3 (a 4)))) (upN a (8 + 8 * i) v) := by
  obtain ⟨h0, h1, h2, h3, h4, h5, h6, h7⟩ := hR
  have so : sSet (upN a (8 + 8 * i) v) 6 (a 4) = sSet a 6 (a 4) := sSet_cong _ (fun j hj => upN_n (by omega))
  refine ⟨by rw [qu_s, pk_un (by decide), upN_n (by omega)]; exact h0, by rw [qu_s, pk_un (by decide), upN_n (by omega)]; exact h1, by rw [qu_s, pk_un (by decide), upN_n (by omega)]; exact h2, by rw [qu_s, pk_un (by decide), upN_n (by omega)]; exact h3, by rw [qu_s, pk_un (by decide), upN_n (by omega)]; exact h4, by rw [qu_s, pk_us, upN4 (by omega)], by rw [qu_s, pk_un (by decide), upN4 (by omega), so]; exact h6, ?_⟩
  intro x hx
  rw [upN4 (by omega)] at hx
  have g := h7 x hx
  refine ⟨?_, ?_, ?_, ?_, ?_, ?_⟩ <;> rw [qu_n (by decide), upN_n (by omega)]
  · exact g.1
  · exact g.2.1
  · exact g.2.2.1
  · exact g.2.2.2.1
  · exact g.2.2.2.2.1
  · exact g.2.2.2.2.2
theorem cR_lost {R : Nat → Nat → Int32} {a : Nat → Nat} {i v : Nat} (hR : cRel R a) (hi : i < a 4) : cRel (q_up R 0 6 (nI (sSet (upN a (11 + 8 * i) v) 6 (a 4)))) (upN a (11 + 8 * i) v) := by
  obtain ⟨h0, h1, h2, h3, h4, h5, h6, h7⟩ := hR
  have so : sSet (upN a (11 + 8 * i) v) 3 (a 4) = sSet a 3 (a 4) := sSet_cong _ (fun j hj => upN_n (by omega))
  refine ⟨by rw [qu_s, pk_un (by decide), upN_n (by omega)]; exact h0, by rw [qu_s, pk_un (by decide), upN_n (by omega)]; exact h1, by rw [qu_s, pk_un (by decide), upN_n (by omega)]; exact h2, by rw [qu_s, pk_un (by decide), upN_n (by omega)]; exact h3, by rw [qu_s, pk_un (by decide), upN_n (by omega)]; exact h4, by rw [qu_s, pk_un (by decide), upN4 (by omega), so]; exact h5, by rw [qu_s, pk_us, upN4 (by omega)], ?_⟩
  intro x hx
  rw [upN4 (by omega)] at hx
  have g := h7 x hx
  refine ⟨?_, ?_, ?_, ?_, ?_, ?_⟩ <;> rw [qu_n (by decide), upN_n (by omega)]
  · exact g.1
  · exact g.2.1
  · exact g.2.2.1
  · exact g.2.2.2.1
  · exact g.2.2.2.2.1
  · exact g.2.2.2.2.2
