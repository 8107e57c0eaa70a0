/-! worlds of the class -/
def wII (y : Nat → ClassId) (q : Nat → Nat) (F E : Nat → Nat → Int32) : va_W := [(q 0, .inr (0, [.int (F 0 0), .int (F 0 1), .int (F 0 2), .int (F 0 3), .int (F 0 4), .int (F 0 5), .int (F 0 6), .ref (q 1), .ref (q 2), .ref (q 3), .ref (q 4), .ref (q 5), .ref (q 6)])), (q 1, .inl (y 0, 8, .inl (F 1))), (q 2, .inl (y 0, 8, .inl (F 2))), (q 3, .inl (y 0, 8, .inl (F 3))), (q 4, .inl (y 0, 8, .inl (F 4))), (q 5, .inl (y 0, 8, .inl (F 5))), (q 6, .inl (y 0, 8, .inl (F 6))), (q 7, .inr (0, [.int (E 0 0), .int (E 0 1), .int (E 0 2), .int (E 0 3), .int (E 0 4), .int (E 0 5), .int (E 0 6), .ref (q 8), .ref (q 9), .ref (q 10), .ref (q 11), .ref (q 12), .ref (q 13)])), (q 8, .inl (y 0, 8, .inl (E 1))), (q 9, .inl (y 0, 8, .inl (E 2))), (q 10, .inl (y 0, 8, .inl (E 3))), (q 11, .inl (y 0, 8, .inl (E 4))), (q 12, .inl (y 0, 8, .inl (E 5))), (q 13, .inl (y 0, 8, .inl (E 6)))]
def wS (y : Nat → ClassId) (q : Nat → Nat) (B : Nat → Int32) (L : Nat → Int64) : va_W := [(q 0, .inr (1, [.int (B 0), .int (B 1), .ref (q 1)])), (q 1, .inl (y 2, 40, .inr (.inl L)))]
def wT (y : Nat → ClassId) (q : Nat → Nat) (P : Nat → Nat → Int32) : va_W := [(q 0, .inr (2, [.ref (q 1), .int (P 0 0), .ref (q 2), .ref (q 3), .ref (q 4), .int (P 0 1), .int (P 0 2)])), (q 1, .inl (y 1, 120, .inl (P 1))), (q 2, .inl (y 0, 121, .inl (P 2))), (q 3, .inl (y 0, 121, .inl (P 3))), (q 4, .inl (y 0, 121, .inl (P 4)))]
def wTI (y : Nat → ClassId) (q : Nat → Nat) (P F : Nat → Nat → Int32) : va_W := [(q 0, .inr (2, [.ref (q 1), .int (P 0 0), .ref (q 2), .ref (q 3), .ref (q 4), .int (P 0 1), .int (P 0 2)])), (q 1, .inl (y 1, 120, .inl (P 1))), (q 2, .inl (y 0, 121, .inl (P 2))), (q 3, .inl (y 0, 121, .inl (P 3))), (q 4, .inl (y 0, 121, .inl (P 4))), (q 5, .inr (0, [.int (F 0 0), .int (F 0 1), .int (F 0 2), .int (F 0 3), .int (F 0 4), .int (F 0 5), .int (F 0 6), .ref (q 6), .ref (q 7), .ref (q 8), .ref (q 9), .ref (q 10), .ref (q 11)])), (q 6, .inl (y 0, 8, .inl (F 1))), (q 7, .inl (y 0, 8, .inl (F 2))), (q 8, .inl (y 0, 8, .inl (F 3))), (q 9, .inl (y 0, 8, .inl (F 4))), (q 10, .inl (y 0, 8, .inl (F 5))), (q 11, .inl (y 0, 8, .inl (F 6)))]
def wTR (y : Nat → ClassId) (q : Nat → Nat) (P : Nat → Nat → Int32) (E : Nat → Int32) : va_W := [(q 0, .inr (2, [.ref (q 1), .int (P 0 0), .ref (q 2), .ref (q 3), .ref (q 4), .int (P 0 1), .int (P 0 2)])), (q 1, .inl (y 1, 120, .inl (P 1))), (q 2, .inl (y 0, 121, .inl (P 2))), (q 3, .inl (y 0, 121, .inl (P 3))), (q 4, .inl (y 0, 121, .inl (P 4))), (q 5, .inl (y 0, 8, .inl E))]
def wA1 (y : Nat → ClassId) (q : Nat → Nat) (n0 : Nat) (E : Nat → Int32) : va_W := [(q 0, .inl (y 0, n0, .inl E))]
def wB (y : Nat → ClassId) (q : Nat → Nat) (b R T K P B : Nat → Nat → Int32) (L : Nat → Nat → Int64) : va_W := [(q 0, .inr (3, [.ref (q 1), .ref (q 8), .ref (q 15), .int (b 0 0), .ref (q 22), .ref (q 27), .ref (q 36)])), (q 1, .inr (0, [.int (R 0 0), .int (R 0 1), .int (R 0 2), .int (R 0 3), .int (R 0 4), .int (R 0 5), .int (R 0 6), .ref (q 2), .ref (q 3), .ref (q 4), .ref (q 5), .ref (q 6), .ref (q 7)])), (q 2, .inl (y 0, 8, .inl (R 1))), (q 3, .inl (y 0, 8, .inl (R 2))), (q 4, .inl (y 0, 8, .inl (R 3))), (q 5, .inl (y 0, 8, .inl (R 4))), (q 6, .inl (y 0, 8, .inl (R 5))), (q 7, .inl (y 0, 8, .inl (R 6))), (q 8, .inr (0, [.int (T 0 0), .int (T 0 1), .int (T 0 2), .int (T 0 3), .int (T 0 4), .int (T 0 5), .int (T 0 6), .ref (q 9), .ref (q 10), .ref (q 11), .ref (q 12), .ref (q 13), .ref (q 14)])), (q 9, .inl (y 0, 8, .inl (T 1))), (q 10, .inl (y 0, 8, .inl (T 2))), (q 11, .inl (y 0, 8, .inl (T 3))), (q 12, .inl (y 0, 8, .inl (T 4))), (q 13, .inl (y 0, 8, .inl (T 5))), (q 14, .inl (y 0, 8, .inl (T 6))), (q 15, .inr (0, [.int (K 0 0), .int (K 0 1), .int (K 0 2), .int (K 0 3), .int (K 0 4), .int (K 0 5), .int (K 0 6), .ref (q 16), .ref (q 17), .ref (q 18), .ref (q 19), .ref (q 20), .ref (q 21)])), (q 16, .inl (y 0, 8, .inl (K 1))), (q 17, .inl (y 0, 8, .inl (K 2))), (q 18, .inl (y 0, 8, .inl (K 3))), (q 19, .inl (y 0, 8, .inl (K 4))), (q 20, .inl (y 0, 8, .inl (K 5))), (q 21, .inl (y 0, 8, .inl (K 6))), (q 22, .inr (2, [.ref (q 23), .int (P 0 0), .ref (q 24), .ref (q 25), .ref (q 26), .int (P 0 1), .int (P 0 2)])), (q 23, .inl (y 1, 120, .inl (P 1))), (q 24, .inl (y 0, 121, .inl (P 2))), (q 25, .inl (y 0, 121, .inl (P 3))), (q 26, .inl (y 0, 121, .inl (P 4))), (q 27, .inl (y 3, 4, .inr (.inr (.inr (.inr (fun i => some (q (28 + 2 * i)))))))), (q 28, .inr (1, [.int (B 0 0), .int (B 0 1), .ref (q 29)])), (q 29, .inl (y 2, 40, .inr (.inl (L 0)))), (q 30, .inr (1, [.int (B 1 0), .int (B 1 1), .ref (q 31)])), (q 31, .inl (y 2, 40, .inr (.inl (L 1)))), (q 32, .inr (1, [.int (B 2 0), .int (B 2 1), .ref (q 33)])), (q 33, .inl (y 2, 40, .inr (.inl (L 2)))), (q 34, .inr (1, [.int (B 3 0), .int (B 3 1), .ref (q 35)])), (q 35, .inl (y 2, 40, .inr (.inl (L 3)))), (q 36, .inl (y 0, 7, .inl (b 1)))]
theorem sh_o {y : Nat → ClassId} {q : Nat → Nat} {b R T K P B : Nat → Nat → Int32} {L : Nat → Nat → Int64} {j : Nat} (hj : j < 4) : (wB y q b R T K P B L)[28 + 2 * j]? = some (q (28 + 2 * j), .inr (1, [.int (B j 0), .int (B j 1), .ref (q (29 + 2 * j))])) :=
  match j, hj with
  | 0, _ => rfl
  | 1, _ => rfl
  | 2, _ => rfl
  | 3, _ => rfl
theorem sh_n {y : Nat → ClassId} {q : Nat → Nat} {b R T K P B : Nat → Nat → Int32} {L : Nat → Nat → Int64} {j : Nat} (hj : j < 4) : (wB y q b R T K P B L)[29 + 2 * j]? = some (q (29 + 2 * j), .inl (y 2, 40, .inr (.inl (L j)))) :=
  match j, hj with
  | 0, _ => rfl
  | 1, _ => rfl
  | 2, _ => rfl
  | 3, _ => rfl
theorem sh_setn {y : Nat → ClassId} {q : Nat → Nat} {b R T K P B : Nat → Nat → Int32} {L : Nat → Nat → Int64} {j : Nat} (hj : j < 4) (v : Nat → Int64) : (wB y q b R T K P B L).set (29 + 2 * j) (q (29 + 2 * j), .inl (y 2, 40, .inr (.inl v))) = wB y q b R T K P B (va_up L j v) :=
  match j, hj with
  | 0, _ => rfl
  | 1, _ => rfl
  | 2, _ => rfl
  | 3, _ => rfl
theorem sh_cut {y : Nat → ClassId} {q : Nat → Nat} {b R T K P B : Nat → Nat → Int32} {L : Nat → Nat → Int64} {j : Nat} (hj : j < 4) : ([28 + 2 * j, 29 + 2 * j] : List Nat).map (fun i => (wB y q b R T K P B L)[i]?) = (wS y (fun k => q (k + (28 + 2 * j))) (B j) (L j)).map some :=
  match j, hj with
  | 0, _ => rfl
  | 1, _ => rfl
  | 2, _ => rfl
  | 3, _ => rfl
theorem sh_nd (j : Nat) : ([28 + 2 * j, 29 + 2 * j] : List Nat).Nodup := by
  refine List.nodup_cons.mpr ⟨?_, List.nodup_cons.mpr ⟨List.not_mem_nil, List.nodup_nil⟩⟩
  intro h
  have := List.mem_singleton.mp h
  omega
theorem sh_sets {y : Nat → ClassId} {q : Nat → Nat} {b R T K P B : Nat → Nat → Int32} {L : Nat → Nat → Int64} {j : Nat} (hj : j < 4) (b1 : Nat → Int32) (l1 : Nat → Int64) : q_sets (wB y q b R T K P B L) [28 + 2 * j, 29 + 2 * j] (wS y (fun k => q (k + (28 + 2 * j))) b1 l1) = wB y q b R T K P (va_up B j b1) (va_up L j l1) :=
  match j, hj with
  | 0, _ => rfl
  | 1, _ => rfl
  | 2, _ => rfl
  | 3, _ => rfl
theorem sh_setsL {y : Nat → ClassId} {q : Nat → Nat} {b R T K P B : Nat → Nat → Int32} {L : Nat → Nat → Int64} {j : Nat} (hj : j < 4) (l1 : Nat → Int64) : q_sets (wB y q b R T K P B L) [28 + 2 * j, 29 + 2 * j] (wS y (fun k => q (k + (28 + 2 * j))) (B j) l1) = wB y q b R T K P B (va_up L j l1) :=
  match j, hj with
  | 0, _ => rfl
  | 1, _ => rfl
  | 2, _ => rfl
  | 3, _ => rfl
theorem sh_sets0 {y : Nat → ClassId} {q : Nat → Nat} {b R T K P B : Nat → Nat → Int32} {L : Nat → Nat → Int64} {j : Nat} (hj : j < 4) : q_sets (wB y q b R T K P B L) [28 + 2 * j, 29 + 2 * j] (wS y (fun k => q (k + (28 + 2 * j))) (B j) (L j)) = wB y q b R T K P B L :=
  match j, hj with
  | 0, _ => rfl
  | 1, _ => rfl
  | 2, _ => rfl
  | 3, _ => rfl
/-- a copy of n numbers within rows of 40 -/
def q_cp {β : Type} (sp dp n : Int32) (k : Option β) : Option β := if ¬ sp < 0 ∧ ¬ dp < 0 ∧ ¬ n < 0 ∧ sp.toNatClampNeg + n.toNatClampNeg ≤ 40 ∧ dp.toNatClampNeg + n.toNatClampNeg ≤ 40 then k else none
theorem q_cp_ok {β : Type} {sp dp n : Int32} {k : Option β} {r : β} (h : q_cp sp dp n k = some r) : (¬ sp < 0 ∧ ¬ dp < 0 ∧ ¬ n < 0 ∧ sp.toNatClampNeg + n.toNatClampNeg ≤ 40 ∧ dp.toNatClampNeg + n.toNatClampNeg ≤ 40) ∧ k = some r := by
  unfold q_cp at h
  by_cases c : ¬ sp < 0 ∧ ¬ dp < 0 ∧ ¬ n < 0 ∧ sp.toNatClampNeg + n.toNatClampNeg ≤ 40 ∧ dp.toNatClampNeg + n.toNatClampNeg ≤ 40
  · rw [if_pos c] at h; exact ⟨c, h⟩
  · rw [if_neg c] at h; cases h
