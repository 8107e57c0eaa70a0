/-! a call whose callee's world is the caller's whole world -/
section QS
variable {p : Program} {l : Launch} {e : Env} {R : Room} {s : State} {m : MethodId} {args : Array Value} {below : List Frame} {meth : Method} {c : Code} {H : Heap} {locs : List Loc} {cells slots : Nat} {Q : State → Prop} {pc : Nat} {ls : Array Slot} {rest st0 : List Value} {a : Array Value} {D : va_G} {y : Nat → ClassId} {t : Nat → Nat} {w w' : va_W} {A : Nat → Prop}
theorem q_free0 (hD : va_D A w) (hA : ∀ q : Nat, s.heap.size ≤ q → A q) (hS : va_S A s.heap H locs) : ∀ q, va_A w H.size q → A q := by
  intro q h
  rcases h with ⟨k, e, h⟩ | h
  · exact hD.2 k (q, e) h
  · exact hA q (Nat.le_trans hS.1 h)
theorem q_pre0 {av : List Value} (hP : va_P D vwCl w H) (hK : va_K D vwCl (TYs y) s) (hZ : ZZ t A s s.heap) (hD : va_D A w) (hA : ∀ q : Nat, s.heap.size ≤ q → A q) (hS : va_S A s.heap H locs) : ∀ U : State, U.heap = H → s.WarmedH U.vm → pPre D y t av w H.size av.toArray U := by
  intro U hU hW
  have hF := q_free0 hD hA hS
  exact ⟨rfl, by rw [hU], by rw [hU]; exact hP, va_K.moved hW.alike hK, by rw [hU]; exact ((hZ.kept hS.2.1).narrow hF).warm hW, hD.1, fun _ _ _ => trivial⟩
theorem q_ci0 {r : Int32} (hr : va_Run p l e R s m args below meth c H locs cells slots 0 0 (F0 m pc ls st0) rest (pQi D y r w' (va_A w H.size) a) (va_A w H.size)) (hD : va_D A w) (hA : ∀ q : Nat, s.heap.size ≤ q → A q) (hS : va_S A s.heap H locs)
    (kk : ∀ (H1 : Heap) (locs1 : List Loc), va_P D vwCl w' H1 → va_D A w' → va_S A s.heap H1 locs1 → W p l e R s m args below meth c H1 locs1 cells slots Q (F0 m (pc + 3) ls (.int r :: rest))) : W p l e R s m args below meth c H locs cells slots Q (F0 m pc ls st0) := by
  have hF := q_free0 hD hA hS
  refine va_calli hr hS (fun q _ h => hF q h) hF (fun r1 u t1 H1 locs1 ht hvm hw hB hz1 hk1 hS1 => ?_)
  obtain ⟨hP1, -, hD1⟩ := hB
  rw [ht] at hP1
  have hw : r1 = r := hw
  subst hw
  exact kk H1 locs1 hP1 (hD1.weaken (fun _ _ _ h => hF _ h)) hS1
theorem q_cl0 {r : Int64} (hr : va_Run p l e R s m args below meth c H locs cells slots 0 0 (F0 m pc ls st0) rest (pQl D y r w' (va_A w H.size) a) (va_A w H.size)) (hD : va_D A w) (hA : ∀ q : Nat, s.heap.size ≤ q → A q) (hS : va_S A s.heap H locs)
    (kk : ∀ (H1 : Heap) (locs1 : List Loc), va_P D vwCl w' H1 → va_D A w' → va_S A s.heap H1 locs1 → W p l e R s m args below meth c H1 locs1 cells slots Q (F0 m (pc + 3) ls (.long r :: rest))) : W p l e R s m args below meth c H locs cells slots Q (F0 m pc ls st0) := by
  have hF := q_free0 hD hA hS
  refine va_calll hr hS (fun q _ h => hF q h) hF (fun r1 u t1 H1 locs1 ht hvm hw hB hz1 hk1 hS1 => ?_)
  obtain ⟨hP1, -, hD1⟩ := hB
  rw [ht] at hP1
  have hw : r1 = r := hw
  subst hw
  exact kk H1 locs1 hP1 (hD1.weaken (fun _ _ _ h => hF _ h)) hS1
theorem q_cv0 (hr : va_Run p l e R s m args below meth c H locs cells slots 0 0 (F0 m pc ls st0) rest (pQv D y w' (va_A w H.size) a) (va_A w H.size)) (hD : va_D A w) (hA : ∀ q : Nat, s.heap.size ≤ q → A q) (hS : va_S A s.heap H locs)
    (kk : ∀ (H1 : Heap) (locs1 : List Loc), va_P D vwCl w' H1 → va_D A w' → va_S A s.heap H1 locs1 → W p l e R s m args below meth c H1 locs1 cells slots Q (F0 m (pc + 3) ls rest)) : W p l e R s m args below meth c H locs cells slots Q (F0 m pc ls st0) := by
  have hF := q_free0 hD hA hS
  refine va_callv hr hS (fun q _ h => hF q h) hF (fun u t1 H1 locs1 ht hvm hw hB hz1 hk1 hS1 => ?_)
  obtain ⟨hP1, -, hD1⟩ := hB
  rw [ht] at hP1
  exact kk H1 locs1 hP1 (hD1.weaken (fun _ _ _ h => hF _ h)) hS1
theorem q_cq0 {r : Option Nat} (hr : va_Run p l e R s m args below meth c H locs cells slots 0 0 (F0 m pc ls st0) rest (pQq D y r w' (va_A w H.size) a) (va_A w H.size)) (hD : va_D A w) (hA : ∀ q : Nat, s.heap.size ≤ q → A q) (hS : va_S A s.heap H locs)
    (kk : ∀ (H1 : Heap) (locs1 : List Loc), va_P D vwCl w' H1 → va_D A w' → va_S A s.heap H1 locs1 → W p l e R s m args below meth c H1 locs1 cells slots Q (F0 m (pc + 3) ls (va_rf r :: rest))) : W p l e R s m args below meth c H locs cells slots Q (F0 m pc ls st0) := by
  have hF := q_free0 hD hA hS
  refine va_callq hr hS (fun q _ h => hF q h) hF (fun r1 u t1 H1 locs1 ht hvm hw hB hz1 hk1 hS1 => ?_)
  obtain ⟨hP1, -, hD1⟩ := hB
  rw [ht] at hP1
  have hw : r1 = r := hw
  subst hw
  exact kk H1 locs1 hP1 (hD1.weaken (fun _ _ _ h => hF _ h)) hS1
end QS
/-! sheets: as sh_, with the address the other way about -/
theorem sk_cut {y : Nat → ClassId} {q : Nat → Nat} {b R T K P B : Nat → Nat → Int32} {L : Nat → Nat → Int64} {j : Nat} (hj : j < 4) : ([28 + 2 * j, 29 + 2 * j] : List Nat).map (fun i => (wB y q b R T K P B L)[i]?) = (wS y (fun k => q (28 + 2 * j + k)) (B j) (L j)).map some :=
  match j, hj with
  | 0, _ => rfl
  | 1, _ => rfl
  | 2, _ => rfl
  | 3, _ => rfl
theorem sk_sets {y : Nat → ClassId} {q : Nat → Nat} {b R T K P B : Nat → Nat → Int32} {L : Nat → Nat → Int64} {j : Nat} (hj : j < 4) (b1 : Nat → Int32) (l1 : Nat → Int64) : q_sets (wB y q b R T K P B L) [28 + 2 * j, 29 + 2 * j] (wS y (fun k => q (28 + 2 * j + k)) b1 l1) = wB y q b R T K P (va_up B j b1) (va_up L j l1) :=
  match j, hj with
  | 0, _ => rfl
  | 1, _ => rfl
  | 2, _ => rfl
  | 3, _ => rfl
theorem sk_setsL {y : Nat → ClassId} {q : Nat → Nat} {b R T K P B : Nat → Nat → Int32} {L : Nat → Nat → Int64} {j : Nat} (hj : j < 4) (l1 : Nat → Int64) : q_sets (wB y q b R T K P B L) [28 + 2 * j, 29 + 2 * j] (wS y (fun k => q (28 + 2 * j + k)) (B j) l1) = wB y q b R T K P B (va_up L j l1) :=
  match j, hj with
  | 0, _ => rfl
  | 1, _ => rfl
  | 2, _ => rfl
  | 3, _ => rfl
theorem sk_sets0 {y : Nat → ClassId} {q : Nat → Nat} {b R T K P B : Nat → Nat → Int32} {L : Nat → Nat → Int64} {j : Nat} (hj : j < 4) : q_sets (wB y q b R T K P B L) [28 + 2 * j, 29 + 2 * j] (wS y (fun k => q (28 + 2 * j + k)) (B j) (L j)) = wB y q b R T K P B L :=
  match j, hj with
  | 0, _ => rfl
  | 1, _ => rfl
  | 2, _ => rfl
  | 3, _ => rfl
