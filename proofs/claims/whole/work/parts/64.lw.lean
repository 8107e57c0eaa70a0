def R_law : String := "BeamSeatsLaw"
def lw_P (b : Addr) (xs : List Int32) (args : Array Value) (s : State) : Prop := args = #[.ref b] ∧ s.IntsAt b xs ∧ xs.length ≤ 3072 ∧ (Jvm.Cond.and given_1 narrow_1).before args s = true
def lw_Q (_ : Array Value) (s : State) (o : Outcome) (t : State) : Prop := o = .returned (some (.int 1)) ∧ Framed s o t [] 600000 7302250
def lw_Z (below : List Frame) (a : Array Value) (s : State) : State → Prop := fun t => ∃ o, t.status = .running ∧ Ended t below o ∧ lw_Q a s o t
/-- the law's own end, with 1 on the stack, nothing written that was there before, its room as the claim has it -/
theorem lw_ret {p : Program} {l : Launch} {e : Env} {s : State} {m : MethodId} {below : List Frame} {meth : Method} {c : Code} {b : Nat} (hx : p.tables.exec = Jvm.exec) (hb : c.code = code) (hr : meth.sig.returnType = ret) (hlocks : meth.locks = false) {pc : Nat} {H : Heap} {ls : Array Slot} (hdg : decode code pc = .ok (.ireturn, 1)) : W p l e room_1 s m #[Value.ref b] below meth c H [] 600000 7302250 (lw_Z below #[Value.ref b] s) (F0 m pc ls [.int 1]) := by
  intro T hT X
  obtain ⟨fs, hret, hrun, hended, hW, hframe⟩ := X.leave (v := some (.int 1)) (hlocks := hlocks) (fun h => by rw [hr] at h; cases h)
  have hmeth' : T.vm.method? m = some meth := X.method'
  refine ⟨T.setFrames fs, ?_, .returned (some (.int 1)), hrun, hended, rfl, ⟨_, rfl⟩, hW, hframe⟩
  jvm_step X.here [X.here.top, hx, hb, hdg, hmeth', hr, ret, narrow_b1]
  (try refine ⟨rfl, ?_⟩); (try refine ⟨rfl, ?_⟩)
  first | (intro acts; rw [hret _ acts rfl rfl rfl]) | rw [hret _ _ rfl rfl rfl]
  exact Steps.refl _
/-- what holds at the law's entry: the machine, the code, the tables' words (any of lw_tbl by 'hts w (by decide +kernel)'), the script of L ints xs at the cell b, what the Statement gives of the start (any of its parts by flat_of_before) -/
def lw_At (p : Program) (s : State) (m : MethodId) (meth : Method) (c : Code) (b L : Nat) (xs : Nat → Int32) : Prop :=
  p.tables.exec = Jvm.exec ∧ c.code = code ∧ meth.sig.returnType = ret ∧ c.maxLocals = 4 ∧ s.vm.findClass R_law = some m.cls ∧ (∀ w ∈ lw_tbl, w.before #[Value.ref b] s = true) ∧ va_X b L xs s s.heap ∧ b < s.heap.size ∧ meth.locks = false ∧ (Jvm.Cond.and given_1 narrow_1).before #[Value.ref b] s = true
/-! ===== the law: two worlds side by side ===== -/
theorem D_congr {A : Nat → Prop} {w w' : va_W} (h : va_D A w) (e : w'.map (·.1) = w.map (·.1)) : va_D A w' := by
  have at' : ∀ (k : Nat) (p : Nat × va_E), w'[k]? = some p → ∃ q, w[k]? = some q ∧ q.1 = p.1 := by
    intro k p hp
    have h1 : (w'.map (·.1))[k]? = some p.1 := by rw [List.getElem?_map, hp]; rfl
    rw [e, List.getElem?_map] at h1
    cases hq : w[k]? with
    | none => rw [hq] at h1; cases h1
    | some q => rw [hq] at h1; exact ⟨q, rfl, Option.some.inj h1⟩
  refine ⟨fun i j p q hi hj he => ?_, fun k p hp => ?_⟩
  · obtain ⟨p', h1, h2⟩ := at' i p hi
    obtain ⟨q', h3, h4⟩ := at' j q hj
    exact h.1 i j p' q' h1 h3 (by rw [h2, h4]; exact he)
  · obtain ⟨q, h1, h2⟩ := at' k p hp
    rw [← h2]
    exact h.2 k q h1
theorem D_left {A : Nat → Prop} {w1 w2 : va_W} (h : va_D A (w1 ++ w2)) : va_D A w1 := by
  have up : ∀ (k : Nat) (p : Nat × va_E), w1[k]? = some p → (w1 ++ w2)[k]? = some p := fun k p hp => by rw [List.getElem?_append_left (List.getElem?_eq_some_iff.mp hp).1]; exact hp
  exact ⟨fun i j p q hi hj he => h.1 i j p q (up i p hi) (up j q hj) he, fun k p hp => h.2 k p (up k p hp)⟩
theorem D_rt {w1 w2 : va_W} {k : Nat} {p : Nat × va_E} (hp : w2[k]? = some p) : (w1 ++ w2)[w1.length + k]? = some p := by
  rw [List.getElem?_append_right (by omega), show w1.length + k - w1.length = k by omega]; exact hp
theorem D_right {A : Nat → Prop} {w1 w2 : va_W} (h : va_D A (w1 ++ w2)) : va_D A w2 := by
  refine ⟨fun i j p q hi hj he => ?_, fun k p hp => h.2 _ p (D_rt hp)⟩
  have := h.1 _ _ p q (D_rt (w1 := w1) hi) (D_rt (w1 := w1) hj) he
  omega
theorem D_apart {A : Nat → Prop} {w1 w2 : va_W} (h : va_D A (w1 ++ w2)) {i j : Nat} {p q : Nat × va_E} (hi : w1[i]? = some p) (hj : w2[j]? = some q) : p.1 ≠ q.1 := by
  intro e
  have hl := (List.getElem?_eq_some_iff.mp hi).1
  have := h.1 i (w1.length + j) p q (by rw [List.getElem?_append_left hl]; exact hi) (D_rt hj) e
  omega
theorem P_keep2 {A : Nat → Prop} {D : va_G} {cl : List vw_C} {w1 w2 : va_W} {H H1 : Heap} (hP : va_P D cl w2 H) (hD : va_D A (w1 ++ w2)) (hk : ∀ q : Nat, q < H.size → ¬ va_A w1 H.size q → H1[q]? = H[q]?) : va_P D cl w2 H1 := by
  intro k q hq
  have hat := hP k q hq
  refine hat.kept (hk q.1 hat.lt ?_)
  rintro (⟨i, e, hi⟩ | hz)
  · exact D_apart hD hi hq rfl
  · exact absurd hat.lt (Nat.not_lt.mpr hz)
theorem P_keep1 {A : Nat → Prop} {D : va_G} {cl : List vw_C} {w1 w2 : va_W} {H H1 : Heap} (hP : va_P D cl w1 H) (hD : va_D A (w1 ++ w2)) (hk : ∀ q : Nat, q < H.size → ¬ va_A w2 H.size q → H1[q]? = H[q]?) : va_P D cl w1 H1 := by
  intro k q hq
  have hat := hP k q hq
  refine hat.kept (hk q.1 hat.lt ?_)
  rintro (⟨i, e, hi⟩ | hz)
  · exact D_apart hD hq hi rfl
  · exact absurd hat.lt (Nat.not_lt.mpr hz)
section Q2
variable {p : Program} {l : Launch} {e : Env} {R : Room} {s : State} {m : MethodId} {args : Array Value} {below : List Frame} {meth : Method} {c : Code} {H : Heap} {locs : List Loc} {cells slots : Nat} {Q : State → Prop} {pc : Nat} {ls : Array Slot} {rest st0 : List Value} {a : Array Value} {D : va_G} {y : Nat → ClassId} {w1 w1' w2 w2' : va_W} {A : Nat → Prop}
theorem q_ci1 {r : Int32} (hr : va_Run p l e R s m args below meth c H locs cells slots 0 0 (F0 m pc ls st0) rest (pQi D y r w1' (va_A w1 H.size) a) (va_A w1 H.size)) (hD : va_D A (w1 ++ w2)) (hP2 : va_P D vwCl w2 H) (hA : ∀ q : Nat, s.heap.size ≤ q → A q) (hS : va_S A s.heap H locs)
    (kk : ∀ (H1 : Heap) (locs1 : List Loc), va_P D vwCl w1' H1 → va_P D vwCl w2 H1 → va_S A s.heap H1 locs1 → W p l e R s m args below meth c H1 locs1 cells slots Q (F0 m (pc + 3) ls (.int r :: rest))) : W p l e R s m args below meth c H locs cells slots Q (F0 m pc ls st0) := by
  have hF := q_free0 (D_left hD) hA hS
  refine va_calli hr hS (fun q _ h => hF q h) hF (fun r1 u t1 H1 locs1 ht hvm hw hB hz1 hk1 hS1 => ?_)
  obtain ⟨hP1, -, -⟩ := hB
  rw [ht] at hP1
  have hw : r1 = r := hw
  subst hw
  exact kk H1 locs1 hP1 (P_keep2 hP2 hD hk1) hS1
theorem q_cl1 {r : Int64} (hr : va_Run p l e R s m args below meth c H locs cells slots 0 0 (F0 m pc ls st0) rest (pQl D y r w1' (va_A w1 H.size) a) (va_A w1 H.size)) (hD : va_D A (w1 ++ w2)) (hP2 : va_P D vwCl w2 H) (hA : ∀ q : Nat, s.heap.size ≤ q → A q) (hS : va_S A s.heap H locs)
    (kk : ∀ (H1 : Heap) (locs1 : List Loc), va_P D vwCl w1' H1 → va_P D vwCl w2 H1 → va_S A s.heap H1 locs1 → W p l e R s m args below meth c H1 locs1 cells slots Q (F0 m (pc + 3) ls (.long r :: rest))) : W p l e R s m args below meth c H locs cells slots Q (F0 m pc ls st0) := by
  have hF := q_free0 (D_left hD) hA hS
  refine va_calll hr hS (fun q _ h => hF q h) hF (fun r1 u t1 H1 locs1 ht hvm hw hB hz1 hk1 hS1 => ?_)
  obtain ⟨hP1, -, -⟩ := hB
  rw [ht] at hP1
  have hw : r1 = r := hw
  subst hw
  exact kk H1 locs1 hP1 (P_keep2 hP2 hD hk1) hS1
theorem q_ci2 {r : Int32} (hr : va_Run p l e R s m args below meth c H locs cells slots 0 0 (F0 m pc ls st0) rest (pQi D y r w2' (va_A w2 H.size) a) (va_A w2 H.size)) (hD : va_D A (w1 ++ w2)) (hP1 : va_P D vwCl w1 H) (hA : ∀ q : Nat, s.heap.size ≤ q → A q) (hS : va_S A s.heap H locs)
    (kk : ∀ (H1 : Heap) (locs1 : List Loc), va_P D vwCl w1 H1 → va_P D vwCl w2' H1 → va_S A s.heap H1 locs1 → W p l e R s m args below meth c H1 locs1 cells slots Q (F0 m (pc + 3) ls (.int r :: rest))) : W p l e R s m args below meth c H locs cells slots Q (F0 m pc ls st0) := by
  have hF := q_free0 (D_right hD) hA hS
  refine va_calli hr hS (fun q _ h => hF q h) hF (fun r1 u t1 H1 locs1 ht hvm hw hB hz1 hk1 hS1 => ?_)
  obtain ⟨hP2, -, -⟩ := hB
  rw [ht] at hP2
  have hw : r1 = r := hw
  subst hw
  exact kk H1 locs1 (P_keep1 hP1 hD hk1) hP2 hS1
theorem q_cl2 {r : Int64} (hr : va_Run p l e R s m args below meth c H locs cells slots 0 0 (F0 m pc ls st0) rest (pQl D y r w2' (va_A w2 H.size) a) (va_A w2 H.size)) (hD : va_D A (w1 ++ w2)) (hP1 : va_P D vwCl w1 H) (hA : ∀ q : Nat, s.heap.size ≤ q → A q) (hS : va_S A s.heap H locs)
    (kk : ∀ (H1 : Heap) (locs1 : List Loc), va_P D vwCl w1 H1 → va_P D vwCl w2' H1 → va_S A s.heap H1 locs1 → W p l e R s m args below meth c H1 locs1 cells slots Q (F0 m (pc + 3) ls (.long r :: rest))) : W p l e R s m args below meth c H locs cells slots Q (F0 m pc ls st0) := by
  have hF := q_free0 (D_right hD) hA hS
  refine va_calll hr hS (fun q _ h => hF q h) hF (fun r1 u t1 H1 locs1 ht hvm hw hB hz1 hk1 hS1 => ?_)
  obtain ⟨hP2, -, -⟩ := hB
  rw [ht] at hP2
  have hw : r1 = r := hw
  subst hw
  exact kk H1 locs1 (P_keep1 hP1 hD hk1) hP2 hS1
end Q2
def AA (s : State) : Nat → Prop := fun q => s.heap.size ≤ q
theorem AA_ok {s : State} : ∀ q : Nat, s.heap.size ≤ q → AA s q := fun _ h => h
theorem vIn {i L : Nat} (hi : i + 6 ≤ L) (hL : L ≤ 3072) (j : Nat) (hj : j < 6) : vp_in (nI i + nI j) L := by
  rw [nI_add]
  exact vp_in_nI (by omega) (by omega)
/-- what stays the same while the law runs -/
def LC (p : Program) (s : State) (m : MethodId) (meth : Method) (c : Code) (a0 L : Nat) (xs : Nat → Int32) (D : va_G) (y : Nat → ClassId) (t q q' : Nat → Nat) : Prop :=
  p.tables.exec = Jvm.exec ∧ c.code = cL_law ∧ meth.sig.returnType = ret ∧ c.maxLocals = 4 ∧ s.vm.findClass RL = some m.cls ∧ (∀ w ∈ wsL_law, w.before #[Value.ref a0] s = true) ∧ va_X a0 L xs s s.heap ∧ a0 < s.heap.size ∧ meth.locks = false ∧ va_K D vwCl (TYs y) s ∧ ZZ t (AA s) s s.heap ∧ ∀ (b R T K P B : Nat → Nat → Int32) (M : Nat → Nat → Int64) (F : Nat → Nat → Int32) (G : Nat → Int64), va_D (AA s) (wB y q b R T K P B M ++ wM y q' F G)
def lwK (p : Program) (l : Launch) (e : Env) (s : State) (m : MethodId) (below : List Frame) (meth : Method) (c : Code) (a0 : Nat) (D : va_G) (y : Nat → ClassId) (q q' : Nat → Nat) (ls : Array Slot) : Prop :=
  ∀ (b R T K P B : Nat → Nat → Int32) (M : Nat → Nat → Int64) (F : Nat → Nat → Int32) (G : Nat → Int64) (H : Heap) (locs : List Loc), gRel b R K P B M F G → va_P D vwCl (wB y q b R T K P B M) H → va_P D vwCl (wM y q' F G) H → va_S (AA s) s.heap H locs → W p l e room_1 s m #[Value.ref a0] below meth c H locs 46 1380 (lw_Z below #[Value.ref a0] s) (F0 m 1325 ls [])
