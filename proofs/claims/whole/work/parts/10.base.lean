/-! ===== base: pure words for walked methods, and rows that pack a start, an end and a call ===== -/
def q_let {α β : Type} (e : α) (k : α → β) : β := k e
def q_grd {β : Type} (i : Int32) (n : Nat) (k : Option β) : Option β := if i < 0 ∨ n ≤ i.toNatClampNeg then none else k
def q_nz {β : Type} (d : Int32) (k : Option β) : Option β := if d = 0 then none else k
def q_gb {β : Type} (v : Int32) (k : Option β) : Option β := if v = 0 ∨ v = 1 then k else none
def q_lt {β : Type} (i n : Nat) (k : Option β) : Option β := if i < n then k else none
def q_gc {β : Type} (v : Int32) (k : Option β) : Option β := if (v.toUInt32 % 65536).toInt32 = v then k else none
def q_bd {α β : Type} (x : Option α) (k : α → Option β) : Option β := match x with
  | none => none
  | some a => k a
def q_bd2 {α β γ : Type} (x : Option (α × β)) (k : α → β → Option γ) : Option γ := q_bd x (fun a => k a.1 a.2)
def q_bd3 {α β γ δ : Type} (x : Option (α × β × γ)) (k : α → β → γ → Option δ) : Option δ := q_bd x (fun a => k a.1 a.2.1 a.2.2)
def q_bd4 {α β γ δ ε : Type} (x : Option (α × β × γ × δ)) (k : α → β → γ → δ → Option ε) : Option ε := q_bd x (fun a => k a.1 a.2.1 a.2.2.1 a.2.2.2)
def q_bd5 {α β γ δ ε ζ : Type} (x : Option (α × β × γ × δ × ε)) (k : α → β → γ → δ → ε → Option ζ) : Option ζ := q_bd x (fun a => k a.1 a.2.1 a.2.2.1 a.2.2.2.1 a.2.2.2.2)
def q_bd6 {α β γ δ ε ζ η : Type} (x : Option (α × β × γ × δ × ε × ζ)) (k : α → β → γ → δ → ε → ζ → Option η) : Option η := q_bd x (fun a => k a.1 a.2.1 a.2.2.1 a.2.2.2.1 a.2.2.2.2.1 a.2.2.2.2.2)
theorem q_let_at {α β : Type} {x e : α} {k : α → Option β} {r : β} (ex : x = e) (h : q_let e k = some r) : k x = some r := by subst ex; exact h
theorem q_let_ok {α β : Type} {e : α} {k : α → Option β} {r : β} (h : q_let e k = some r) : ∃ x, x = e ∧ k x = some r := ⟨e, rfl, h⟩
theorem q_grd_ok {β : Type} {i : Int32} {n : Nat} {k : Option β} {r : β} (h : q_grd i n k = some r) : vp_in i n ∧ k = some r := by
  unfold q_grd at h
  by_cases c : i < 0 ∨ n ≤ i.toNatClampNeg
  · rw [if_pos c] at h; cases h
  · rw [if_neg c] at h; exact ⟨c, h⟩
theorem q_nz_ok {β : Type} {d : Int32} {k : Option β} {r : β} (h : q_nz d k = some r) : ¬ d = 0 ∧ k = some r := by
  unfold q_nz at h
  by_cases c : d = 0
  · rw [if_pos c] at h; cases h
  · rw [if_neg c] at h; exact ⟨c, h⟩
theorem q_gb_ok {β : Type} {v : Int32} {k : Option β} {r : β} (h : q_gb v k = some r) : (v = 0 ∨ v = 1) ∧ k = some r := by
  unfold q_gb at h
  by_cases c : v = 0 ∨ v = 1
  · rw [if_pos c] at h; exact ⟨c, h⟩
  · rw [if_neg c] at h; cases h
theorem q_lt_ok {β : Type} {i n : Nat} {k : Option β} {r : β} (h : q_lt i n k = some r) : i < n ∧ k = some r := by
  unfold q_lt at h
  by_cases c : i < n
  · rw [if_pos c] at h; exact ⟨c, h⟩
  · rw [if_neg c] at h; cases h
theorem q_gc_ok {β : Type} {v : Int32} {k : Option β} {r : β} (h : q_gc v k = some r) : (v.toUInt32 % 65536).toInt32 = v ∧ k = some r := by
  unfold q_gc at h
  by_cases c : (v.toUInt32 % 65536).toInt32 = v
  · rw [if_pos c] at h; exact ⟨c, h⟩
  · rw [if_neg c] at h; cases h
theorem q_gc_nar {v : Int32} (h : (v.toUInt32 % 65536).toInt32 = v) : narrow .char (.int v) = .int v := by
  rw [← h]; exact pk_nc v
theorem q_in_lt {i : Int32} {n : Nat} (h : vp_in i n) : i.toNatClampNeg < n := Nat.not_le.mp fun z => h (Or.inr z)
theorem q_zq {C n d : String} {A : Nat → Prop} {U : State} {H : Heap} (h : va_Zq C n d A U H) : ∃ o : Option Nat, va_Z C n d (va_rf o) A U H := by
  rcases h with h | ⟨a, h⟩
  · exact ⟨none, h⟩
  · exact ⟨some a, h⟩
theorem q_gb_nar {v : Int32} (h : v = 0 ∨ v = 1) : narrow .boolean (.int v) = .int v := by
  rcases h with rfl | rfl <;> rfl
theorem q_gb_fit {v : Int32} (h : v = 0 ∨ v = 1) : fits .boolean (.int v) = true := by
  rcases h with rfl | rfl <;> rfl
theorem q_bd_ok {α β : Type} {x : Option α} {k : α → Option β} {r : β} (h : q_bd x k = some r) : ∃ a, x = some a ∧ k a = some r := by
  cases x with
  | none => cases h
  | some a => exact ⟨a, rfl, h⟩
theorem q_bd2_ok {α β γ : Type} {x : Option (α × β)} {k : α → β → Option γ} {r : γ} (h : q_bd2 x k = some r) : ∃ a b, x = some (a, b) ∧ k a b = some r := by
  obtain ⟨⟨a, b⟩, h1, h2⟩ := q_bd_ok h
  exact ⟨a, b, h1, h2⟩
theorem q_bd3_ok {α β γ δ : Type} {x : Option (α × β × γ)} {k : α → β → γ → Option δ} {r : δ} (h : q_bd3 x k = some r) : ∃ a b c, x = some (a, b, c) ∧ k a b c = some r := by
  obtain ⟨⟨a, b, c⟩, h1, h2⟩ := q_bd_ok h
  exact ⟨a, b, c, h1, h2⟩
theorem q_bd4_ok {α β γ δ ε : Type} {x : Option (α × β × γ × δ)} {k : α → β → γ → δ → Option ε} {r : ε} (h : q_bd4 x k = some r) : ∃ a b c d, x = some (a, b, c, d) ∧ k a b c d = some r := by
  obtain ⟨⟨a, b, c, d⟩, h1, h2⟩ := q_bd_ok h
  exact ⟨a, b, c, d, h1, h2⟩
theorem q_bd5_ok {α β γ δ ε ζ : Type} {x : Option (α × β × γ × δ × ε)} {k : α → β → γ → δ → ε → Option ζ} {r : ζ} (h : q_bd5 x k = some r) : ∃ a b c d e, x = some (a, b, c, d, e) ∧ k a b c d e = some r := by
  obtain ⟨⟨a, b, c, d, e⟩, h1, h2⟩ := q_bd_ok h
  exact ⟨a, b, c, d, e, h1, h2⟩
theorem q_bd6_ok {α β γ δ ε ζ η : Type} {x : Option (α × β × γ × δ × ε × ζ)} {k : α → β → γ → δ → ε → ζ → Option η} {r : η} (h : q_bd6 x k = some r) : ∃ a b c d e f, x = some (a, b, c, d, e, f) ∧ k a b c d e f = some r := by
  obtain ⟨⟨a, b, c, d, e, f⟩, h1, h2⟩ := q_bd_ok h
  exact ⟨a, b, c, d, e, f, h1, h2⟩
theorem q_t {β : Type} {c : Prop} [Decidable c] {a b : Option β} {r : β} (hc : c) (h : (if c then a else b) = some r) : a = some r := by rw [if_pos hc] at h; exact h
theorem q_f {β : Type} {c : Prop} [Decidable c] {a b : Option β} {r : β} (hc : ¬ c) (h : (if c then a else b) = some r) : b = some r := by rw [if_neg hc] at h; exact h
def q_up (F : Nat → Nat → Int32) (j i : Nat) (v : Int32) : Nat → Nat → Int32 := fun a => if a = j then upd (F j) i v else F a
def q_upL (L : Nat → Nat → Int64) (j i : Nat) (v : Int64) : Nat → Nat → Int64 := fun a => if a = j then vp_updL (L j) i v else L a
/-! statics and String constants -/
def kab : Nat → Int32 := fun j => ([-1, 0, 0, 0, 1, 2] : List Int32).getD j 0
def nmsL : List Int32 := [116, 104, 105, 110, 103, 0, 0, 119, 97, 115, 104, 0, 0, 0, 114, 105, 100, 101, 114, 0, 0, 103, 117, 101, 115, 116, 0, 0, 115, 104, 101, 101, 116, 0, 0, 116, 104, 105, 101, 102, 0, 0, 111, 117, 116, 0, 0, 0, 0, 119, 101, 116, 0, 0, 0, 0, 103, 111, 97, 108, 0, 0, 0, 98, 101, 97, 109, 0, 0, 0, 115, 112, 101, 101, 100, 0, 0, 116, 104, 105, 99, 107, 0, 0]
def nms : Nat → Int32 := fun j => nmsL.getD j 0
def strLen : List Nat := [5, 4, 5, 5, 5, 5, 4, 5, 5, 3, 3, 4, 0]
def strByt : List (List Int32) := [[116, 104, 105, 110, 103], [119, 97, 115, 104], [114, 105, 100, 101, 114], [103, 117, 101, 115, 116], [115, 104, 101, 101, 116], [116, 104, 105, 101, 102], [98, 101, 97, 109], [115, 112, 101, 101, 100], [116, 104, 105, 99, 107], [111, 117, 116], [119, 101, 116], [103, 111, 97, 108], []]
def strIx : Nat → Nat := fun i => ([122, 124, 126, 128, 130, 132, 134, 136, 137, 138, 140, 142, 144] : List Nat).getD i 0
def strTx : Nat → String := fun i => (["thing", "wash", "rider", "guest", "sheet", "thief", "beam", "speed", "thick", "out", "wet", "goal", ""] : List String).getD i ""
/-- links between nest mates -/
def NN (U : State) : Prop := va_Nw (.methodLinkNest RX2 79 yX3_within "BeamSeats") U ∧ va_Nw (.methodLinkNest RX3 9 yX0_init "BeamSeats") U ∧ va_Nw (.methodLinkNest RX3 43 yX1_init "BeamSeats") U ∧ va_Nw (.methodLinkNest RX3 28 yX2_init "BeamSeats") U
theorem NN.warm {u U : State} (hW : u.WarmedH U.vm) (h : NN u) : NN U := ⟨h.1.warmM hW, h.2.1.warmM hW, h.2.2.1.warmM hW, h.2.2.2.warmM hW⟩
theorem NN.same {u U : State} (hv : U.vm = u.vm) (h : NN u) : NN U := ⟨va_Nw.same rfl hv.symm h.1, va_Nw.same rfl hv.symm h.2.1, va_Nw.same rfl hv.symm h.2.2.1, va_Nw.same rfl hv.symm h.2.2.2⟩
def ZZ (t : Nat → Nat) (A : Nat → Prop) (U : State) (H : Heap) : Prop :=
  (va_Z "BeamSeats" "KIND_ABOVE" "[I" (.ref (t 0)) A U H ∧ va_T .int (t 0) 6 (fun j => .int (kab j)) A U H) ∧
  (va_Z "BeamSeatsModel" "NAMES" "[I" (.ref (t 1)) A U H ∧ va_T .int (t 1) 84 (fun j => .int (nms j)) A U H) ∧
  va_Z "java/lang/String" "COMPACT_STRINGS" "Z" (.int 1) A U H ∧
  va_Zq "jdk/internal/util/Preconditions" "SIOOBE_FORMATTER" "Ljava/util/function/BiFunction;" A U H ∧
  vk_S 13 strLen strByt (fun i => t (2 + i)) (fun i => t (20 + i)) A U H ∧
  (∀ i : Nat, i < 13 → vk_R "BeamSeats$Tape" (strIx i) (strTx i) (t (2 + i)) U) ∧ NN U
theorem ZZ.kept {t : Nat → Nat} {A : Nat → Prop} {U : State} {H H1 : Heap} (h : ZZ t A U H) (hq : ∀ a : Nat, a < H.size → ¬ A a → H1[a]? = H[a]?) : ZZ t A U H1 := by
  obtain ⟨⟨a1, a2⟩, ⟨b1, b2⟩, c1, d1, e1, f1, g1⟩ := h
  exact ⟨⟨a1.kept hq, a2.kept hq⟩, ⟨b1.kept hq, b2.kept hq⟩, c1.kept hq, d1.kept hq, e1.kept hq, f1, g1⟩
theorem ZZ.narrow {t : Nat → Nat} {A B : Nat → Prop} {U : State} {H : Heap} (h : ZZ t A U H) (hAB : ∀ q, B q → A q) : ZZ t B U H := by
  obtain ⟨⟨a1, a2⟩, ⟨b1, b2⟩, c1, d1, e1, f1, g1⟩ := h
  exact ⟨⟨a1.narrow hAB, a2.narrow hAB⟩, ⟨b1.narrow hAB, b2.narrow hAB⟩, c1.narrow hAB, d1.narrow hAB, e1.narrow hAB, f1, g1⟩
theorem ZZ.warm {t : Nat → Nat} {A : Nat → Prop} {u U : State} {H : Heap} (hW : u.WarmedH U.vm) (h : ZZ t A u H) : ZZ t A U H := by
  have hvm := hW.alike
  obtain ⟨⟨a1, a2⟩, ⟨b1, b2⟩, c1, d1, e1, f1, g1⟩ := h
  exact ⟨⟨a1.moved hvm, a2.moved hvm⟩, ⟨b1.moved hvm, b2.moved hvm⟩, c1.moved hvm, d1.moved hvm, e1.moved hvm, fun i hi => (f1 i hi).warm hW, g1.warm hW⟩
theorem ZZ.same {t : Nat → Nat} {A : Nat → Prop} {u U : State} {H : Heap} (hv : U.vm = u.vm) (h : ZZ t A u H) : ZZ t A U H := by
  have hvm : u.vm.Alike U.vm := by rw [hv]; exact Vm.Alike.refl _
  obtain ⟨⟨a1, a2⟩, ⟨b1, b2⟩, c1, d1, e1, f1, g1⟩ := h
  exact ⟨⟨a1.moved hvm, a2.moved hvm⟩, ⟨b1.moved hvm, b2.moved hvm⟩, c1.moved hvm, d1.moved hvm, e1.moved hvm, fun i hi => (f1 i hi).same hv, g1.same hv⟩
/-! a contract's start and end: addresses by q, classes of arrays by y (int, byte, long, Sheet), statics by t -/
def TYs (y : Nat → ClassId) : List (ClassId × FieldType) := [(y 0, .int), (y 1, .byte), (y 2, .long), (y 3, .object RX1)]
def pPre (D : va_G) (y : Nat → ClassId) (t : Nat → Nat) (av : List Value) (w : va_W) (sz : Nat) : Array Value → State → Prop :=
  va_Pc av (fun U => U.heap.size = sz ∧ va_P D vwCl w U.heap ∧ va_K D vwCl (TYs y) U ∧ ZZ t (va_A w sz) U U.heap ∧ va_D (fun _ => True) w)
def pB (D : va_G) (y : Nat → ClassId) (w' : va_W) (A : Nat → Prop) : Unit → State → Prop := fun _ u => va_P D vwCl w' u.heap ∧ va_K D vwCl (TYs y) u ∧ va_D A w'
def pQi (D : va_G) (y : Nat → ClassId) (r : Int32) (w' : va_W) (A : Nat → Prop) : Array Value → State → Outcome → State → Prop := va_Qi (fun r' (_ : Unit) => r' = r) (pB D y w' A) A
def pQl (D : va_G) (y : Nat → ClassId) (r : Int64) (w' : va_W) (A : Nat → Prop) : Array Value → State → Outcome → State → Prop := va_Ql (fun r' (_ : Unit) => r' = r) (pB D y w' A) A
def pQv (D : va_G) (y : Nat → ClassId) (w' : va_W) (A : Nat → Prop) : Array Value → State → Outcome → State → Prop := va_Qv (fun (_ : Unit) => True) (pB D y w' A) A
def pQq (D : va_G) (y : Nat → ClassId) (r : Option Nat) (w' : va_W) (A : Nat → Prop) : Array Value → State → Outcome → State → Prop := va_Qq (fun r' (_ : Unit) => r' = r) (pB D y w' A) A
theorem q_blind {D : va_G} {y : Nat → ClassId} {t : Nat → Nat} {av : List Value} {w : va_W} {sz : Nat} : FrameBlind (pPre D y t av w sz) := by
  intro a U g mk h
  obtain ⟨h1, h2, h3, h4, h5, h6⟩ := h
  exact ⟨h1, h2, h3, va_K.moved (u := U) (U := U.calling g mk a) (Vm.Alike.refl U.vm) h4, h5.same rfl, h6⟩
theorem q_start {l : Launch} {y0 : MethodName} {wsC ws' : List Cond} {rm : Room} {cc : ByteArray} {maxL : Nat} {ret : Option FieldType} {D : va_G} {y : Nat → ClassId} {t : Nat → Nat} {av : List Value} {w : va_W} {sz : Nat} {Qc : (Nat → Prop) → Array Value → State → Outcome → State → Prop} {mc ms : Nat} (hy : plainName y0.cls = true) (hw : wsC = Cond.code y0 cc maxL ret :: ws') (hn : (lg_sl av).length ≤ maxL)
    (k : ∀ (p : Program) (e : Env) (s : State) (m : MethodId) (below : List Frame) (meth : Method) (c : Code) (A : Nat → Prop) (ls : Array Slot), p.tables.exec = Jvm.exec → c.code = cc → meth.sig.returnType = ret → (∀ x ∈ wsC, x.before av.toArray s = true) → s.vm.findClass y0.cls = some m.cls → meth.locks = false → meth.name = y0.name → c.maxLocals = maxL → va_P D vwCl w s.heap → va_K D vwCl (TYs y) s → ZZ t A s s.heap → va_D A w → (∀ q : Nat, s.heap.size ≤ q → A q) → va_S A s.heap s.heap [] → lv_has ls maxL (lv_args 0 av) → W p l e rm s m av.toArray below meth c s.heap [] 0 0 (MQ below (Qc A) av.toArray s mc ms A) (F0 m 0 ls [])) :
    Met l y0 wsC rm (pPre D y t av w sz) (Qc (va_A w sz)) mc ms (va_A w sz) := by
  refine Met.ofW (cc := cc) (maxL := maxL) (ret := ret) hy hw ?_
  intro p e s m args below meth c s₁ B hml hv
  obtain ⟨rfl, hsz, hP, hK, hZ, hD0⟩ := hv
  subst hsz
  have hl := lv_entry av hn
  rw [lg_entry_eq]
  exact k p e s m below meth c (va_A w s.heap.size) _ B.exec B.bytes B.returns (atoms_spec (ws := wsC) B.pre) (findClass_of_methodNamed B.named) B.notSynchronized (name_of_methodNamed B.named B.method).1 hml hP hK hZ hD0.self (fun q h => Or.inr h) va_S.rf hl
section QE
variable {p : Program} {l : Launch} {e : Env} {R : Room} {s : State} {m : MethodId} {args : Array Value} {below : List Frame} {meth : Method} {c : Code} {H : Heap} {locs : List Loc} {cells slots : Nat} {cc : ByteArray} {pc : Nat} {ls : Array Slot} {D : va_G} {y : Nat → ClassId} {w w' : va_W} {A : Nat → Prop}
theorem q_iret {v r : Int32} (hx : p.tables.exec = Jvm.exec) (hb : c.code = cc) (hr : meth.sig.returnType = some .int) (hlocks : meth.locks = false) (hK : va_K D vwCl (TYs y) s) (hP : va_P D vwCl w H) (hD : va_D A w) (hS : va_S A s.heap H locs) (hdg : decode cc pc = .ok (.ireturn, 1)) (hv : v = r) (hw : w = w') : W p l e R s m args below meth c H locs cells slots (MQ below (pQi D y r w' A) args s cells slots A) (F0 m pc ls [.int v]) := by
  subst hv; subst hw
  exact W.iret hx hb hr (fun u ht hW => ⟨⟨v, (), rfl, rfl, by rw [ht]; exact hP, va_K.moved hW.alike hK, hD⟩, hS.F ht⟩) hS.2.2 hdg hlocks
theorem q_zret {ty : FieldType} {v r : Int32} (hx : p.tables.exec = Jvm.exec) (hb : c.code = cc) (hr : meth.sig.returnType = some ty) (hlocks : meth.locks = false) (hK : va_K D vwCl (TYs y) s) (hP : va_P D vwCl w H) (hD : va_D A w) (hS : va_S A s.heap H locs) (hdg : decode cc pc = .ok (.ireturn, 1)) (hn : narrow ty (.int v) = .int v) (hv : v = r) (hw : w = w') : W p l e R s m args below meth c H locs cells slots (MQ below (pQi D y r w' A) args s cells slots A) (F0 m pc ls [.int v]) := by
  subst hv; subst hw
  exact W.zret hx hb hr hn (fun u ht hW => ⟨⟨v, (), rfl, rfl, by rw [ht]; exact hP, va_K.moved hW.alike hK, hD⟩, hS.F ht⟩) hS.2.2 hdg hlocks
theorem q_lret {v r : Int64} (hx : p.tables.exec = Jvm.exec) (hb : c.code = cc) (hr : meth.sig.returnType = some .long) (hlocks : meth.locks = false) (hK : va_K D vwCl (TYs y) s) (hP : va_P D vwCl w H) (hD : va_D A w) (hS : va_S A s.heap H locs) (hdg : decode cc pc = .ok (.lreturn, 1)) (hv : v = r) (hw : w = w') : W p l e R s m args below meth c H locs cells slots (MQ below (pQl D y r w' A) args s cells slots A) (F0 m pc ls [.long v]) := by
  subst hv; subst hw
  exact W.lret hx hb hr (fun u ht hW => ⟨⟨v, (), rfl, rfl, by rw [ht]; exact hP, va_K.moved hW.alike hK, hD⟩, hS.F ht⟩) hS.2.2 hdg hlocks
theorem q_vret (hx : p.tables.exec = Jvm.exec) (hb : c.code = cc) (hr : meth.sig.returnType = none) (hlocks : meth.locks = false) (hK : va_K D vwCl (TYs y) s) (hP : va_P D vwCl w H) (hD : va_D A w) (hS : va_S A s.heap H locs) (hdg : decode cc pc = .ok (.return_, 1)) (hw : w = w') : W p l e R s m args below meth c H locs cells slots (MQ below (pQv D y w' A) args s cells slots A) (F0 m pc ls []) := by
  subst hw
  exact W.vret hx hb hr (fun u ht hW => ⟨⟨(), rfl, trivial, by rw [ht]; exact hP, va_K.moved hW.alike hK, hD⟩, hS.F ht⟩) hS.2.2 hdg hlocks
theorem q_aret {v r : Option Nat} {rt : FieldType} (hx : p.tables.exec = Jvm.exec) (hb : c.code = cc) (hr : meth.sig.returnType = some rt) (hrt : (∃ n, rt = .object n) ∨ ∃ t, rt = .array t) (hlocks : meth.locks = false) (hK : va_K D vwCl (TYs y) s) (hP : va_P D vwCl w H) (hD : va_D A w) (hS : va_S A s.heap H locs) (hdg : decode cc pc = .ok (.areturn, 1)) (hv : v = r) (hw : w = w') : W p l e R s m args below meth c H locs cells slots (MQ below (pQq D y r w' A) args s cells slots A) (F0 m pc ls [va_rf v]) := by
  subst hv; subst hw
  exact W.aret hx hb hr hrt (va_rf_or v) (fun u ht hW => ⟨⟨v, (), rfl, rfl, by rw [ht]; exact hP, va_K.moved hW.alike hK, hD⟩, hS.F ht⟩) hS.2.2 hdg hlocks
end QE
/-! a call: the callee's cells are at the places isC of the caller's world; they are set there behind it -/
def q_sets : va_W → List Nat → va_W → va_W
  | w, i :: is, c :: cs => q_sets (w.set i c) is cs
  | w, _, _ => w
theorem q_sets_ok {A0 : Nat → Prop} {D : va_G} {cl : List vw_C} {H1 : Heap} : ∀ (isC : List Nat) (ws wc wc' : va_W), isC.Nodup → isC.map (fun i => ws[i]?) = wc.map some → wc'.map (·.1) = wc.map (·.1) → va_D A0 ws → va_P D cl wc' H1 → (∀ (k : Nat) (q : Nat × va_E), ws[k]? = some q → k ∉ isC → va_at D cl q H1) → va_P D cl (q_sets ws isC wc') H1 ∧ va_D A0 (q_sets ws isC wc') := by
  intro isC
  induction isC with
  | nil =>
    intro ws wc wc' _ hC had hD _ hk
    have e : q_sets ws [] wc' = ws := by cases wc' <;> rfl
    rw [e]
    exact ⟨fun k q hq => hk k q hq List.not_mem_nil, hD⟩
  | cons i is ih =>
    intro ws wc wc' hn hC had hD hP1 hk
    cases wc with
    | nil => cases hC
    | cons c cs =>
      cases wc' with
      | nil => cases had
      | cons c' cs' =>
        rw [List.map_cons, List.map_cons] at hC had
        have hC1 : ws[i]? = some c := (List.cons.inj hC).1
        have hC2 := (List.cons.inj hC).2
        have ha1 : c'.1 = c.1 := (List.cons.inj had).1
        have ha2 := (List.cons.inj had).2
        have hni : i ∉ is := (List.nodup_cons.mp hn).1
        have hil : i < ws.length := (List.getElem?_eq_some_iff.mp hC1).1
        have hset : ∀ k : Nat, (ws.set i c')[k]? = if k = i then some c' else ws[k]? := by
          intro k
          rw [List.getElem?_set]
          by_cases hki : i = k
          · subst hki; simp [hil]
          · have h2 : ¬ k = i := fun z => hki z.symm
            simp [hki, h2]
        have hD' : va_D A0 (ws.set i c') := by
          obtain ⟨ca, ce⟩ := c
          obtain ⟨ca', ce'⟩ := c'
          have ha1 : ca' = ca := ha1
          subst ha1
          exact hD.set hC1
        refine ih (ws.set i c') cs cs' (List.nodup_cons.mp hn).2 ?_ ha2 hD' (fun k q hq => hP1 (k + 1) q (by rw [List.getElem?_cons_succ]; exact hq)) ?_
        · rw [← hC2]
          apply List.map_congr_left
          intro j hj
          rw [hset j, if_neg (fun (z : j = i) => hni (by rw [← z]; exact hj))]
        · intro k q hq hki
          rw [hset k] at hq
          by_cases hk2 : k = i
          · rw [if_pos hk2] at hq
            cases hq
            exact hP1 0 c' rfl
          · rw [if_neg hk2] at hq
            exact hk k q hq (fun z => by rcases List.mem_cons.mp z with z | z; exact hk2 z; exact hki z)
theorem q_join {A0 : Nat → Prop} {D : va_G} {cl : List vw_C} {ws wc wc' : va_W} {H H1 : Heap} (hP : va_P D cl ws H) (hD : va_D A0 ws) (isC : List Nat) (hC : isC.map (fun i => ws[i]?) = wc.map some) (hn : isC.Nodup) (had : wc'.map (·.1) = wc.map (·.1)) (hk : ∀ q : Nat, q < H.size → ¬ va_A wc H.size q → H1[q]? = H[q]?) (hP1 : va_P D cl wc' H1) : va_P D cl (q_sets ws isC wc') H1 ∧ va_D A0 (q_sets ws isC wc') := by
  refine q_sets_ok isC ws wc wc' hn hC had hD hP1 (fun k q hq hki => ?_)
  have hat := hP k q hq
  refine hat.kept (hk q.1 hat.lt ?_)
  intro hz
  rcases hz with ⟨j, ej, hj⟩ | hz
  · have h1 : (isC.map (fun i => ws[i]?))[j]? = some (some (q.1, ej)) := by rw [hC, List.getElem?_map, hj]; rfl
    rw [List.getElem?_map] at h1
    cases hi : isC[j]? with
    | none => rw [hi] at h1; cases h1
    | some i =>
      rw [hi] at h1
      have h2 : ws[i]? = some (q.1, ej) := Option.some.inj h1
      have h3 : k = i := hD.1 k i q (q.1, ej) hq h2 rfl
      exact hki (h3 ▸ List.mem_of_getElem? hi)
  · exact absurd hat.lt (Nat.not_lt.mpr hz)
theorem q_nd_inj : ∀ (l : List Nat), l.Nodup → ∀ (i j a : Nat), l[i]? = some a → l[j]? = some a → i = j
  | [], _, i, j, a, h, _ => by simp at h
  | b :: l, hn, i, j, a, hi, hj => by
    have h1 := (List.nodup_cons.mp hn).1
    have h2 := (List.nodup_cons.mp hn).2
    cases i with
    | zero =>
      cases j with
      | zero => rfl
      | succ j =>
        rw [List.getElem?_cons_succ] at hj
        have e : b = a := Option.some.inj hi
        exact absurd (List.mem_of_getElem? hj) (e ▸ h1)
    | succ i =>
      rw [List.getElem?_cons_succ] at hi
      cases j with
      | zero =>
        have e : b = a := Option.some.inj hj
        exact absurd (List.mem_of_getElem? hi) (e ▸ h1)
      | succ j =>
        rw [List.getElem?_cons_succ] at hj
        rw [q_nd_inj l h2 i j a hi hj]
section QC
variable {p : Program} {l : Launch} {e : Env} {R : Room} {s : State} {m : MethodId} {args : Array Value} {below : List Frame} {meth : Method} {c : Code} {H : Heap} {locs : List Loc} {cells slots : Nat} {Q : State → Prop} {pc : Nat} {ls : Array Slot} {rest st0 : List Value} {a : Array Value} {D : va_G} {y : Nat → ClassId} {t : Nat → Nat} {w wc wc' : va_W} {A : Nat → Prop}
/-- the callee's start at the call -/
theorem q_pre {av : List Value} (hP : va_P D vwCl w H) (hK : va_K D vwCl (TYs y) s) (hZ : ZZ t A s s.heap) (hD : va_D A w) (hA : ∀ q : Nat, s.heap.size ≤ q → A q) (hS : va_S A s.heap H locs) (isC : List Nat) (hC : isC.map (fun i => w[i]?) = wc.map some) (hn : isC.Nodup) : ∀ U : State, U.heap = H → s.WarmedH U.vm → pPre D y t av wc H.size av.toArray U := by
  intro U hU hW
  have hF := va_free (wc := wc) hD hS hA isC hC
  have at' : ∀ (k : Nat) (q : Nat × va_E), wc[k]? = some q → ∃ i, isC[k]? = some i ∧ w[i]? = some q := by
    intro k q hq
    have h1 : (isC.map (fun i => w[i]?))[k]? = some (some q) := by rw [hC, List.getElem?_map, hq]; rfl
    rw [List.getElem?_map] at h1
    cases hi : isC[k]? with
    | none => rw [hi] at h1; cases h1
    | some i => rw [hi] at h1; exact ⟨i, rfl, Option.some.inj h1⟩
  refine ⟨rfl, by rw [hU], ?_, va_K.moved hW.alike hK, ?_, ?_, fun _ _ _ => trivial⟩
  · rw [hU]
    intro k q hq
    obtain ⟨i, -, h2⟩ := at' k q hq
    exact hP i q h2
  · rw [hU]
    exact ((hZ.kept hS.2.1).narrow hF).warm hW
  · intro i j p1 q1 hi hj he
    obtain ⟨i', h1, h2⟩ := at' i p1 hi
    obtain ⟨j', h3, h4⟩ := at' j q1 hj
    have h5 : i' = j' := hD.1 i' j' p1 q1 h2 h4 he
    subst h5
    exact q_nd_inj isC hn i j i' h1 h3
theorem q_ci {r : Int32} (hr : va_Run p l e R s m args below meth c H locs cells slots 0 0 (F0 m pc ls st0) rest (pQi D y r wc' (va_A wc H.size) a) (va_A wc H.size)) (hP : va_P D vwCl w H) (hD : va_D A w) (hA : ∀ q : Nat, s.heap.size ≤ q → A q) (hS : va_S A s.heap H locs) (isC : List Nat) (hC : isC.map (fun i => w[i]?) = wc.map some) (hn : isC.Nodup) (had : wc'.map (·.1) = wc.map (·.1))
    (kk : ∀ (H1 : Heap) (locs1 : List Loc), va_P D vwCl (q_sets w isC wc') H1 → va_D A (q_sets w isC wc') → va_S A s.heap H1 locs1 → W p l e R s m args below meth c H1 locs1 cells slots Q (F0 m (pc + 3) ls (.int r :: rest))) : W p l e R s m args below meth c H locs cells slots Q (F0 m pc ls st0) := by
  have hF := va_free (wc := wc) hD hS hA isC hC
  refine va_calli hr hS (fun q _ h => hF q h) hF (fun r1 u t1 H1 locs1 ht hvm hw hB hz1 hk1 hS1 => ?_)
  obtain ⟨hP1, -, -⟩ := hB
  rw [ht] at hP1
  have hj := q_join hP hD isC hC hn had hk1 hP1
  have hw : r1 = r := hw
  subst hw
  exact kk H1 locs1 hj.1 hj.2 hS1
theorem q_cl {r : Int64} (hr : va_Run p l e R s m args below meth c H locs cells slots 0 0 (F0 m pc ls st0) rest (pQl D y r wc' (va_A wc H.size) a) (va_A wc H.size)) (hP : va_P D vwCl w H) (hD : va_D A w) (hA : ∀ q : Nat, s.heap.size ≤ q → A q) (hS : va_S A s.heap H locs) (isC : List Nat) (hC : isC.map (fun i => w[i]?) = wc.map some) (hn : isC.Nodup) (had : wc'.map (·.1) = wc.map (·.1))
    (kk : ∀ (H1 : Heap) (locs1 : List Loc), va_P D vwCl (q_sets w isC wc') H1 → va_D A (q_sets w isC wc') → va_S A s.heap H1 locs1 → W p l e R s m args below meth c H1 locs1 cells slots Q (F0 m (pc + 3) ls (.long r :: rest))) : W p l e R s m args below meth c H locs cells slots Q (F0 m pc ls st0) := by
  have hF := va_free (wc := wc) hD hS hA isC hC
  refine va_calll hr hS (fun q _ h => hF q h) hF (fun r1 u t1 H1 locs1 ht hvm hw hB hz1 hk1 hS1 => ?_)
  obtain ⟨hP1, -, -⟩ := hB
  rw [ht] at hP1
  have hj := q_join hP hD isC hC hn had hk1 hP1
  have hw : r1 = r := hw
  subst hw
  exact kk H1 locs1 hj.1 hj.2 hS1
theorem q_cv (hr : va_Run p l e R s m args below meth c H locs cells slots 0 0 (F0 m pc ls st0) rest (pQv D y wc' (va_A wc H.size) a) (va_A wc H.size)) (hP : va_P D vwCl w H) (hD : va_D A w) (hA : ∀ q : Nat, s.heap.size ≤ q → A q) (hS : va_S A s.heap H locs) (isC : List Nat) (hC : isC.map (fun i => w[i]?) = wc.map some) (hn : isC.Nodup) (had : wc'.map (·.1) = wc.map (·.1))
    (kk : ∀ (H1 : Heap) (locs1 : List Loc), va_P D vwCl (q_sets w isC wc') H1 → va_D A (q_sets w isC wc') → va_S A s.heap H1 locs1 → W p l e R s m args below meth c H1 locs1 cells slots Q (F0 m (pc + 3) ls rest)) : W p l e R s m args below meth c H locs cells slots Q (F0 m pc ls st0) := by
  have hF := va_free (wc := wc) hD hS hA isC hC
  refine va_callv hr hS (fun q _ h => hF q h) hF (fun u t1 H1 locs1 ht hvm hw hB hz1 hk1 hS1 => ?_)
  obtain ⟨hP1, -, -⟩ := hB
  rw [ht] at hP1
  have hj := q_join hP hD isC hC hn had hk1 hP1
  exact kk H1 locs1 hj.1 hj.2 hS1
theorem q_cq {r : Option Nat} (hr : va_Run p l e R s m args below meth c H locs cells slots 0 0 (F0 m pc ls st0) rest (pQq D y r wc' (va_A wc H.size) a) (va_A wc H.size)) (hP : va_P D vwCl w H) (hD : va_D A w) (hA : ∀ q : Nat, s.heap.size ≤ q → A q) (hS : va_S A s.heap H locs) (isC : List Nat) (hC : isC.map (fun i => w[i]?) = wc.map some) (hn : isC.Nodup) (had : wc'.map (·.1) = wc.map (·.1))
    (kk : ∀ (H1 : Heap) (locs1 : List Loc), va_P D vwCl (q_sets w isC wc') H1 → va_D A (q_sets w isC wc') → va_S A s.heap H1 locs1 → W p l e R s m args below meth c H1 locs1 cells slots Q (F0 m (pc + 3) ls (va_rf r :: rest))) : W p l e R s m args below meth c H locs cells slots Q (F0 m pc ls st0) := by
  have hF := va_free (wc := wc) hD hS hA isC hC
  refine va_callq hr hS (fun q _ h => hF q h) hF (fun r1 u t1 H1 locs1 ht hvm hw hB hz1 hk1 hS1 => ?_)
  obtain ⟨hP1, -, -⟩ := hB
  rw [ht] at hP1
  have hj := q_join hP hD isC hC hn had hk1 hP1
  have hw : r1 = r := hw
  subst hw
  exact kk H1 locs1 hj.1 hj.2 hS1
end QC
/-! worlds -/
def wI (y : Nat → ClassId) (q : Nat → Nat) (F : Nat → Nat → Int32) : va_W := [(q 0, .inr (0, [.int (F 0 0), .int (F 0 1), .int (F 0 2), .int (F 0 3), .int (F 0 4), .int (F 0 5), .int (F 0 6), .ref (q 1), .ref (q 2), .ref (q 3), .ref (q 4), .ref (q 5), .ref (q 6)])), (q 1, .inl (y 0, 8, .inl (F 1))), (q 2, .inl (y 0, 8, .inl (F 2))), (q 3, .inl (y 0, 8, .inl (F 3))), (q 4, .inl (y 0, 8, .inl (F 4))), (q 5, .inl (y 0, 8, .inl (F 5))), (q 6, .inl (y 0, 8, .inl (F 6)))]
