/-! ===== pure 3: gets on, gets off, is borne ===== -/
def gOn (a : Nat → Nat) (i : Nat) : Nat :=
  if a (5 + 8 * i) = 1 then (if a (9 + 8 * i) = 0 then 0 else 1)
  else if a (5 + 8 * i) = 2 then (if a (6 + 8 * i) = a (10 + 8 * i) then 0 else 1)
  else if a (5 + 8 * i) = 3 then (if 3 ≤ oth a i then 0 else 1)
  else if a (5 + 8 * i) = 4 then (if a (9 + 8 * i) = 0 then 0 else if 5 < a 2 then 0 else 1)
  else if a (5 + 8 * i) = 5 then (if a (6 + 8 * i) = a (10 + 8 * i) then 0 else if oth a i = 0 then 0 else 1)
  else 0
def gOff (a : Nat → Nat) (i b : Nat) : Nat :=
  if a (5 + 8 * i) = 1 then (if a (9 + 8 * i) = 0 then 1 else 0)
  else if a (5 + 8 * i) = 2 then (if b = a (10 + 8 * i) then 1 else 0)
  else if a (5 + 8 * i) = 3 then (if b = 38 then 1 else if b = 39 then 1 else 0)
  else if a (5 + 8 * i) = 4 then (if a (9 + 8 * i) = 0 then 1 else if b < 35 then 0 else 1)
  else if a (5 + 8 * i) = 5 then (if b = a (10 + 8 * i) then 1 else if oth a i = 0 then 1 else 0)
  else 0
theorem n_eq {x y : Nat} (hx : x < 100000) (hy : y < 100000) : (nI x = nI y) = (x = y) := propext (nI_eq (by omega) (by omega))
theorem n_le {x y : Nat} (hx : x < 100000) (hy : y < 100000) : (nI x ≤ nI y) = (x ≤ y) := propext (nI_leI (by omega) (by omega))
theorem n_lt {x y : Nat} (hx : x < 100000) (hy : y < 100000) : (nI x < nI y) = (x < y) := propext (nI_ltI (by omega) (by omega))
theorem n_e0 {x : Nat} (hx : x < 100000) : (nI x = 0) = (x = 0) := n_eq (y := 0) hx (by omega)
theorem n_e1 {x : Nat} (hx : x < 100000) : (nI x = 1) = (x = 1) := n_eq (y := 1) hx (by omega)
theorem n_e2 {x : Nat} (hx : x < 100000) : (nI x = 2) = (x = 2) := n_eq (y := 2) hx (by omega)
theorem n_e3 {x : Nat} (hx : x < 100000) : (nI x = 3) = (x = 3) := n_eq (y := 3) hx (by omega)
theorem n_e4 {x : Nat} (hx : x < 100000) : (nI x = 4) = (x = 4) := n_eq (y := 4) hx (by omega)
theorem n_e5 {x : Nat} (hx : x < 100000) : (nI x = 5) = (x = 5) := n_eq (y := 5) hx (by omega)
theorem n_e38 {x : Nat} (hx : x < 100000) : (nI x = 38) = (x = 38) := n_eq (y := 38) hx (by omega)
theorem n_e39 {x : Nat} (hx : x < 100000) : (nI x = 39) = (x = 39) := n_eq (y := 39) hx (by omega)
theorem n_e58 {x : Nat} (hx : x < 100000) : (nI x = 58) = (x = 58) := n_eq (y := 58) hx (by omega)
theorem n_le0 {x : Nat} (hx : x < 100000) : (nI x ≤ 0) = (x = 0) := by rw [show (0 : Int32) = nI 0 from rfl, n_le hx (by omega)]; exact propext ⟨fun h => by omega, fun h => by omega⟩
theorem n_3le {x : Nat} (hx : x < 100000) : (3 ≤ nI x) = (3 ≤ x) := n_le (x := 3) (by omega) hx
theorem n_5lt {x : Nat} (hx : x < 100000) : (5 < nI x) = (5 < x) := n_lt (x := 5) (by omega) hx
theorem n_lt35 {x : Nat} (hx : x < 100000) : (nI x < 35) = (x < 35) := n_lt (y := 35) hx (by omega)
theorem i_e0 {α : Type} {x : Nat} {A B : α} (hx : x < 100000) : (if nI x = 0 then A else B) = if x = 0 then A else B := by simp only [n_e0 hx]
theorem i_e1 {α : Type} {x : Nat} {A B : α} (hx : x < 100000) : (if nI x = 1 then A else B) = if x = 1 then A else B := by simp only [n_e1 hx]
theorem i_e2 {α : Type} {x : Nat} {A B : α} (hx : x < 100000) : (if nI x = 2 then A else B) = if x = 2 then A else B := by simp only [n_e2 hx]
theorem i_e3 {α : Type} {x : Nat} {A B : α} (hx : x < 100000) : (if nI x = 3 then A else B) = if x = 3 then A else B := by simp only [n_e3 hx]
theorem i_e4 {α : Type} {x : Nat} {A B : α} (hx : x < 100000) : (if nI x = 4 then A else B) = if x = 4 then A else B := by simp only [n_e4 hx]
theorem i_e5 {α : Type} {x : Nat} {A B : α} (hx : x < 100000) : (if nI x = 5 then A else B) = if x = 5 then A else B := by simp only [n_e5 hx]
theorem i_e58 {α : Type} {x : Nat} {A B : α} (hx : x < 100000) : (if nI x = 58 then A else B) = if x = 58 then A else B := by simp only [n_e58 hx]
theorem i_le0 {α : Type} {x : Nat} {A B : α} (hx : x < 100000) : (if nI x ≤ 0 then A else B) = if x = 0 then A else B := by simp only [n_le0 hx]
theorem i_eq {α : Type} {x y : Nat} {A B : α} (hx : x < 100000) (hy : y < 100000) : (if nI x = nI y then A else B) = if x = y then A else B := by simp only [n_eq hx hy]
theorem i_le {α : Type} {x y : Nat} {A B : α} (hx : x < 100000) (hy : y < 100000) : (if nI x ≤ nI y then A else B) = if x ≤ y then A else B := by simp only [n_le hx hy]
theorem i_lt {α : Type} {x y : Nat} {A B : α} (hx : x < 100000) (hy : y < 100000) : (if nI x < nI y then A else B) = if x < y then A else B := by simp only [n_lt hx hy]
theorem oth_lt {a : Nat → Nat} {i : Nat} (hw : wf a) : oth a i < 9 := b_pop9 _ (by have := sSet_256 hw.2.2.2.1 hw.on; omega)
theorem s_ite {c : Prop} [Decidable c] (x y : Nat) : (if c then some (nI x) else some (nI y)) = some (nI (if c then x else y)) := by split <;> rfl
section PAIRS2
variable {N : Nat} {F R : Nat → Nat → Int32} {G : Nat → Int64} {a : Nat → Nat} {i : Nat}
theorem r_gOn (hM : mRel (F 1) a) (hw : wf a) (hi : i < a 4) (hN : 9 ≤ N) : f_X4_getsOn N F G (nI i) = some (nI (gOn a i)) := by
  have h8 : i < 8 := Nat.lt_of_lt_of_le hi hw.2.2.2.1
  obtain ⟨hk, hat, -, -, hwet, hg, -⟩ := hw.2.2.2.2 i hi
  have ho := oth_lt (i := i) hw
  have hs := hw.2.1.2
  have a5 : a (5 + 8 * i) < 100000 := by omega
  have a6 : a (6 + 8 * i) < 100000 := by omega
  have a9 : a (9 + 8 * i) < 100000 := by omega
  have a10 : a (10 + 8 * i) < 100000 := by omega
  have ao : oth a i < 100000 := by omega
  have a2 : a 2 < 100000 := by omega
  have m5 := hM (5 + 8 * i) (by omega)
  have m6 := hM (6 + 8 * i) (by omega)
  have m9 := hM (9 + 8 * i) (by omega)
  have m10 := hM (10 + 8 * i) (by omega)
  have m2 := hM 2 (by omega)
  rw [f_X4_getsOn]
  simp only [r_it0 h8, r_it1 h8, r_it4 h8, r_it5 h8, r_oth hM hw hi hN, p_bd, p_gM2, p_c2, m5, m6, m9, m10, m2]
  simp only [n_e1 a5, n_e2 a5, n_e3 a5, n_e4 a5, n_e5 a5, n_le0 a9, n_le0 ao, n_3le ao, n_5lt a2, n_eq a6 a10]
  rw [show (0 : Int32) = nI 0 from rfl, show (1 : Int32) = nI 1 from rfl]
  simp only [s_ite]
  rfl
theorem c_gOn (hR : cRel R a) (hw : wf a) (hi : i < a 4) (h0 : a (8 + 8 * i) = 0) : f_X0_getsOn N R (nI i) = some (nI (gOn a i)) := by
  have h8 : i < 8 := Nat.lt_of_lt_of_le hi hw.2.2.2.1
  obtain ⟨h1, h2, h3, h4, h5, h6⟩ := hR.2.2.2.2.2.2.2 i hi
  obtain ⟨hk, hat, -, -, hwet, hg, -⟩ := hw.2.2.2.2 i hi
  have ho := oth_lt (i := i) hw
  have hs := hw.2.1.2
  have h256 := sSet_256 hw.2.2.2.1 hw.on
  have eo : oth a i = pop8 (sSet a 3 (a 4)) := by unfold oth; rw [h0, Nat.zero_mul, Nat.sub_zero]
  have e0 : (sSet a 3 (a 4) = 0) = (oth a i = 0) := by rw [eo]; exact propext (b_pop0 _ h256).symm
  rw [f_X0_getsOn]
  simp only [p_grd _ h8 (show 8 < 2 ^ 31 by decide), p_let, p_cl (show i < 2 ^ 31 by omega), h1, h2, h4, h5, hR.2.2.1, hR.2.2.2.2.2.1, b_pop N _ h256, p_bd, ← eo]
  have a5 : a (5 + 8 * i) < 100000 := by omega
  have a6 : a (6 + 8 * i) < 100000 := by omega
  have a9 : a (9 + 8 * i) < 100000 := by omega
  have a10 : a (10 + 8 * i) < 100000 := by omega
  have ao : oth a i < 100000 := by omega
  have a2 : a 2 < 100000 := by omega
  have as : sSet a 3 (a 4) < 100000 := by omega
  simp only [n_e1 a5, n_e2 a5, n_e3 a5, n_e4 a5, n_e5 a5, n_le0 a9, n_3le ao, n_5lt a2, n_eq a6 a10, n_e0 as, e0]
  rw [show (0 : Int32) = nI 0 from rfl, show (1 : Int32) = nI 1 from rfl]
  simp only [s_ite]
  rfl
theorem r_gOff {b : Nat} (hM : mRel (F 1) a) (hw : wf a) (hi : i < a 4) (hb : b < 60) (hN : 9 ≤ N) : f_X4_getsOff N F G (nI i) (nI b) = some (nI (gOff a i b)) := by
  have h8 : i < 8 := Nat.lt_of_lt_of_le hi hw.2.2.2.1
  obtain ⟨hk, hat, -, -, hwet, hg, -⟩ := hw.2.2.2.2 i hi
  have ho := oth_lt (i := i) hw
  have a5 : a (5 + 8 * i) < 100000 := by omega
  have a9 : a (9 + 8 * i) < 100000 := by omega
  have a10 : a (10 + 8 * i) < 100000 := by omega
  have ao : oth a i < 100000 := by omega
  have ab : b < 100000 := by omega
  have m5 := hM (5 + 8 * i) (by omega)
  have m9 := hM (9 + 8 * i) (by omega)
  have m10 := hM (10 + 8 * i) (by omega)
  rw [f_X4_getsOff]
  simp only [r_it0 h8, r_it4 h8, r_it5 h8, r_oth hM hw hi hN, p_bd, m5, m9, m10]
  simp only [n_e1 a5, n_e2 a5, n_e3 a5, n_e4 a5, n_e5 a5, n_e0 a9, n_e0 ao, n_e38 ab, n_e39 ab, n_lt35 ab, n_eq ab a10]
  rw [show (0 : Int32) = nI 0 from rfl, show (1 : Int32) = nI 1 from rfl]
  simp only [s_ite]
  rfl
theorem c_gOff (hR : cRel R a) (hw : wf a) (hi : i < a 4) (h0 : a (8 + 8 * i) = 1) : f_X0_getsOff N R (nI i) = some (nI (gOff a i (a 1))) := by
  have h8 : i < 8 := Nat.lt_of_lt_of_le hi hw.2.2.2.1
  obtain ⟨h1, h2, h3, h4, h5, h6⟩ := hR.2.2.2.2.2.2.2 i hi
  obtain ⟨hk, hat, -, -, hwet, hg, -⟩ := hw.2.2.2.2 i hi
  have hb := hw.1
  have h256 := sSet_256 hw.2.2.2.1 hw.on
  have hbit := sSet_bit _ hw.2.2.2.1 hw.on i hi
  have e0 : (sSet a 3 (a 4) = 2 ^ i) = (oth a i = 0) := by
    unfold oth
    rw [h0, Nat.one_mul]
    exact propext (b_oth _ h256 i h8 (hbit.trans h0))
  have e1 : (nI (sSet a 3 (a 4)) = (1 : Int32) <<< (nI i &&& 31)) = (oth a i = 0) := by rw [← e0]; exact propext (b_one _ h256 i h8)
  rw [f_X0_getsOff]
  simp only [p_grd _ h8 (show 8 < 2 ^ 31 by decide), p_let, p_cl (show i < 2 ^ 31 by omega), h1, h2, h4, h5, hR.2.1, hR.2.2.2.2.2.1]
  have a5 : a (5 + 8 * i) < 100000 := by omega
  have a9 : a (9 + 8 * i) < 100000 := by omega
  have a10 : a (10 + 8 * i) < 100000 := by omega
  have ab : a 1 < 100000 := by omega
  simp only [e1, n_e1 a5, n_e2 a5, n_e3 a5, n_e4 a5, n_e5 a5, n_e0 a9, n_e38 ab, n_e39 ab, n_lt35 ab, n_eq ab a10]
  rw [show (0 : Int32) = nI 0 from rfl, show (1 : Int32) = nI 1 from rfl]
  simp only [s_ite]
  rfl
/-! what lies at an OUT, and whether it is borne -/
def sLoad (a : Nat → Nat) (o : Nat) : Nat → Nat
  | 0 => 0
  | m + 1 => sLoad a o m + if a (8 + 8 * m) = 1 ∧ a (7 + 8 * m) = o then wt (a (5 + 8 * m)) (a (9 + 8 * m)) else 0
theorem sLoad_le {o : Nat} : ∀ m, (∀ i, i < m → a (9 + 8 * i) < 100) → sLoad a o m ≤ 6 * m := by
  intro m
  induction m with
  | zero => intro _; exact Nat.le_refl _
  | succ m ih =>
    intro h
    have h1 := ih (fun i hi => h i (by omega))
    have h2 := wt_lt (k := a (5 + 8 * m)) (h m (by omega))
    rw [sLoad]
    split <;> omega
theorem r_load_L {o : Nat} (ho : o < 10) (hM : mRel (F 1) a) (hw : wf a) : ∀ f i, i ≤ a 4 → a 4 - i < f → f_X4_loadAt_L4 N F G (nI o) f (nI (sLoad a o i)) (nI i) = some (nI (sLoad a o (a 4)), nI (a 4)) := by
  have h4 := hw.2.2.2.1
  intro f
  induction f with
  | zero => intro i _ h; exact absurd h (Nat.not_lt_zero _)
  | succ f ih =>
    intro i hi hf
    rw [f_X4_loadAt_L4, p_gM4, p_c4, hM 4 (by omega)]
    by_cases e : i = a 4
    · rw [if_pos (nI_le (by omega) (by omega)), e]
    · have hi4 : i < a 4 := by omega
      obtain ⟨-, -, ho2, hon, -⟩ := hw.2.2.2.2 i hi4
      have ihi := ih (i + 1) (by omega) (by omega)
      rw [sLoad] at ihi
      rw [if_neg (nI_ge (by omega) (by omega)), r_on hM hw hi4, p_bd, r_it2 (by omega), p_bd, r_wt hM hw hi4, p_bd, hM _ (by omega)]
      simp only [p_let]
      rw [i_e0 (by omega), i_eq (by omega) (by omega), nI_1, show (0 : Int32) = nI 0 from rfl, nI_add, nI_add, Nat.add_zero]
      rcases le1 hon with e1 | e1
      · rw [if_pos e1]
        rw [if_neg (by omega), Nat.add_zero] at ihi
        exact ihi
      · rw [if_neg (by omega)]
        by_cases e2 : a (7 + 8 * i) = o
        · rw [if_pos e2]
          rw [if_pos ⟨e1, e2⟩] at ihi
          exact ihi
        · rw [if_neg e2]
          rw [if_neg (by omega), Nat.add_zero] at ihi
          exact ihi
theorem r_load {o : Nat} (ho : o < 10) (hM : mRel (F 1) a) (hw : wf a) (hN : 9 ≤ N) : f_X4_loadAt N F G (nI o) = some (nI (sLoad a o (a 4))) := by
  have h := r_load_L (N := N) (G := G) ho hM hw N 0 (by omega) (by have := hw.2.2.2.1; omega)
  rw [show sLoad a o 0 = 0 from rfl] at h
  rw [f_X4_loadAt, show (0 : Int32) = nI 0 from rfl, h, p_bd2]
theorem c_load_L {o : Nat} (ho : o < 10) (hR : cRel R a) (hw : wf a) : ∀ f i, i ≤ a 4 → a 4 - i < f → f_X0_weightAt_L4 N R (nI o) f (nI (sLoad a o i)) (nI i) = some (nI (sLoad a o (a 4)), nI (a 4)) := by
  have h4 := hw.2.2.2.1
  intro f
  induction f with
  | zero => intro i _ h; exact absurd h (Nat.not_lt_zero _)
  | succ f ih =>
    intro i hi hf
    rw [f_X0_weightAt_L4, hR.2.2.2.2.1]
    by_cases e : i = a 4
    · rw [if_pos (nI_le (by omega) (by omega)), e]
    · have hi4 : i < a 4 := by omega
      obtain ⟨-, -, ho2, hon, -⟩ := hw.2.2.2.2 i hi4
      have ihi := ih (i + 1) (by omega) (by omega)
      rw [sLoad] at ihi
      rw [if_neg (nI_ge (by omega) (by omega)), p_grd _ (show i < 8 by omega) (by decide), c_on hR hw hi4, p_bd, c_wt2 hR hw hi4, p_bd, p_cl (by omega), (hR.2.2.2.2.2.2.2 i hi4).2.2.1]
      simp only [p_let]
      rw [i_e0 (by omega), i_eq (by omega) (by omega), nI_1, nI_add]
      rcases le1 hon with e1 | e1
      · rw [if_pos e1]
        rw [if_neg (by omega), Nat.add_zero] at ihi
        rw [ihi]
        split <;> rfl
      · rw [if_neg (show ¬ a (8 + 8 * i) = 0 by omega)]
        by_cases e2 : a (7 + 8 * i) = o
        · rw [if_pos e2]
          rw [if_pos ⟨e1, e2⟩] at ihi
          exact ihi
        · rw [if_neg e2]
          rw [if_neg (by omega), Nat.add_zero] at ihi
          exact ihi
theorem c_load {o : Nat} (ho : o < 10) (hR : cRel R a) (hw : wf a) (hN : 9 ≤ N) : f_X0_weightAt N R (nI o) = some (nI (sLoad a o (a 4))) := by
  have h := c_load_L (N := N) ho hR hw N 0 (by omega) (by have := hw.2.2.2.1; omega)
  rw [show sLoad a o 0 = 0 from rfl] at h
  rw [f_X0_weightAt, show (0 : Int32) = nI 0 from rfl, h, p_bd2]
theorem b_bearC : ∀ th, th < 41 → ∀ o, o < 10 → (if (0 : Int32) < nI th - 2 * nI o then nI th - 2 * nI o else 0) = nI (th - 2 * o) := by decide +kernel
theorem b_bearR (N : Nat) : ∀ th, th < 41 → ∀ o, o < 10 → f_X4_held N (nI th - 2 * nI o) 0 40 = some (nI (th - 2 * o)) := by
  show ∀ th, th < 41 → ∀ o, o < 10 → f_X4_held 0 (nI th - 2 * nI o) 0 40 = some (nI (th - 2 * o))
  decide +kernel
theorem r_bear {o : Nat} (ho : o < 10) (hM : mRel (F 1) a) (hw : wf a) : f_X4_bears N F G (nI o) = some (nI (a 3 - 2 * o)) := by
  rw [f_X4_bears, p_gM3, p_c3, hM 3 (by omega), b_bearR N _ hw.2.2.1.2 _ ho, p_bd]
theorem c_bear {o : Nat} (ho : o < 10) (hR : cRel R a) (hw : wf a) : f_X0_bears N R (nI o) = some (nI (a 3 - 2 * o)) := by
  rw [f_X0_bears, hR.2.2.2.1, b_bearC _ hw.2.2.1.2 _ ho, p_let]
def bor (a : Nat → Nat) (i : Nat) : Nat := if a 3 - 2 * a (7 + 8 * i) < sLoad a (a (7 + 8 * i)) (a 4) + wt (a (5 + 8 * i)) (a (9 + 8 * i)) then 0 else 1
theorem r_bor (hM : mRel (F 1) a) (hw : wf a) (hi : i < a 4) (hN : 9 ≤ N) : f_X4_isBorne N F G (nI i) = some (nI (bor a i)) := by
  have h8 : i < 8 := Nat.lt_of_lt_of_le hi hw.2.2.2.1
  obtain ⟨-, -, ho, -, hwet, -⟩ := hw.2.2.2.2 i hi
  have hl := sLoad_le (o := a (7 + 8 * i)) (a 4) (fun j hj => (hw.2.2.2.2 j hj).2.2.2.2.1)
  have hwl := wt_lt (k := a (5 + 8 * i)) hwet
  have h4 := hw.2.2.2.1
  have h3 := hw.2.2.1.2
  rw [f_X4_isBorne, r_it2 h8, p_bd, hM _ (by omega), r_load ho hM hw hN, p_bd, r_wt hM hw hi, p_bd, p_bd, r_bear ho hM hw, p_bd, nI_add, i_lt (by omega) (by omega), show (0 : Int32) = nI 0 from rfl, show (1 : Int32) = nI 1 from rfl, s_ite]
  rfl
theorem c_bor (hR : cRel R a) (hw : wf a) (hi : i < a 4) (hN : 9 ≤ N) : f_X0_isBorne N R (nI i) = some (nI (bor a i)) := by
  have h8 : i < 8 := Nat.lt_of_lt_of_le hi hw.2.2.2.1
  obtain ⟨-, -, ho, -, hwet, -⟩ := hw.2.2.2.2 i hi
  have hl := sLoad_le (o := a (7 + 8 * i)) (a 4) (fun j hj => (hw.2.2.2.2 j hj).2.2.2.2.1)
  have hwl := wt_lt (k := a (5 + 8 * i)) hwet
  have h4 := hw.2.2.2.1
  have h3 := hw.2.2.1.2
  rw [f_X0_isBorne, p_grd _ h8 (by decide), p_cl (by omega), (hR.2.2.2.2.2.2.2 i hi).2.2.1, c_load ho hR hw hN, p_bd, c_wt2 hR hw hi, p_bd, p_grd _ h8 (by decide), c_bear ho hR hw, p_bd, nI_add, i_lt (by omega) (by omega), show (0 : Int32) = nI 0 from rfl, show (1 : Int32) = nI 1 from rfl, s_ite]
  rfl
end PAIRS2
