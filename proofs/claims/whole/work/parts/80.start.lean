theorem kL_0 : Cond.classLink RL 7 RX3 ∈ wsL_law := List.mem_of_getElem? (i := 0) (by decide +kernel)
theorem kL_1 : Cond.instantiable RX3 7 ∈ wsL_law := List.mem_of_getElem? (i := 1) (by decide +kernel)
theorem kL_2 : Cond.initialized RX3 ∈ wsL_law := List.mem_of_getElem? (i := 2) (by decide +kernel)
theorem kL_3 : Cond.classLink RL 10 RX4 ∈ wsL_law := List.mem_of_getElem? (i := 3) (by decide +kernel)
theorem kL_4 : Cond.instantiable RX4 15 ∈ wsL_law := List.mem_of_getElem? (i := 4) (by decide +kernel)
theorem kL_5 : Cond.initialized RX4 ∈ wsL_law := List.mem_of_getElem? (i := 5) (by decide +kernel)
theorem kL_7 : Cond.methodLink RL 9 yX3_init ∈ wsL_law := List.mem_of_getElem? (i := 7) (by decide +kernel)
theorem kL_8 : Cond.instanceMethod yX3_init ∈ wsL_law := List.mem_of_getElem? (i := 8) (by decide +kernel)
theorem kL_a : Cond.methodLink RL 12 yX4_init ∈ wsL_law := List.mem_of_getElem? (i := 64) (by decide +kernel)
theorem kL_b : Cond.instanceMethod yX4_init ∈ wsL_law := List.mem_of_getElem? (i := 65) (by decide +kernel)
theorem inlX3 : ∀ w ∈ wsX30, w ∈ wsL_law := fun _ h => List.mem_append_left _ (List.mem_append_left _ (List.mem_append_left _ (List.mem_append_left _ (List.mem_append_left _ (List.mem_append_right _ h)))))
theorem inlX4 : ∀ w ∈ wsX40, w ∈ wsL_law := fun _ h => List.mem_append_left _ (List.mem_append_left _ (List.mem_append_left _ (List.mem_append_left _ (List.mem_append_right _ h))))
theorem P_left {D : va_G} {cl : List vw_C} {w1 w2 : va_W} {H : Heap} (h : va_P D cl (w1 ++ w2) H) : va_P D cl w1 H := fun k p hp => h k p (by rw [List.getElem?_append_left (List.getElem?_eq_some_iff.mp hp).1]; exact hp)
theorem P_right {D : va_G} {cl : List vw_C} {w1 w2 : va_W} {H : Heap} (h : va_P D cl (w1 ++ w2) H) : va_P D cl w2 H := fun k p hp => h _ p (D_rt hp)
def a00 : Nat → Nat
  | 2 => 2
  | 3 => 20
  | _ => 0
theorem g00 : gRel Z00 F00 F00 Z00 Z00 L00 M00 G00 := by
  refine ⟨⟨a00, ⟨by decide, by decide, by decide, by decide, fun i hi => absurd hi (Nat.not_lt_zero _)⟩, ⟨rfl, rfl, rfl, rfl, rfl, rfl, rfl, fun i hi => absurd hi (Nat.not_lt_zero _)⟩, ?_⟩, Or.inl ⟨rfl, rfl⟩, fun k _ => rfl, ⟨0, by decide, rfl, rfl, fun i hi => absurd hi (Nat.not_lt_zero _)⟩, fun s hs => ⟨0, by decide, rfl, Or.inl rfl, rfl, rfl, fun i hi => absurd hi (Nat.not_lt_zero _)⟩⟩
  intro k hk
  have hk : k < 5 := hk
  rcases (show k = 0 ∨ k = 1 ∨ k = 2 ∨ k = 3 ∨ k = 4 by omega) with rfl | rfl | rfl | rfl | rfl <;> rfl
set_option maxHeartbeats 4000000 in
set_option maxRecDepth 100000 in
/-- the law from its entry -/
theorem whole_start {p : Program} {e : Env} {s : State} {m : MethodId} {below : List Frame} {meth : Method} {c : Code} (l : Launch) (hflags : l.flags = flags0) {b L : Nat} {xs : Nat → Int32} (hL : L ≤ 3072) (C0 : lw_At p s m meth c b L xs) : W p l e room_1 s m #[Value.ref b] below meth c s.heap [] 0 0 (lw_Z below #[Value.ref b] s) (entryFrame m ([Value.ref b] : List Value).toArray 4) := by
  obtain ⟨hx, hb, hr, hml, hown, hts0, hX, hbl, hlocks, hgv⟩ := C0
  have hts : ∀ w ∈ wsL_law, w.before #[Value.ref b] s = true := fun w h => hts0 w (wsL_law_in w h)
  have hb : c.code = cL_law := hb
  have hown : s.vm.findClass RL = some m.cls := hown
  obtain ⟨t, hZ⟩ := z_all hts0 hgv
  obtain ⟨D, y, hK, hAO⟩ := z_cls hts0
  have hS : va_S (AA s) s.heap s.heap [] := va_S.rf
  have hP : va_P D vwCl [] s.heap := fun k q h => by simp at h
  have hD : va_D (AA s) [] := ⟨fun i j p q h => by simp at h, fun k q h => by simp at h⟩
  have hl := lv_entry ([.ref b]) (n := 4) (Nat.le_of_ble_eq_true rfl)
  rw [lg_entry_eq]
  generalize (lg_sl ([.ref b]) ++ List.replicate (4 - (lg_sl ([.ref b])).length) Slot.unset).toArray = ls at hl ⊢
  have hl : lv_has ls 4 [(0, .ref b)] := hl
  refine va_new (ci := 3) (fs := [.null, .null, .null, .int 0, .null, .null, .null]) (C := RX3) (T := TX3) (N := 7) hx hb hts inlX3 tyX3 tyX3_ok hown (hts _ kL_0) (hts _ kL_1) (hts _ kL_2) hK hP hD hS AA_ok rfl (fun j hj => by rcases (show j = 0 ∨ j = 1 ∨ j = 2 ∨ j = 3 ∨ j = 4 ∨ j = 5 ∨ j = 6 by omega) with rfl | rfl | rfl | rfl | rfl | rfl | rfl <;> rfl) (Nat.le_of_ble_eq_true rfl) (Nat.le_of_ble_eq_true rfl) dL_law_0 (fun o1 H hP hD hS => ?_)
  have hP : va_P D vwCl [(o1, .inr (3, [.null, .null, .null, .int 0, .null, .null, .null]))] H := hP
  have hD : va_D (AA s) [(o1, .inr (3, [.null, .null, .null, .int 0, .null, .null, .null]))] := hD
  refine W.widen (k := 1) (n := 7) (Nat.le_refl _) (Nat.le_refl _) ?_
  refine lv_dup hx hb dL_law_3 rfl ?_
  have hFc := va_free (wc := [(o1, .inr (3, [.null, .null, .null, .int 0, .null, .null, .null]))]) hD hS AA_ok [0] rfl
  refine va_callv (va_runI (As := []) (rest := [.ref o1]) ⟨hx, hb, hml, hown, hts⟩ (c_X3_init l D y t o1 _) (cwI 0 hts gL_law_X3_init rfl rfl rfl (hts _ kL_2) (hts _ kL_7) (hts _ kL_8) rfl (by decide +kernel) ⟨Nat.le_of_ble_eq_true rfl, Nat.le_of_ble_eq_true rfl⟩) ⟨q_blindA, fun U hU hW => ⟨q_pre hP hK hZ hD AA_ok hS [0] rfl (by decide) U hU hW, va_AO.moved hW.alike hAO⟩⟩ rfl rfl hl.1 rfl (lv_room (Nat.le_of_ble_eq_true rfl)) dL_law_4 ⟨Nat.le_of_ble_eq_true rfl, Nat.le_of_ble_eq_true rfl⟩) hS (fun q _ h => hFc q h) hFc (fun q t1 H1 locs ht hvm hw hB hz1 hk1 hS => ?_)
  have hw : q 0 = o1 := hw
  subst hw
  obtain ⟨hP1, -, hD1⟩ := hB
  rw [ht] at hP1
  obtain ⟨hP, hD⟩ := va_join (wr := []) hP hD [0] [] rfl rfl (by decide) (by decide) hk1 hFc hP1 hD1
  generalize H1 = H at hP hS ⊢
  have hP : va_P D vwCl (wB y q Z00 F00 F00 F00 Z00 Z00 L00) H := hP
  have hD : va_D (AA s) (wB y q Z00 F00 F00 F00 Z00 Z00 L00) := hD
  refine W.widen (k := 37) (n := 863) (Nat.le_refl _) (Nat.le_refl _) ?_
  refine lv_astore_n (lv' := [(1, .ref (q 0)), (0, .ref b)]) hx hb dL_law_7 rfl hl (by decide) rfl (fun ls hl => ?_)
  refine va_new (ci := 4) (fs := [.null, .null, .null, .int 0, .null, .null, .int 0, .int 0, .int 0, .int 0, .int 0, .int 0, .null, .null, .null]) (C := RX4) (T := TX4) (N := 15) hx hb hts inlX4 tyX4 tyX4_ok hown (hts _ kL_3) (hts _ kL_4) (hts _ kL_5) hK hP hD hS AA_ok rfl (fun j hj => by rcases (show j = 0 ∨ j = 1 ∨ j = 2 ∨ j = 3 ∨ j = 4 ∨ j = 5 ∨ j = 6 ∨ j = 7 ∨ j = 8 ∨ j = 9 ∨ j = 10 ∨ j = 11 ∨ j = 12 ∨ j = 13 ∨ j = 14 by omega) with rfl | rfl | rfl | rfl | rfl | rfl | rfl | rfl | rfl | rfl | rfl | rfl | rfl | rfl | rfl <;> rfl) (Nat.le_of_ble_eq_true rfl) (Nat.le_of_ble_eq_true rfl) dL_law_8 (fun o2 H hP hD hS => ?_)
  refine W.widen (k := 38) (n := 878) (Nat.le_refl _) (Nat.le_refl _) ?_
  refine lv_dup hx hb dL_law_11 rfl ?_
  have hFc := va_free (wc := [(o2, .inr (4, [.null, .null, .null, .int 0, .null, .null, .int 0, .int 0, .int 0, .int 0, .int 0, .int 0, .null, .null, .null]))]) hD hS AA_ok [37] rfl
  refine va_callv (va_runI (As := []) (rest := [.ref o2]) ⟨hx, hb, hml, hown, hts⟩ (c_X4_init l D y t o2 _) (cwI 0 hts gL_law_X4_init rfl rfl rfl (hts _ kL_5) (hts _ kL_a) (hts _ kL_b) rfl (by decide +kernel) ⟨Nat.le_of_ble_eq_true rfl, Nat.le_of_ble_eq_true rfl⟩) ⟨q_blind, q_pre hP hK hZ hD AA_ok hS [37] rfl (by decide)⟩ rfl rfl hl.1 rfl (lv_room (Nat.le_of_ble_eq_true rfl)) dL_law_12 ⟨Nat.le_of_ble_eq_true rfl, Nat.le_of_ble_eq_true rfl⟩) hS (fun q _ h => hFc q h) hFc (fun q' t1 H1 locs ht hvm hw hB hz1 hk1 hS => ?_)
  have hw : q' 0 = o2 := hw
  subst hw
  obtain ⟨hP1, -, hD1⟩ := hB
  rw [ht] at hP1
  obtain ⟨hP, hD⟩ := va_join (wr := wB y q Z00 F00 F00 F00 Z00 Z00 L00) hP hD [37] [0, 1, 2, 3, 4, 5, 6, 7, 8, 9, 10, 11, 12, 13, 14, 15, 16, 17, 18, 19, 20, 21, 22, 23, 24, 25, 26, 27, 28, 29, 30, 31, 32, 33, 34, 35, 36] rfl rfl (by decide) (by decide) hk1 hFc hP1 hD1
  generalize H1 = H at hP hS ⊢
  have hP : va_P D vwCl (wB y q Z00 F00 F00 F00 Z00 Z00 L00 ++ wM y q' M00 G00) H := hP
  have hD : va_D (AA s) (wB y q Z00 F00 F00 F00 Z00 Z00 L00 ++ wM y q' M00 G00) := hD
  refine W.widen (k := 46) (n := 1380) (Nat.le_refl _) (Nat.le_refl _) ?_
  refine lv_astore_n (lv' := [(2, .ref (q' 0)), (1, .ref (q 0)), (0, .ref b)]) hx hb dL_law_15 rfl hl (by decide) rfl (fun ls hl => ?_)
  refine lv_iconst (v := 0) hx hb dL_law_16 (by decide) ?_
  refine lv_istore_n (lv' := [(3, .int 0), (2, .ref (q' 0)), (1, .ref (q 0)), (0, .ref b)]) hx hb dL_law_17 rfl hl (by decide) rfl (fun ls hl => ?_)
  have hl : lv_has ls 4 [(0, .ref b), (1, .ref (q 0)), (2, .ref (q' 0)), (3, .int (nI 0))] := lv_sub hl [3, 2, 1, 0] rfl
  have C : LC p s m meth c b L xs D y t q q' := ⟨hx, hb, hr, hml, hown, hts, hX, hbl, hlocks, hK, hZ, fun b R T K P B M F G => D_congr hD rfl⟩
  exact law_loop C hL (L + 1) 0 (Nat.zero_le _) (by omega) Z00 F00 F00 F00 Z00 Z00 L00 M00 G00 H locs ls g00 (P_left hP) (P_right hP) hS hl
