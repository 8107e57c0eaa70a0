/-! ===== the law's loop ===== -/
theorem i6 {i L : Nat} (hL : L ≤ 3072) (hi : i ≤ L) (h : ¬ Int32.ofNat L - 6 < nI i) : i + 6 ≤ L := by
  rw [fa_lt, show Int32.ofNat L - 6 = nI L - nI 6 from rfl, pk_sub_toInt (by omega) (by decide), nI_toInt (by omega)] at h
  omega
set_option maxHeartbeats 4000000 in
set_option maxRecDepth 100000 in
theorem law_loop {p : Program} {l : Launch} {e : Env} {s : State} {m : MethodId} {below : List Frame} {meth : Method} {c : Code} {a0 L : Nat} {xs : Nat → Int32} {D : va_G} {y : Nat → ClassId} {t q q' : Nat → Nat} (C : LC p s m meth c a0 L xs D y t q q') (hL : L ≤ 3072) : ∀ (n i : Nat), i ≤ L → L < i + n → ∀ (b R T K P B : Nat → Nat → Int32) (M : Nat → Nat → Int64) (F : Nat → Nat → Int32) (G : Nat → Int64) (H : Heap) (locs : List Loc) (ls : Array Slot), gRel b R K P B M F G → va_P D vwCl (wB y q b R T K P B M) H → va_P D vwCl (wM y q' F G) H → va_S (AA s) s.heap H locs → lv_has ls 4 [(0, .ref a0), (1, .ref (q 0)), (2, .ref (q' 0)), (3, .int (nI i))] → W p l e room_1 s m #[Value.ref a0] below meth c H locs 46 1380 (lw_Z below #[Value.ref a0] s) (F0 m 18 ls []) := by
  obtain ⟨hx, hb, hr, hml, hown, hts, hX, hbl, hlocks, hK, hZ, hDD⟩ := id C
  have hbA : ¬ AA s a0 := Nat.not_le.mpr hbl
  intro n
  induction n with
  | zero => intro i h1 h2; omega
  | succ n ih =>
    intro i hi1 hi2 b R T K P B M F G H locs ls g hPB hPM hS hl
    refine lv_iload_n hx hb dL_law_18 rfl (lv_at hl 3 rfl) ?_
    refine lv_aload_n hx hb dL_law_19 rfl (lv_at hl 0 rfl) ?_
    refine va_slen hx hb hX hbl hbA hS dL_law_20 ?_
    refine lv_bipush (v := 6) hx hb dL_law_21 (by decide) ?_
    refine lv_isub hx hb dL_law_23 ?_
    refine lv_icmp_gt (tgt := 1331) hx hb dL_law_24 (by decide) (fun c9 => ?_) (fun c9 => ?_)
    · refine lv_iconst (v := 1) hx hb dL_law_1331 (by decide) ?_
      refine va_forget (fun q hq => hS.2.2 q hq) ?_
      refine W.widen (k := 600000) (n := 7302250) (Nat.le_of_ble_eq_true rfl) (Nat.le_of_ble_eq_true rfl) ?_
      exact lw_ret hx hb hr hlocks dL_law_1332
    · have hi : i + 6 ≤ L := i6 hL hi1 c9
      have kk : lwK p l e s m below meth c a0 D y q q' ls := by
        intro b R T K P B M F G H locs g hPB hPM hS
        refine lv_iinc (v := nI (i + 6)) (lv' := [(3, .int (nI (i + 6))), (0, .ref a0), (1, .ref (q 0)), (2, .ref (q' 0))]) hx hb dL_law_1325 hl (k := 3) rfl (by rw [← nI_add]; rfl) (by decide) rfl (fun ls hl => ?_)
        refine lv_goto (tgt := 18) hx hb dL_law_1328 (by decide) ?_
        exact ih (i + 6) hi (by omega) b R T K P B M F G H locs ls g hPB hPM hS (lv_sub hl [1, 2, 3, 0] rfl)
      refine lv_aload_n hx hb dL_law_27 rfl (lv_at hl 0 rfl) ?_
      refine lv_iload_n hx hb dL_law_28 rfl (lv_at hl 3 rfl) ?_
      refine va_sld hx hb hX hbl hbA hS (vp_in_nI (by omega) (by omega)) dL_law_29 ?_
      refine lv_bipush (v := 63) hx hb dL_law_30 (by decide) ?_
      refine lv_iand hx hb dL_law_32 ?_
      refine lv_topi (fun z ez => ?_)
      obtain ⟨j, hj, ej⟩ := pk_andE (xs (nI i).toNatClampNeg) (m := 63) 6 (by decide)
      obtain rfl : z = nI j := ez.trans ej
      by_cases h0 : j = 0
      · subst h0; exact lv_tableIn (tgt := 200) (off := 167) hx hb dL_law_33 (by decide) (by decide) (by decide) (by decide) (law_0 C hL hi g hPB hPM hS hl kk)
      by_cases h1 : j = 1
      · subst h1; exact lv_tableIn (tgt := 233) (off := 200) hx hb dL_law_33 (by decide) (by decide) (by decide) (by decide) (law_1 C hL hi g hPB hPM hS hl kk)
      by_cases h2 : j = 2
      · subst h2; exact lv_tableIn (tgt := 256) (off := 223) hx hb dL_law_33 (by decide) (by decide) (by decide) (by decide) (law_2 C hL hi g hPB hPM hS hl kk)
      by_cases h3 : j = 3
      · subst h3; exact lv_tableIn (tgt := 289) (off := 256) hx hb dL_law_33 (by decide) (by decide) (by decide) (by decide) (law_3 C hL hi g hPB hPM hS hl kk)
      by_cases h4 : j = 4
      · subst h4; exact lv_tableIn (tgt := 322) (off := 289) hx hb dL_law_33 (by decide) (by decide) (by decide) (by decide) (law_4 C hL hi g hPB hPM hS hl kk)
      by_cases h5 : j = 5
      · subst h5; exact lv_tableIn (tgt := 355) (off := 322) hx hb dL_law_33 (by decide) (by decide) (by decide) (by decide) (law_5 C hL hi g hPB hPM hS hl kk)
      by_cases h6 : j = 6
      · subst h6; exact lv_tableIn (tgt := 398) (off := 365) hx hb dL_law_33 (by decide) (by decide) (by decide) (by decide) (law_6 C hL hi g hPB hPM hS hl kk)
      by_cases h7 : j = 7
      · subst h7; exact lv_tableIn (tgt := 431) (off := 398) hx hb dL_law_33 (by decide) (by decide) (by decide) (by decide) (law_7 C hL hi g hPB hPM hS hl kk)
      by_cases h8 : j = 8
      · subst h8; exact lv_tableIn (tgt := 464) (off := 431) hx hb dL_law_33 (by decide) (by decide) (by decide) (by decide) (law_8 C hL hi g hPB hPM hS hl kk)
      by_cases h9 : j = 9
      · subst h9; exact lv_tableIn (tgt := 497) (off := 464) hx hb dL_law_33 (by decide) (by decide) (by decide) (by decide) (law_9 C hL hi g hPB hPM hS hl kk)
      by_cases h10 : j = 10
      · subst h10; exact lv_tableIn (tgt := 520) (off := 487) hx hb dL_law_33 (by decide) (by decide) (by decide) (by decide) (law_10 C hL hi g hPB hPM hS hl kk)
      by_cases h11 : j = 11
      · subst h11; exact lv_tableIn (tgt := 543) (off := 510) hx hb dL_law_33 (by decide) (by decide) (by decide) (by decide) (law_11 C hL hi g hPB hPM hS hl kk)
      by_cases h12 : j = 12
      · subst h12; exact lv_tableIn (tgt := 566) (off := 533) hx hb dL_law_33 (by decide) (by decide) (by decide) (by decide) (law_12 C hL hi g hPB hPM hS hl kk)
      by_cases h13 : j = 13
      · subst h13; exact lv_tableIn (tgt := 609) (off := 576) hx hb dL_law_33 (by decide) (by decide) (by decide) (by decide) (law_13 C hL hi g hPB hPM hS hl kk)
      by_cases h14 : j = 14
      · subst h14; exact lv_tableIn (tgt := 642) (off := 609) hx hb dL_law_33 (by decide) (by decide) (by decide) (by decide) (law_14 C hL hi g hPB hPM hS hl kk)
      by_cases h15 : j = 15
      · subst h15; exact lv_tableIn (tgt := 665) (off := 632) hx hb dL_law_33 (by decide) (by decide) (by decide) (by decide) (law_15 C hL hi g hPB hPM hS hl kk)
      by_cases h16 : j = 16
      · subst h16; exact lv_tableIn (tgt := 688) (off := 655) hx hb dL_law_33 (by decide) (by decide) (by decide) (by decide) (law_16 C hL hi g hPB hPM hS hl kk)
      by_cases h17 : j = 17
      · subst h17; exact lv_tableIn (tgt := 711) (off := 678) hx hb dL_law_33 (by decide) (by decide) (by decide) (by decide) (law_17 C hL hi g hPB hPM hS hl kk)
      by_cases h18 : j = 18
      · subst h18; exact lv_tableIn (tgt := 734) (off := 701) hx hb dL_law_33 (by decide) (by decide) (by decide) (by decide) (law_18 C hL hi g hPB hPM hS hl kk)
      by_cases h19 : j = 19
      · subst h19; exact lv_tableIn (tgt := 767) (off := 734) hx hb dL_law_33 (by decide) (by decide) (by decide) (by decide) (law_19 C hL hi g hPB hPM hS hl kk)
      by_cases h20 : j = 20
      · subst h20; exact lv_tableIn (tgt := 800) (off := 767) hx hb dL_law_33 (by decide) (by decide) (by decide) (by decide) (law_20 C hL hi g hPB hPM hS hl kk)
      by_cases h21 : j = 21
      · subst h21; exact lv_tableIn (tgt := 833) (off := 800) hx hb dL_law_33 (by decide) (by decide) (by decide) (by decide) (law_21 C hL hi g hPB hPM hS hl kk)
      by_cases h22 : j = 22
      · subst h22; exact lv_tableIn (tgt := 866) (off := 833) hx hb dL_law_33 (by decide) (by decide) (by decide) (by decide) (law_22 C hL hi g hPB hPM hS hl kk)
      by_cases h23 : j = 23
      · subst h23; exact lv_tableIn (tgt := 889) (off := 856) hx hb dL_law_33 (by decide) (by decide) (by decide) (by decide) (law_23 C hL hi g hPB hPM hS hl kk)
      by_cases h24 : j = 24
      · subst h24; exact lv_tableIn (tgt := 912) (off := 879) hx hb dL_law_33 (by decide) (by decide) (by decide) (by decide) (law_24 C hL hi g hPB hPM hS hl kk)
      by_cases h25 : j = 25
      · subst h25; exact lv_tableIn (tgt := 945) (off := 912) hx hb dL_law_33 (by decide) (by decide) (by decide) (by decide) (law_25 C hL hi g hPB hPM hS hl kk)
      by_cases h26 : j = 26
      · subst h26; exact lv_tableIn (tgt := 958) (off := 925) hx hb dL_law_33 (by decide) (by decide) (by decide) (by decide) (law_26 C hL hi g hPB hPM hS hl kk)
      by_cases h27 : j = 27
      · subst h27; exact lv_tableIn (tgt := 971) (off := 938) hx hb dL_law_33 (by decide) (by decide) (by decide) (by decide) (law_27 C hL hi g hPB hPM hS hl kk)
      by_cases h28 : j = 28
      · subst h28; exact lv_tableIn (tgt := 1014) (off := 981) hx hb dL_law_33 (by decide) (by decide) (by decide) (by decide) (law_28 C hL hi g hPB hPM hS hl kk)
      by_cases h29 : j = 29
      · subst h29; exact lv_tableIn (tgt := 1088) (off := 1055) hx hb dL_law_33 (by decide) (by decide) (by decide) (by decide) (law_29 C hL hi g hPB hPM hS hl kk)
      by_cases h30 : j = 30
      · subst h30; exact lv_tableIn (tgt := 1151) (off := 1118) hx hb dL_law_33 (by decide) (by decide) (by decide) (by decide) (law_30 C hL hi g hPB hPM hS hl kk)
      by_cases h31 : j = 31
      · subst h31; exact lv_tableIn (tgt := 1174) (off := 1141) hx hb dL_law_33 (by decide) (by decide) (by decide) (by decide) (law_31 C hL hi g hPB hPM hS hl kk)
      by_cases h32 : j = 32
      · subst h32; exact lv_tableIn (tgt := 1207) (off := 1174) hx hb dL_law_33 (by decide) (by decide) (by decide) (by decide) (law_32 C hL hi g hPB hPM hS hl kk)
      by_cases h33 : j = 33
      · subst h33; exact lv_tableIn (tgt := 1240) (off := 1207) hx hb dL_law_33 (by decide) (by decide) (by decide) (by decide) (law_33 C hL hi g hPB hPM hS hl kk)
      by_cases h34 : j = 34
      · subst h34; exact lv_tableIn (tgt := 1253) (off := 1220) hx hb dL_law_33 (by decide) (by decide) (by decide) (by decide) (law_34 C hL hi g hPB hPM hS hl kk)
      by_cases h35 : j = 35
      · subst h35; exact lv_tableIn (tgt := 1266) (off := 1233) hx hb dL_law_33 (by decide) (by decide) (by decide) (by decide) (law_35 C hL hi g hPB hPM hS hl kk)
      by_cases h36 : j = 36
      · subst h36; exact lv_tableIn (tgt := 1279) (off := 1246) hx hb dL_law_33 (by decide) (by decide) (by decide) (by decide) (law_36 C hL hi g hPB hPM hS hl kk)
      by_cases h37 : j = 37
      · subst h37; exact lv_tableIn (tgt := 1302) (off := 1269) hx hb dL_law_33 (by decide) (by decide) (by decide) (by decide) (law_37 C hL hi g hPB hPM hS hl kk)
      have hj2 : j < 2 ^ 6 := hj
      refine lv_tableOut (tgt := 1325) hx hb dL_law_33 (Or.inr ?_) (by decide) (kk b R T K P B M F G H locs g hPB hPM hS)
      rw [nI_toInt (by omega)]
      omega
