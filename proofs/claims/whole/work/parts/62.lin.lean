set_option maxRecDepth 20000 in
theorem inL_r1 : GoodIn lw_tbl wsL_law_r1 := goodIn_p wsL_law_r1 [76, 79] (by decide +kernel) (by decide +kernel)
set_option maxRecDepth 20000 in
theorem inL_r2 : GoodIn lw_tbl wsL_law_r2 := goodIn_p wsL_law_r2 [84, 151] (by decide +kernel) (by decide +kernel)
set_option maxRecDepth 20000 in
theorem inL_r3 : GoodIn lw_tbl wsL_law_r3 := goodIn_p wsL_law_r3 [182, 661] (by decide +kernel) (by decide +kernel)
set_option maxRecDepth 20000 in
theorem inL_r4 : GoodIn lw_tbl wsL_law_r4 := goodIn_p wsL_law_r4 [223, 226, 231, 712] (by decide +kernel) (by decide +kernel)
set_option maxRecDepth 20000 in
theorem inL_r5 : GoodIn lw_tbl wsL_law_r5 := goodIn_p wsL_law_r5 [715, 719, 724, 235, 239] (by decide +kernel) (by decide +kernel)
set_option maxRecDepth 20000 in
theorem inL_r6 : GoodIn lw_tbl wsL_law_r6 := goodIn_p wsL_law_r6 [243, 247, 728, 732, 736, 740] (by decide +kernel) (by decide +kernel)
set_option maxRecDepth 20000 in
theorem inL_r7 : GoodIn lw_tbl wsL_law_r7 := goodIn_p wsL_law_r7 [744, 748, 251, 255, 258, 262] (by decide +kernel) (by decide +kernel)
set_option maxRecDepth 20000 in
theorem inL_r8 : GoodIn lw_tbl wsL_law_r8 := goodIn_p wsL_law_r8 [752, 756, 759, 763, 266, 271] (by decide +kernel) (by decide +kernel)
set_option maxRecDepth 20000 in
theorem inL_r9 : GoodIn lw_tbl wsL_law_r9 := goodIn_p wsL_law_r9 [767, 770, 775, 779, 275] (by decide +kernel) (by decide +kernel)
set_option maxRecDepth 20000 in
theorem inL_r10 : GoodIn lw_tbl wsL_law_r10 := goodIn_p wsL_law_r10 [279, 284, 289, 783, 787] (by decide +kernel) (by decide +kernel)
set_option maxRecDepth 20000 in
theorem inL_r11 : GoodIn lw_tbl wsL_law_r11 := goodIn_p wsL_law_r11 [791, 293, 297, 300, 795, 798] (by decide +kernel) (by decide +kernel)
set_option maxRecDepth 20000 in
theorem inL_r12 : GoodIn lw_tbl wsL_law_r12 := goodIn_p wsL_law_r12 [304, 802, 309, 807, 313, 316] (by decide +kernel) (by decide +kernel)
set_option maxRecDepth 20000 in
theorem inL_r13 : GoodIn lw_tbl wsL_law_r13 := goodIn_p wsL_law_r13 [811, 323, 327, 333, 336] (by decide +kernel) (by decide +kernel)
set_option maxRecDepth 20000 in
theorem inL_r14 : GoodIn lw_tbl wsL_law_r14 := goodIn_p wsL_law_r14 [816, 820, 824, 340, 344, 828] (by decide +kernel) (by decide +kernel)
set_option maxRecDepth 20000 in
theorem inL_r15 : GoodIn lw_tbl wsL_law_r15 := goodIn_p wsL_law_r15 [832, 348, 353, 357, 361, 365] (by decide +kernel) (by decide +kernel)
set_option maxRecDepth 20000 in
theorem inL_r16 : GoodIn lw_tbl wsL_law_r16 := goodIn_p wsL_law_r16 [370, 373, 382, 836] (by decide +kernel) (by decide +kernel)
set_option maxRecDepth 20000 in
theorem inL_r17 : GoodIn lw_tbl wsL_law_r17 := goodIn_p wsL_law_r17 [841, 845, 849, 853, 857, 860] (by decide +kernel) (by decide +kernel)
set_option maxRecDepth 20000 in
theorem inL_r18 : GoodIn lw_tbl wsL_law_r18 := goodIn_p wsL_law_r18 [864, 868, 387, 391, 872, 876] (by decide +kernel) (by decide +kernel)
set_option maxRecDepth 20000 in
theorem inL_r19 : GoodIn lw_tbl wsL_law_r19 := goodIn_p wsL_law_r19 [879, 883, 395, 887, 400, 404] (by decide +kernel) (by decide +kernel)
set_option maxRecDepth 20000 in
theorem inL_r20 : GoodIn lw_tbl wsL_law_r20 := goodIn_p wsL_law_r20 [408, 414, 891, 895, 899] (by decide +kernel) (by decide +kernel)
set_option maxRecDepth 20000 in
theorem inL_r21 : GoodIn lw_tbl wsL_law_r21 := goodIn_p wsL_law_r21 [418, 904, 422, 908, 426, 912] (by decide +kernel) (by decide +kernel)
set_option maxRecDepth 20000 in
theorem inL_r22 : GoodIn lw_tbl wsL_law_r22 := goodIn_p wsL_law_r22 [916, 430, 920, 924, 434, 928] (by decide +kernel) (by decide +kernel)
set_option maxRecDepth 20000 in
theorem inL_r23 : GoodIn lw_tbl wsL_law_r23 := goodIn_p wsL_law_r23 [438, 932, 442, 936, 446, 450] (by decide +kernel) (by decide +kernel)
set_option maxRecDepth 20000 in
theorem inL_r24 : GoodIn lw_tbl wsL_law_r24 := goodIn_p wsL_law_r24 [940, 454, 944, 458, 462, 948] (by decide +kernel) (by decide +kernel)
set_option maxRecDepth 20000 in
theorem inL_r25 : GoodIn lw_tbl wsL_law_r25 := goodIn_p wsL_law_r25 [466, 952, 470, 474, 478, 482] (by decide +kernel) (by decide +kernel)
set_option maxRecDepth 20000 in
theorem inL_r26 : GoodIn lw_tbl wsL_law_r26 := goodIn_p wsL_law_r26 [485, 489, 492, 509, 513, 517] (by decide +kernel) (by decide +kernel)
set_option maxRecDepth 20000 in
theorem inL_r27 : GoodIn lw_tbl wsL_law_r27 := goodIn_p wsL_law_r27 [523, 527, 530, 533, 538] (by decide +kernel) (by decide +kernel)
set_option maxRecDepth 20000 in
theorem inL_r28 : GoodIn lw_tbl wsL_law_r28 := goodIn_p wsL_law_r28 [541, 544, 547, 551, 560, 564] (by decide +kernel) (by decide +kernel)
set_option maxRecDepth 20000 in
theorem inL_r29 : GoodIn lw_tbl wsL_law_r29 := goodIn_p wsL_law_r29 [569, 573, 577, 583] (by decide +kernel) (by decide +kernel)
set_option maxRecDepth 20000 in
theorem inL_r30 : GoodIn lw_tbl wsL_law_r30 := goodIn_p wsL_law_r30 [956, 960, 964, 968, 972] (by decide +kernel) (by decide +kernel)
set_option maxRecDepth 20000 in
theorem inL_r31 : GoodIn lw_tbl wsL_law_r31 := goodIn_p wsL_law_r31 [978, 982, 986, 990, 994, 587] (by decide +kernel) (by decide +kernel)
set_option maxRecDepth 20000 in
theorem inL_r32 : GoodIn lw_tbl wsL_law_r32 := goodIn_p wsL_law_r32 [592, 998, 1001, 596, 600] (by decide +kernel) (by decide +kernel)
set_option maxRecDepth 20000 in
theorem inL_r33 : GoodIn lw_tbl wsL_law_r33 := goodIn_p wsL_law_r33 [605, 1006, 1010, 1014, 609] (by decide +kernel) (by decide +kernel)
set_option maxRecDepth 20000 in
theorem inL_r34 : GoodIn lw_tbl wsL_law_r34 := goodIn_p wsL_law_r34 [613, 1018, 1022, 620, 1026] (by decide +kernel) (by decide +kernel)
set_option maxRecDepth 20000 in
theorem inL_r35 : GoodIn lw_tbl wsL_law_r35 := goodIn_p wsL_law_r35 [625, 1030, 1034, 629, 633, 1038] (by decide +kernel) (by decide +kernel)
set_option maxRecDepth 20000 in
theorem inL_r36 : GoodIn lw_tbl wsL_law_r36 := goodIn_p wsL_law_r36 [1042, 637, 1046, 641, 1050, 645] (by decide +kernel) (by decide +kernel)
set_option maxRecDepth 20000 in
theorem inL_r37 : GoodIn lw_tbl wsL_law_r37 := goodIn_p wsL_law_r37 [1054, 649, 652, 1058, 1062, 656] (by decide +kernel) (by decide +kernel)
set_option maxRecDepth 20000 in
theorem inL_r38 : GoodIn lw_tbl wsL_law_r38 := goodIn_p wsL_law_r38 [1066] (by decide +kernel) (by decide +kernel)
set_option maxRecDepth 20000 in
theorem inL_X3 : ∀ w ∈ wsX30, w ∈ lw_tbl := by decide +kernel
set_option maxRecDepth 20000 in
theorem inL_X4 : ∀ w ∈ wsX40, w ∈ lw_tbl := by decide +kernel
set_option maxRecDepth 20000 in
theorem inL_X0 : ∀ w ∈ wsX00, w ∈ lw_tbl := by decide +kernel
set_option maxRecDepth 20000 in
theorem inL_X2 : ∀ w ∈ wsX20, w ∈ lw_tbl := by decide +kernel
set_option maxRecDepth 20000 in
theorem inL_X1 : ∀ w ∈ wsX10, w ∈ lw_tbl := by decide +kernel
theorem wsL_law_in : ∀ w ∈ wsL_law, w ∈ lw_tbl := (List.forall_mem_append.mpr ⟨(List.forall_mem_append.mpr ⟨(List.forall_mem_append.mpr ⟨(List.forall_mem_append.mpr ⟨(List.forall_mem_append.mpr ⟨(List.forall_mem_append.mpr ⟨(List.forall_mem_append.mpr ⟨fun w h => (inL_r1 w h).1, (List.forall_mem_append.mpr ⟨fun w h => (inL_r2 w h).1, (List.forall_mem_append.mpr ⟨fun w h => (inL_r3 w h).1, (List.forall_mem_append.mpr ⟨fun w h => (inL_r4 w h).1, (List.forall_mem_append.mpr ⟨fun w h => (inL_r5 w h).1, (List.forall_mem_append.mpr ⟨fun w h => (inL_r6 w h).1, (List.forall_mem_append.mpr ⟨fun w h => (inL_r7 w h).1, (List.forall_mem_append.mpr ⟨fun w h => (inL_r8 w h).1, (List.forall_mem_append.mpr ⟨fun w h => (inL_r9 w h).1, (List.forall_mem_append.mpr ⟨fun w h => (inL_r10 w h).1, (List.forall_mem_append.mpr ⟨fun w h => (inL_r11 w h).1, (List.forall_mem_append.mpr ⟨fun w h => (inL_r12 w h).1, (List.forall_mem_append.mpr ⟨fun w h => (inL_r13 w h).1, (List.forall_mem_append.mpr ⟨fun w h => (inL_r14 w h).1, (List.forall_mem_append.mpr ⟨fun w h => (inL_r15 w h).1, (List.forall_mem_append.mpr ⟨fun w h => (inL_r16 w h).1, (List.forall_mem_append.mpr ⟨fun w h => (inL_r17 w h).1, (List.forall_mem_append.mpr ⟨fun w h => (inL_r18 w h).1, (List.forall_mem_append.mpr ⟨fun w h => (inL_r19 w h).1, (List.forall_mem_append.mpr ⟨fun w h => (inL_r20 w h).1, (List.forall_mem_append.mpr ⟨fun w h => (inL_r21 w h).1, (List.forall_mem_append.mpr ⟨fun w h => (inL_r22 w h).1, (List.forall_mem_append.mpr ⟨fun w h => (inL_r23 w h).1, (List.forall_mem_append.mpr ⟨fun w h => (inL_r24 w h).1, (List.forall_mem_append.mpr ⟨fun w h => (inL_r25 w h).1, (List.forall_mem_append.mpr ⟨fun w h => (inL_r26 w h).1, (List.forall_mem_append.mpr ⟨fun w h => (inL_r27 w h).1, (List.forall_mem_append.mpr ⟨fun w h => (inL_r28 w h).1, (List.forall_mem_append.mpr ⟨fun w h => (inL_r29 w h).1, (List.forall_mem_append.mpr ⟨fun w h => (inL_r30 w h).1, (List.forall_mem_append.mpr ⟨fun w h => (inL_r31 w h).1, (List.forall_mem_append.mpr ⟨fun w h => (inL_r32 w h).1, (List.forall_mem_append.mpr ⟨fun w h => (inL_r33 w h).1, (List.forall_mem_append.mpr ⟨fun w h => (inL_r34 w h).1, (List.forall_mem_append.mpr ⟨fun w h => (inL_r35 w h).1, (List.forall_mem_append.mpr ⟨fun w h => (inL_r36 w h).1, (List.forall_mem_append.mpr ⟨fun w h => (inL_r37 w h).1, (fun w h => (inL_r38 w h).1)⟩)⟩)⟩)⟩)⟩)⟩)⟩)⟩)⟩)⟩)⟩)⟩)⟩)⟩)⟩)⟩)⟩)⟩)⟩)⟩)⟩)⟩)⟩)⟩)⟩)⟩)⟩)⟩)⟩)⟩)⟩)⟩)⟩)⟩)⟩)⟩)⟩), inL_X3⟩), inL_X4⟩), inL_X0⟩), inL_X2⟩), inL_X1⟩), fun _ h => absurd h List.not_mem_nil⟩)
