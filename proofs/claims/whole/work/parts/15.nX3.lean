set_option maxRecDepth 20000 in
theorem ggX3_init_X0_init : GoodIn wsX3_init wsX0_init := goodIn_r _ [22, 23, 2, 3, 24, 25, 26, 27, 28, 29, 30, 17, 31, 32, 33, 34, 35, 36, 55, 56, 57, 58, 59, 60, 61, 62, 63, 64, 65, 66, 67] (by decide +kernel) (by decide +kernel)
set_option maxRecDepth 20000 in
theorem gX3_init_X0_init_n9 : GoodIn wsX3_init (wsX0_init) := ggX3_init_X0_init
set_option maxRecDepth 20000 in
theorem ggX3_init_X2_init : GoodIn wsX3_init wsX2_init := goodIn_r _ [38, 39, 2, 3, 40, 41, 42, 17, 43, 44, 45, 46, 47, 75, 76, 77, 78, 79, 80, 81] (by decide +kernel) (by decide +kernel)
set_option maxRecDepth 20000 in
theorem gX3_init_X2_init_n28 : GoodIn wsX3_init (wsX2_init) := ggX3_init_X2_init
set_option maxRecDepth 20000 in
theorem ggX3_init_X1_init : GoodIn wsX3_init wsX1_init := goodIn_r _ [49, 50, 2, 3, 51, 52, 53, 54, 82, 83, 84] (by decide +kernel) (by decide +kernel)
set_option maxRecDepth 20000 in
theorem gX3_init_X1_init_n43 : GoodIn wsX3_init (wsX1_init) := ggX3_init_X1_init
theorem dX3_init_0 : decode cX3_init 0 = .ok (.aload_n 0, 1) := by decide +kernel
theorem dX3_init_1 : decode cX3_init 1 = .ok (.invokespecial 1, 3) := by decide +kernel
theorem dX3_init_4 : decode cX3_init 4 = .ok (.aload_n 0, 1) := by decide +kernel
theorem dX3_init_5 : decode cX3_init 5 = .ok (.new 7, 3) := by decide +kernel
theorem dX3_init_8 : decode cX3_init 8 = .ok (.dup, 1) := by decide +kernel
theorem dX3_init_9 : decode cX3_init 9 = .ok (.invokespecial 9, 3) := by decide +kernel
theorem dX3_init_12 : decode cX3_init 12 = .ok (.putfield 10, 3) := by decide +kernel
theorem dX3_init_15 : decode cX3_init 15 = .ok (.aload_n 0, 1) := by decide +kernel
theorem dX3_init_16 : decode cX3_init 16 = .ok (.new 7, 3) := by decide +kernel
theorem dX3_init_19 : decode cX3_init 19 = .ok (.dup, 1) := by decide +kernel
theorem dX3_init_20 : decode cX3_init 20 = .ok (.invokespecial 9, 3) := by decide +kernel
theorem dX3_init_23 : decode cX3_init 23 = .ok (.putfield 16, 3) := by decide +kernel
theorem dX3_init_26 : decode cX3_init 26 = .ok (.aload_n 0, 1) := by decide +kernel
theorem dX3_init_27 : decode cX3_init 27 = .ok (.new 7, 3) := by decide +kernel
theorem dX3_init_30 : decode cX3_init 30 = .ok (.dup, 1) := by decide +kernel
theorem dX3_init_31 : decode cX3_init 31 = .ok (.invokespecial 9, 3) := by decide +kernel
theorem dX3_init_34 : decode cX3_init 34 = .ok (.putfield 19, 3) := by decide +kernel
theorem dX3_init_37 : decode cX3_init 37 = .ok (.aload_n 0, 1) := by decide +kernel
theorem dX3_init_38 : decode cX3_init 38 = .ok (.iconst 0, 1) := by decide +kernel
theorem dX3_init_39 : decode cX3_init 39 = .ok (.putfield 22, 3) := by decide +kernel
theorem dX3_init_42 : decode cX3_init 42 = .ok (.aload_n 0, 1) := by decide +kernel
theorem dX3_init_43 : decode cX3_init 43 = .ok (.new 26, 3) := by decide +kernel
theorem dX3_init_46 : decode cX3_init 46 = .ok (.dup, 1) := by decide +kernel
theorem dX3_init_47 : decode cX3_init 47 = .ok (.invokespecial 28, 3) := by decide +kernel
theorem dX3_init_50 : decode cX3_init 50 = .ok (.putfield 29, 3) := by decide +kernel
theorem dX3_init_53 : decode cX3_init 53 = .ok (.aload_n 0, 1) := by decide +kernel
theorem dX3_init_54 : decode cX3_init 54 = .ok (.iconst 4, 1) := by decide +kernel
theorem dX3_init_55 : decode cX3_init 55 = .ok (.anewarray 33, 3) := by decide +kernel
theorem dX3_init_58 : decode cX3_init 58 = .ok (.putfield 35, 3) := by decide +kernel
theorem dX3_init_61 : decode cX3_init 61 = .ok (.aload_n 0, 1) := by decide +kernel
theorem dX3_init_62 : decode cX3_init 62 = .ok (.bipush 7, 2) := by decide +kernel
theorem dX3_init_64 : decode cX3_init 64 = .ok (.newarray .int, 2) := by decide +kernel
theorem dX3_init_66 : decode cX3_init 66 = .ok (.putfield 39, 3) := by decide +kernel
theorem dX3_init_69 : decode cX3_init 69 = .ok (.iconst 0, 1) := by decide +kernel
theorem dX3_init_70 : decode cX3_init 70 = .ok (.istore_n 1, 1) := by decide +kernel
theorem dX3_init_71 : decode cX3_init 71 = .ok (.iload_n 1, 1) := by decide +kernel
theorem dX3_init_72 : decode cX3_init 72 = .ok (.iconst 4, 1) := by decide +kernel
theorem dX3_init_73 : decode cX3_init 73 = .ok (.if_icmp .ge 22, 3) := by decide +kernel
theorem dX3_init_76 : decode cX3_init 76 = .ok (.aload_n 0, 1) := by decide +kernel
theorem dX3_init_77 : decode cX3_init 77 = .ok (.getfield 35, 3) := by decide +kernel
theorem dX3_init_80 : decode cX3_init 80 = .ok (.iload_n 1, 1) := by decide +kernel
theorem dX3_init_81 : decode cX3_init 81 = .ok (.new 33, 3) := by decide +kernel
theorem dX3_init_84 : decode cX3_init 84 = .ok (.dup, 1) := by decide +kernel
theorem dX3_init_85 : decode cX3_init 85 = .ok (.invokespecial 43, 3) := by decide +kernel
theorem dX3_init_88 : decode cX3_init 88 = .ok (.aastore, 1) := by decide +kernel
theorem dX3_init_89 : decode cX3_init 89 = .ok (.iinc 1 1, 3) := by decide +kernel
theorem dX3_init_92 : decode cX3_init 92 = .ok (.goto (-21), 3) := by decide +kernel
theorem dX3_init_95 : decode cX3_init 95 = .ok (.return_, 1) := by decide +kernel
set_option maxRecDepth 20000 in
theorem ggX3_beam_X3_within : GoodIn wsX3_beam wsX3_within := goodIn_r _ [9] (by decide +kernel) (by decide +kernel)
set_option maxRecDepth 20000 in
theorem gX3_beam_X3_within : GoodIn wsX3_beam (va_wsS RX3 44 yX3_within wsX3_within) := goodIn_app (goodIn_of _ (by decide +kernel)) ggX3_beam_X3_within
set_option maxRecDepth 20000 in
theorem ggX3_beam_X3_found : GoodIn wsX3_beam wsX3_found := goodIn_r _ [13, 5, 14, 6, 7, 8, 9, 15, 16, 17, 18, 19, 20, 21] (by decide +kernel) (by decide +kernel)
set_option maxRecDepth 20000 in
theorem gX3_beam_X3_found : GoodIn wsX3_beam (wsV RX3 59 RX3 yX3_found wsX3_found) := goodIn_app (goodIn_of _ (by decide +kernel)) ggX3_beam_X3_found
theorem dX3_beam_0 : decode cX3_beam 0 = .ok (.iload_n 1, 1) := by decide +kernel
theorem dX3_beam_1 : decode cX3_beam 1 = .ok (.ifCond .ne 32, 3) := by decide +kernel
theorem dX3_beam_4 : decode cX3_beam 4 = .ok (.iload_n 2, 1) := by decide +kernel
theorem dX3_beam_5 : decode cX3_beam 5 = .ok (.iconst 0, 1) := by decide +kernel
theorem dX3_beam_6 : decode cX3_beam 6 = .ok (.bipush 59, 2) := by decide +kernel
theorem dX3_beam_8 : decode cX3_beam 8 = .ok (.invokestatic 44, 3) := by decide +kernel
theorem dX3_beam_11 : decode cX3_beam 11 = .ok (.ifCond .eq 22, 3) := by decide +kernel
theorem dX3_beam_14 : decode cX3_beam 14 = .ok (.aload_n 0, 1) := by decide +kernel
theorem dX3_beam_15 : decode cX3_beam 15 = .ok (.getfield 10, 3) := by decide +kernel
theorem dX3_beam_18 : decode cX3_beam 18 = .ok (.getfield 48, 3) := by decide +kernel
theorem dX3_beam_21 : decode cX3_beam 21 = .ok (.istore_n 3, 1) := by decide +kernel
theorem dX3_beam_22 : decode cX3_beam 22 = .ok (.aload_n 0, 1) := by decide +kernel
theorem dX3_beam_23 : decode cX3_beam 23 = .ok (.getfield 10, 3) := by decide +kernel
theorem dX3_beam_26 : decode cX3_beam 26 = .ok (.iload_n 2, 1) := by decide +kernel
theorem dX3_beam_27 : decode cX3_beam 27 = .ok (.putfield 48, 3) := by decide +kernel
theorem dX3_beam_30 : decode cX3_beam 30 = .ok (.goto 78, 3) := by decide +kernel
theorem dX3_beam_33 : decode cX3_beam 33 = .ok (.iload_n 1, 1) := by decide +kernel
theorem dX3_beam_34 : decode cX3_beam 34 = .ok (.iconst 1, 1) := by decide +kernel
theorem dX3_beam_35 : decode cX3_beam 35 = .ok (.if_icmp .ne 32, 3) := by decide +kernel
theorem dX3_beam_38 : decode cX3_beam 38 = .ok (.iload_n 2, 1) := by decide +kernel
theorem dX3_beam_39 : decode cX3_beam 39 = .ok (.iconst 1, 1) := by decide +kernel
theorem dX3_beam_40 : decode cX3_beam 40 = .ok (.bipush 10, 2) := by decide +kernel
theorem dX3_beam_42 : decode cX3_beam 42 = .ok (.invokestatic 44, 3) := by decide +kernel
theorem dX3_beam_45 : decode cX3_beam 45 = .ok (.ifCond .eq 22, 3) := by decide +kernel
theorem dX3_beam_48 : decode cX3_beam 48 = .ok (.aload_n 0, 1) := by decide +kernel
theorem dX3_beam_49 : decode cX3_beam 49 = .ok (.getfield 10, 3) := by decide +kernel
theorem dX3_beam_52 : decode cX3_beam 52 = .ok (.getfield 52, 3) := by decide +kernel
theorem dX3_beam_55 : decode cX3_beam 55 = .ok (.istore_n 3, 1) := by decide +kernel
theorem dX3_beam_56 : decode cX3_beam 56 = .ok (.aload_n 0, 1) := by decide +kernel
theorem dX3_beam_57 : decode cX3_beam 57 = .ok (.getfield 10, 3) := by decide +kernel
theorem dX3_beam_60 : decode cX3_beam 60 = .ok (.iload_n 2, 1) := by decide +kernel
theorem dX3_beam_61 : decode cX3_beam 61 = .ok (.putfield 52, 3) := by decide +kernel
theorem dX3_beam_64 : decode cX3_beam 64 = .ok (.goto 44, 3) := by decide +kernel
theorem dX3_beam_67 : decode cX3_beam 67 = .ok (.iload_n 1, 1) := by decide +kernel
theorem dX3_beam_68 : decode cX3_beam 68 = .ok (.iconst 2, 1) := by decide +kernel
theorem dX3_beam_69 : decode cX3_beam 69 = .ok (.if_icmp .ne 32, 3) := by decide +kernel
theorem dX3_beam_72 : decode cX3_beam 72 = .ok (.iload_n 2, 1) := by decide +kernel
theorem dX3_beam_73 : decode cX3_beam 73 = .ok (.iconst 1, 1) := by decide +kernel
theorem dX3_beam_74 : decode cX3_beam 74 = .ok (.bipush 40, 2) := by decide +kernel
theorem dX3_beam_76 : decode cX3_beam 76 = .ok (.invokestatic 44, 3) := by decide +kernel
theorem dX3_beam_79 : decode cX3_beam 79 = .ok (.ifCond .eq 22, 3) := by decide +kernel
theorem dX3_beam_82 : decode cX3_beam 82 = .ok (.aload_n 0, 1) := by decide +kernel
theorem dX3_beam_83 : decode cX3_beam 83 = .ok (.getfield 10, 3) := by decide +kernel
theorem dX3_beam_86 : decode cX3_beam 86 = .ok (.getfield 55, 3) := by decide +kernel
theorem dX3_beam_89 : decode cX3_beam 89 = .ok (.istore_n 3, 1) := by decide +kernel
theorem dX3_beam_90 : decode cX3_beam 90 = .ok (.aload_n 0, 1) := by decide +kernel
theorem dX3_beam_91 : decode cX3_beam 91 = .ok (.getfield 10, 3) := by decide +kernel
theorem dX3_beam_94 : decode cX3_beam 94 = .ok (.iload_n 2, 1) := by decide +kernel
theorem dX3_beam_95 : decode cX3_beam 95 = .ok (.putfield 55, 3) := by decide +kernel
theorem dX3_beam_98 : decode cX3_beam 98 = .ok (.goto 10, 3) := by decide +kernel
theorem dX3_beam_101 : decode cX3_beam 101 = .ok (.aload_n 0, 1) := by decide +kernel
theorem dX3_beam_102 : decode cX3_beam 102 = .ok (.ldc 58, 2) := by decide +kernel
theorem dX3_beam_104 : decode cX3_beam 104 = .ok (.invokevirtual 59, 3) := by decide +kernel
theorem dX3_beam_107 : decode cX3_beam 107 = .ok (.ireturn, 1) := by decide +kernel
theorem dX3_beam_108 : decode cX3_beam 108 = .ok (.iload_n 3, 1) := by decide +kernel
theorem dX3_beam_109 : decode cX3_beam 109 = .ok (.ireturn, 1) := by decide +kernel
set_option maxRecDepth 20000 in
theorem ggX3_now_X0_weightOfAll : GoodIn wsX3_now wsX0_weightOfAll := goodIn_r _ [13, 14, 15, 16, 17, 12, 18, 19, 20, 21, 22, 23, 24, 25, 42, 43, 44, 45, 46, 47, 48, 49, 50, 51, 52, 53, 54] (by decide +kernel) (by decide +kernel)
set_option maxRecDepth 20000 in
theorem gX3_now_X0_weightOfAll : GoodIn wsX3_now (wsV RX3 72 RX0 yX0_weightOfAll wsX0_weightOfAll) := goodIn_app (goodIn_of _ (by decide +kernel)) ggX3_now_X0_weightOfAll
set_option maxRecDepth 20000 in
theorem ggX3_now_X3_found : GoodIn wsX3_now wsX3_found := goodIn_r _ [30, 8, 31, 32, 33, 29, 34, 35, 36, 37, 38, 39, 40, 41] (by decide +kernel) (by decide +kernel)
set_option maxRecDepth 20000 in
theorem gX3_now_X3_found : GoodIn wsX3_now (wsV RX3 59 RX3 yX3_found wsX3_found) := goodIn_app (goodIn_of _ (by decide +kernel)) ggX3_now_X3_found
theorem dX3_now_0 : decode cX3_now 0 = .ok (.iload_n 1, 1) := by decide +kernel
theorem dX3_now_1 : decode cX3_now 1 = .ok (.tableswitch 99 0 6 #[43, 51, 59, 67, 75, 83, 91], 43) := by decide +kernel
theorem dX3_now_44 : decode cX3_now 44 = .ok (.aload_n 0, 1) := by decide +kernel
theorem dX3_now_45 : decode cX3_now 45 = .ok (.getfield 10, 3) := by decide +kernel
theorem dX3_now_48 : decode cX3_now 48 = .ok (.getfield 63, 3) := by decide +kernel
theorem dX3_now_51 : decode cX3_now 51 = .ok (.ireturn, 1) := by decide +kernel
theorem dX3_now_52 : decode cX3_now 52 = .ok (.aload_n 0, 1) := by decide +kernel
theorem dX3_now_53 : decode cX3_now 53 = .ok (.getfield 10, 3) := by decide +kernel
theorem dX3_now_56 : decode cX3_now 56 = .ok (.getfield 48, 3) := by decide +kernel
theorem dX3_now_59 : decode cX3_now 59 = .ok (.ireturn, 1) := by decide +kernel
theorem dX3_now_60 : decode cX3_now 60 = .ok (.aload_n 0, 1) := by decide +kernel
theorem dX3_now_61 : decode cX3_now 61 = .ok (.getfield 10, 3) := by decide +kernel
theorem dX3_now_64 : decode cX3_now 64 = .ok (.getfield 52, 3) := by decide +kernel
theorem dX3_now_67 : decode cX3_now 67 = .ok (.ireturn, 1) := by decide +kernel
theorem dX3_now_68 : decode cX3_now 68 = .ok (.aload_n 0, 1) := by decide +kernel
theorem dX3_now_69 : decode cX3_now 69 = .ok (.getfield 10, 3) := by decide +kernel
theorem dX3_now_72 : decode cX3_now 72 = .ok (.getfield 55, 3) := by decide +kernel
theorem dX3_now_75 : decode cX3_now 75 = .ok (.ireturn, 1) := by decide +kernel
theorem dX3_now_76 : decode cX3_now 76 = .ok (.aload_n 0, 1) := by decide +kernel
theorem dX3_now_77 : decode cX3_now 77 = .ok (.getfield 10, 3) := by decide +kernel
theorem dX3_now_80 : decode cX3_now 80 = .ok (.getfield 66, 3) := by decide +kernel
theorem dX3_now_83 : decode cX3_now 83 = .ok (.ireturn, 1) := by decide +kernel
theorem dX3_now_84 : decode cX3_now 84 = .ok (.aload_n 0, 1) := by decide +kernel
theorem dX3_now_85 : decode cX3_now 85 = .ok (.getfield 10, 3) := by decide +kernel
theorem dX3_now_88 : decode cX3_now 88 = .ok (.getfield 69, 3) := by decide +kernel
theorem dX3_now_91 : decode cX3_now 91 = .ok (.ireturn, 1) := by decide +kernel
theorem dX3_now_92 : decode cX3_now 92 = .ok (.aload_n 0, 1) := by decide +kernel
theorem dX3_now_93 : decode cX3_now 93 = .ok (.getfield 10, 3) := by decide +kernel
theorem dX3_now_96 : decode cX3_now 96 = .ok (.invokevirtual 72, 3) := by decide +kernel
theorem dX3_now_99 : decode cX3_now 99 = .ok (.ireturn, 1) := by decide +kernel
theorem dX3_now_100 : decode cX3_now 100 = .ok (.aload_n 0, 1) := by decide +kernel
theorem dX3_now_101 : decode cX3_now 101 = .ok (.ldc 58, 2) := by decide +kernel
theorem dX3_now_103 : decode cX3_now 103 = .ok (.invokevirtual 59, 3) := by decide +kernel
theorem dX3_now_106 : decode cX3_now 106 = .ok (.ireturn, 1) := by decide +kernel
set_option maxRecDepth 20000 in
theorem ggX3_load_X3_within : GoodIn wsX3_load wsX3_within := goodIn_r _ [6] (by decide +kernel) (by decide +kernel)
set_option maxRecDepth 20000 in
theorem gX3_load_X3_within : GoodIn wsX3_load (va_wsS RX3 44 yX3_within wsX3_within) := goodIn_app (goodIn_of _ (by decide +kernel)) ggX3_load_X3_within
set_option maxRecDepth 20000 in
theorem ggX3_load_X3_found : GoodIn wsX3_load wsX3_found := goodIn_r _ [10, 1, 11, 3, 4, 5, 6, 39, 40, 41, 42, 43, 44, 45] (by decide +kernel) (by decide +kernel)
set_option maxRecDepth 20000 in
theorem gX3_load_X3_found : GoodIn wsX3_load (wsV RX3 59 RX3 yX3_found wsX3_found) := goodIn_app (goodIn_of _ (by decide +kernel)) ggX3_load_X3_found
set_option maxRecDepth 20000 in
theorem ggX3_load_X0_bears : GoodIn wsX3_load wsX0_bears := goodIn_r _ [16, 17, 18, 19, 20, 21, 46, 47, 48, 49, 50, 51, 52, 53, 54, 55, 56, 57, 58] (by decide +kernel) (by decide +kernel)
set_option maxRecDepth 20000 in
theorem gX3_load_X0_bears : GoodIn wsX3_load (wsV RX3 76 RX0 yX0_bears wsX0_bears) := goodIn_app (goodIn_of _ (by decide +kernel)) ggX3_load_X0_bears
set_option maxRecDepth 20000 in
theorem ggX3_load_X0_weightAt : GoodIn wsX3_load wsX0_weightAt := goodIn_r _ [25, 26, 27, 28, 29, 30, 15, 31, 32, 33, 34, 35, 36, 37, 38, 46, 47, 48, 49, 50, 51, 52, 53, 54, 55, 56, 57, 58] (by decide +kernel) (by decide +kernel)
set_option maxRecDepth 20000 in
theorem gX3_load_X0_weightAt : GoodIn wsX3_load (wsV RX3 79 RX0 yX0_weightAt wsX0_weightAt) := goodIn_app (goodIn_of _ (by decide +kernel)) ggX3_load_X0_weightAt
theorem dX3_load_0 : decode cX3_load 0 = .ok (.iload_n 1, 1) := by decide +kernel
theorem dX3_load_1 : decode cX3_load 1 = .ok (.iconst 0, 1) := by decide +kernel
theorem dX3_load_2 : decode cX3_load 2 = .ok (.bipush 9, 2) := by decide +kernel
theorem dX3_load_4 : decode cX3_load 4 = .ok (.invokestatic 44, 3) := by decide +kernel
theorem dX3_load_7 : decode cX3_load 7 = .ok (.ifCond .eq 12, 3) := by decide +kernel
theorem dX3_load_10 : decode cX3_load 10 = .ok (.iload_n 2, 1) := by decide +kernel
theorem dX3_load_11 : decode cX3_load 11 = .ok (.iconst 0, 1) := by decide +kernel
theorem dX3_load_12 : decode cX3_load 12 = .ok (.iconst 1, 1) := by decide +kernel
theorem dX3_load_13 : decode cX3_load 13 = .ok (.invokestatic 44, 3) := by decide +kernel
theorem dX3_load_16 : decode cX3_load 16 = .ok (.ifCond .ne 10, 3) := by decide +kernel
theorem dX3_load_19 : decode cX3_load 19 = .ok (.aload_n 0, 1) := by decide +kernel
theorem dX3_load_20 : decode cX3_load 20 = .ok (.ldc 58, 2) := by decide +kernel
theorem dX3_load_22 : decode cX3_load 22 = .ok (.invokevirtual 59, 3) := by decide +kernel
theorem dX3_load_25 : decode cX3_load 25 = .ok (.ireturn, 1) := by decide +kernel
theorem dX3_load_26 : decode cX3_load 26 = .ok (.iload_n 2, 1) := by decide +kernel
theorem dX3_load_27 : decode cX3_load 27 = .ok (.ifCond .ne 14, 3) := by decide +kernel
theorem dX3_load_30 : decode cX3_load 30 = .ok (.aload_n 0, 1) := by decide +kernel
theorem dX3_load_31 : decode cX3_load 31 = .ok (.getfield 10, 3) := by decide +kernel
theorem dX3_load_34 : decode cX3_load 34 = .ok (.iload_n 1, 1) := by decide +kernel
theorem dX3_load_35 : decode cX3_load 35 = .ok (.invokevirtual 76, 3) := by decide +kernel
theorem dX3_load_38 : decode cX3_load 38 = .ok (.goto 11, 3) := by decide +kernel
theorem dX3_load_41 : decode cX3_load 41 = .ok (.aload_n 0, 1) := by decide +kernel
theorem dX3_load_42 : decode cX3_load 42 = .ok (.getfield 10, 3) := by decide +kernel
theorem dX3_load_45 : decode cX3_load 45 = .ok (.iload_n 1, 1) := by decide +kernel
theorem dX3_load_46 : decode cX3_load 46 = .ok (.invokevirtual 79, 3) := by decide +kernel
theorem dX3_load_49 : decode cX3_load 49 = .ok (.ireturn, 1) := by decide +kernel
set_option maxRecDepth 20000 in
theorem ggX3_thing_X3_within : GoodIn wsX3_thing wsX3_within := goodIn_r _ [8] (by decide +kernel) (by decide +kernel)
set_option maxRecDepth 20000 in
theorem gX3_thing_X3_within : GoodIn wsX3_thing (va_wsS RX3 44 yX3_within wsX3_within) := goodIn_app (goodIn_of _ (by decide +kernel)) ggX3_thing_X3_within
set_option maxRecDepth 20000 in
theorem ggX3_thing_X3_found : GoodIn wsX3_thing wsX3_found := goodIn_r _ [12, 1, 13, 5, 6, 7, 8, 26, 27, 28, 29, 30, 31, 32] (by decide +kernel) (by decide +kernel)
set_option maxRecDepth 20000 in
theorem gX3_thing_X3_found : GoodIn wsX3_thing (wsV RX3 59 RX3 yX3_found wsX3_found) := goodIn_app (goodIn_of _ (by decide +kernel)) ggX3_thing_X3_found
set_option maxRecDepth 20000 in
theorem ggX3_thing_X0_add : GoodIn wsX3_thing wsX0_add := goodIn_r _ [18, 19, 20, 21, 22, 23, 24, 25, 33, 34, 35, 36, 37, 38, 39, 40, 41, 42, 43, 44, 45] (by decide +kernel) (by decide +kernel)
set_option maxRecDepth 20000 in
theorem gX3_thing_X0_add : GoodIn wsX3_thing (wsV RX3 86 RX0 yX0_add wsX0_add) := goodIn_app (goodIn_of _ (by decide +kernel)) ggX3_thing_X0_add
theorem dX3_thing_0 : decode cX3_thing 0 = .ok (.iload_n 1, 1) := by decide +kernel
theorem dX3_thing_1 : decode cX3_thing 1 = .ok (.iconst 0, 1) := by decide +kernel
theorem dX3_thing_2 : decode cX3_thing 2 = .ok (.iconst 5, 1) := by decide +kernel
theorem dX3_thing_3 : decode cX3_thing 3 = .ok (.invokestatic 44, 3) := by decide +kernel
theorem dX3_thing_6 : decode cX3_thing 6 = .ok (.ifCond .eq 13, 3) := by decide +kernel
theorem dX3_thing_9 : decode cX3_thing 9 = .ok (.iload_n 2, 1) := by decide +kernel
theorem dX3_thing_10 : decode cX3_thing 10 = .ok (.iconst 0, 1) := by decide +kernel
theorem dX3_thing_11 : decode cX3_thing 11 = .ok (.bipush 59, 2) := by decide +kernel
theorem dX3_thing_13 : decode cX3_thing 13 = .ok (.invokestatic 44, 3) := by decide +kernel
theorem dX3_thing_16 : decode cX3_thing 16 = .ok (.ifCond .ne 10, 3) := by decide +kernel
theorem dX3_thing_19 : decode cX3_thing 19 = .ok (.aload_n 0, 1) := by decide +kernel
theorem dX3_thing_20 : decode cX3_thing 20 = .ok (.ldc 58, 2) := by decide +kernel
theorem dX3_thing_22 : decode cX3_thing 22 = .ok (.invokevirtual 59, 3) := by decide +kernel
theorem dX3_thing_25 : decode cX3_thing 25 = .ok (.ireturn, 1) := by decide +kernel
theorem dX3_thing_26 : decode cX3_thing 26 = .ok (.aload_n 0, 1) := by decide +kernel
theorem dX3_thing_27 : decode cX3_thing 27 = .ok (.getfield 10, 3) := by decide +kernel
theorem dX3_thing_30 : decode cX3_thing 30 = .ok (.getfield 82, 3) := by decide +kernel
theorem dX3_thing_33 : decode cX3_thing 33 = .ok (.bipush 8, 2) := by decide +kernel
theorem dX3_thing_35 : decode cX3_thing 35 = .ok (.if_icmp .lt 10, 3) := by decide +kernel
theorem dX3_thing_38 : decode cX3_thing 38 = .ok (.aload_n 0, 1) := by decide +kernel
theorem dX3_thing_39 : decode cX3_thing 39 = .ok (.ldc 85, 2) := by decide +kernel
theorem dX3_thing_41 : decode cX3_thing 41 = .ok (.invokevirtual 59, 3) := by decide +kernel
theorem dX3_thing_44 : decode cX3_thing 44 = .ok (.ireturn, 1) := by decide +kernel
theorem dX3_thing_45 : decode cX3_thing 45 = .ok (.aload_n 0, 1) := by decide +kernel
theorem dX3_thing_46 : decode cX3_thing 46 = .ok (.getfield 10, 3) := by decide +kernel
theorem dX3_thing_49 : decode cX3_thing 49 = .ok (.iload_n 1, 1) := by decide +kernel
theorem dX3_thing_50 : decode cX3_thing 50 = .ok (.iload_n 2, 1) := by decide +kernel
theorem dX3_thing_51 : decode cX3_thing 51 = .ok (.invokevirtual 86, 3) := by decide +kernel
theorem dX3_thing_54 : decode cX3_thing 54 = .ok (.ireturn, 1) := by decide +kernel
set_option maxRecDepth 20000 in
theorem ggX3_of_X0_has : GoodIn wsX3_of wsX0_has := goodIn_r _ [13, 14, 53, 54, 55, 56, 57, 58, 59, 60, 61, 62, 63, 64, 65] (by decide +kernel) (by decide +kernel)
set_option maxRecDepth 20000 in
theorem gX3_of_X0_has : GoodIn wsX3_of (wsV RX3 90 RX0 yX0_has wsX0_has) := goodIn_app (goodIn_of _ (by decide +kernel)) ggX3_of_X0_has
set_option maxRecDepth 20000 in
theorem ggX3_of_X3_found : GoodIn wsX3_of wsX3_found := goodIn_r _ [19, 2, 20, 21, 22, 18, 23, 46, 47, 48, 49, 50, 51, 52] (by decide +kernel) (by decide +kernel)
set_option maxRecDepth 20000 in
theorem gX3_of_X3_found : GoodIn wsX3_of (wsV RX3 59 RX3 yX3_found wsX3_found) := goodIn_app (goodIn_of _ (by decide +kernel)) ggX3_of_X3_found
set_option maxRecDepth 20000 in
theorem ggX3_of_X0_isOn : GoodIn wsX3_of wsX0_isOn := goodIn_r _ [27, 28, 53, 54, 55, 56, 57, 58, 59, 60, 61, 62, 63, 64, 65] (by decide +kernel) (by decide +kernel)
set_option maxRecDepth 20000 in
theorem gX3_of_X0_isOn : GoodIn wsX3_of (wsV RX3 103 RX0 yX0_isOn wsX0_isOn) := goodIn_app (goodIn_of _ (by decide +kernel)) ggX3_of_X0_isOn
set_option maxRecDepth 20000 in
theorem ggX3_of_X0_isLost : GoodIn wsX3_of wsX0_isLost := goodIn_r _ [32, 33, 53, 54, 55, 56, 57, 58, 59, 60, 61, 62, 63, 64, 65] (by decide +kernel) (by decide +kernel)
set_option maxRecDepth 20000 in
theorem gX3_of_X0_isLost : GoodIn wsX3_of (wsV RX3 112 RX0 yX0_isLost wsX0_isLost) := goodIn_app (goodIn_of _ (by decide +kernel)) ggX3_of_X0_isLost
set_option maxRecDepth 20000 in
theorem ggX3_of_X0_weightOf : GoodIn wsX3_of wsX0_weightOf := goodIn_r _ [37, 38, 39, 53, 54, 55, 56, 57, 58, 59, 60, 61, 62, 63, 64, 65] (by decide +kernel) (by decide +kernel)
set_option maxRecDepth 20000 in
theorem gX3_of_X0_weightOf : GoodIn wsX3_of (wsV RX3 118 RX0 yX0_weightOf wsX0_weightOf) := goodIn_app (goodIn_of _ (by decide +kernel)) ggX3_of_X0_weightOf
set_option maxRecDepth 20000 in
theorem ggX3_of_X0_dries : GoodIn wsX3_of wsX0_dries := goodIn_r _ [43, 44, 39, 45, 53, 54, 55, 56, 57, 58, 59, 60, 61, 62, 63, 64, 65] (by decide +kernel) (by decide +kernel)
set_option maxRecDepth 20000 in
theorem gX3_of_X0_dries : GoodIn wsX3_of (wsV RX3 121 RX0 yX0_dries wsX0_dries) := goodIn_app (goodIn_of _ (by decide +kernel)) ggX3_of_X0_dries
theorem dX3_of_0 : decode cX3_of 0 = .ok (.aload_n 0, 1) := by decide +kernel
theorem dX3_of_1 : decode cX3_of 1 = .ok (.getfield 10, 3) := by decide +kernel
theorem dX3_of_4 : decode cX3_of 4 = .ok (.iload_n 1, 1) := by decide +kernel
theorem dX3_of_5 : decode cX3_of 5 = .ok (.invokevirtual 90, 3) := by decide +kernel
theorem dX3_of_8 : decode cX3_of 8 = .ok (.ifCond .ne 10, 3) := by decide +kernel
theorem dX3_of_11 : decode cX3_of 11 = .ok (.aload_n 0, 1) := by decide +kernel
theorem dX3_of_12 : decode cX3_of 12 = .ok (.ldc 58, 2) := by decide +kernel
theorem dX3_of_14 : decode cX3_of 14 = .ok (.invokevirtual 59, 3) := by decide +kernel
theorem dX3_of_17 : decode cX3_of 17 = .ok (.ireturn, 1) := by decide +kernel
theorem dX3_of_18 : decode cX3_of 18 = .ok (.iload_n 2, 1) := by decide +kernel
theorem dX3_of_19 : decode cX3_of 19 = .ok (.tableswitch 165 0 9 #[53, 63, 73, 83, 100, 110, 120, 137, 147, 156], 53) := by decide +kernel
theorem dX3_of_72 : decode cX3_of 72 = .ok (.aload_n 0, 1) := by decide +kernel
theorem dX3_of_73 : decode cX3_of 73 = .ok (.getfield 10, 3) := by decide +kernel
theorem dX3_of_76 : decode cX3_of 76 = .ok (.getfield 94, 3) := by decide +kernel
theorem dX3_of_79 : decode cX3_of 79 = .ok (.iload_n 1, 1) := by decide +kernel
theorem dX3_of_80 : decode cX3_of 80 = .ok (.iaload, 1) := by decide +kernel
theorem dX3_of_81 : decode cX3_of 81 = .ok (.ireturn, 1) := by decide +kernel
theorem dX3_of_82 : decode cX3_of 82 = .ok (.aload_n 0, 1) := by decide +kernel
theorem dX3_of_83 : decode cX3_of 83 = .ok (.getfield 10, 3) := by decide +kernel
theorem dX3_of_86 : decode cX3_of 86 = .ok (.getfield 97, 3) := by decide +kernel
theorem dX3_of_89 : decode cX3_of 89 = .ok (.iload_n 1, 1) := by decide +kernel
theorem dX3_of_90 : decode cX3_of 90 = .ok (.iaload, 1) := by decide +kernel
theorem dX3_of_91 : decode cX3_of 91 = .ok (.ireturn, 1) := by decide +kernel
theorem dX3_of_92 : decode cX3_of 92 = .ok (.aload_n 0, 1) := by decide +kernel
theorem dX3_of_93 : decode cX3_of 93 = .ok (.getfield 10, 3) := by decide +kernel
theorem dX3_of_96 : decode cX3_of 96 = .ok (.getfield 100, 3) := by decide +kernel
theorem dX3_of_99 : decode cX3_of 99 = .ok (.iload_n 1, 1) := by decide +kernel
theorem dX3_of_100 : decode cX3_of 100 = .ok (.iaload, 1) := by decide +kernel
theorem dX3_of_101 : decode cX3_of 101 = .ok (.ireturn, 1) := by decide +kernel
theorem dX3_of_102 : decode cX3_of 102 = .ok (.aload_n 0, 1) := by decide +kernel
theorem dX3_of_103 : decode cX3_of 103 = .ok (.getfield 10, 3) := by decide +kernel
theorem dX3_of_106 : decode cX3_of 106 = .ok (.iload_n 1, 1) := by decide +kernel
theorem dX3_of_107 : decode cX3_of 107 = .ok (.invokevirtual 103, 3) := by decide +kernel
theorem dX3_of_110 : decode cX3_of 110 = .ok (.ifCond .eq 7, 3) := by decide +kernel
theorem dX3_of_113 : decode cX3_of 113 = .ok (.iconst 1, 1) := by decide +kernel
theorem dX3_of_114 : decode cX3_of 114 = .ok (.goto 4, 3) := by decide +kernel
theorem dX3_of_117 : decode cX3_of 117 = .ok (.iconst 0, 1) := by decide +kernel
theorem dX3_of_118 : decode cX3_of 118 = .ok (.ireturn, 1) := by decide +kernel
theorem dX3_of_119 : decode cX3_of 119 = .ok (.aload_n 0, 1) := by decide +kernel
theorem dX3_of_120 : decode cX3_of 120 = .ok (.getfield 10, 3) := by decide +kernel
theorem dX3_of_123 : decode cX3_of 123 = .ok (.getfield 106, 3) := by decide +kernel
theorem dX3_of_126 : decode cX3_of 126 = .ok (.iload_n 1, 1) := by decide +kernel
theorem dX3_of_127 : decode cX3_of 127 = .ok (.iaload, 1) := by decide +kernel
theorem dX3_of_128 : decode cX3_of 128 = .ok (.ireturn, 1) := by decide +kernel
theorem dX3_of_129 : decode cX3_of 129 = .ok (.aload_n 0, 1) := by decide +kernel
theorem dX3_of_130 : decode cX3_of 130 = .ok (.getfield 10, 3) := by decide +kernel
theorem dX3_of_133 : decode cX3_of 133 = .ok (.getfield 109, 3) := by decide +kernel
theorem dX3_of_136 : decode cX3_of 136 = .ok (.iload_n 1, 1) := by decide +kernel
theorem dX3_of_137 : decode cX3_of 137 = .ok (.iaload, 1) := by decide +kernel
theorem dX3_of_138 : decode cX3_of 138 = .ok (.ireturn, 1) := by decide +kernel
theorem dX3_of_139 : decode cX3_of 139 = .ok (.aload_n 0, 1) := by decide +kernel
theorem dX3_of_140 : decode cX3_of 140 = .ok (.getfield 10, 3) := by decide +kernel
theorem dX3_of_143 : decode cX3_of 143 = .ok (.iload_n 1, 1) := by decide +kernel
theorem dX3_of_144 : decode cX3_of 144 = .ok (.invokevirtual 112, 3) := by decide +kernel
theorem dX3_of_147 : decode cX3_of 147 = .ok (.ifCond .eq 7, 3) := by decide +kernel
theorem dX3_of_150 : decode cX3_of 150 = .ok (.iconst 1, 1) := by decide +kernel
theorem dX3_of_151 : decode cX3_of 151 = .ok (.goto 4, 3) := by decide +kernel
theorem dX3_of_154 : decode cX3_of 154 = .ok (.iconst 0, 1) := by decide +kernel
theorem dX3_of_155 : decode cX3_of 155 = .ok (.ireturn, 1) := by decide +kernel
theorem dX3_of_156 : decode cX3_of 156 = .ok (.aload_n 0, 1) := by decide +kernel
theorem dX3_of_157 : decode cX3_of 157 = .ok (.getfield 10, 3) := by decide +kernel
theorem dX3_of_160 : decode cX3_of 160 = .ok (.getfield 115, 3) := by decide +kernel
theorem dX3_of_163 : decode cX3_of 163 = .ok (.iload_n 1, 1) := by decide +kernel
theorem dX3_of_164 : decode cX3_of 164 = .ok (.iaload, 1) := by decide +kernel
theorem dX3_of_165 : decode cX3_of 165 = .ok (.ireturn, 1) := by decide +kernel
theorem dX3_of_166 : decode cX3_of 166 = .ok (.aload_n 0, 1) := by decide +kernel
theorem dX3_of_167 : decode cX3_of 167 = .ok (.getfield 10, 3) := by decide +kernel
theorem dX3_of_170 : decode cX3_of 170 = .ok (.iload_n 1, 1) := by decide +kernel
theorem dX3_of_171 : decode cX3_of 171 = .ok (.invokevirtual 118, 3) := by decide +kernel
theorem dX3_of_174 : decode cX3_of 174 = .ok (.ireturn, 1) := by decide +kernel
theorem dX3_of_175 : decode cX3_of 175 = .ok (.aload_n 0, 1) := by decide +kernel
theorem dX3_of_176 : decode cX3_of 176 = .ok (.getfield 10, 3) := by decide +kernel
theorem dX3_of_179 : decode cX3_of 179 = .ok (.iload_n 1, 1) := by decide +kernel
theorem dX3_of_180 : decode cX3_of 180 = .ok (.invokevirtual 121, 3) := by decide +kernel
theorem dX3_of_183 : decode cX3_of 183 = .ok (.ireturn, 1) := by decide +kernel
theorem dX3_of_184 : decode cX3_of 184 = .ok (.aload_n 0, 1) := by decide +kernel
theorem dX3_of_185 : decode cX3_of 185 = .ok (.ldc 58, 2) := by decide +kernel
theorem dX3_of_187 : decode cX3_of 187 = .ok (.invokevirtual 59, 3) := by decide +kernel
theorem dX3_of_190 : decode cX3_of 190 = .ok (.ireturn, 1) := by decide +kernel
set_option maxRecDepth 20000 in
theorem ggX3_set_X3_rowToSet : GoodIn wsX3_set wsX3_rowToSet := goodIn_r _ [7, 1, 8, 9, 10, 11, 29, 30, 31, 32, 33, 34, 35, 36, 37, 38, 39, 40, 41, 42, 43, 44, 45, 46, 47, 48] (by decide +kernel) (by decide +kernel)
set_option maxRecDepth 20000 in
theorem gX3_set_X3_rowToSet : GoodIn wsX3_set (wsV RX3 124 RX3 yX3_rowToSet wsX3_rowToSet) := goodIn_app (goodIn_of _ (by decide +kernel)) ggX3_set_X3_rowToSet
set_option maxRecDepth 20000 in
theorem ggX3_set_X0_has : GoodIn wsX3_set wsX0_has := goodIn_r _ [16, 17, 36, 37, 38, 39, 40, 41, 42, 43, 44, 45, 46, 47, 48] (by decide +kernel) (by decide +kernel)
set_option maxRecDepth 20000 in
theorem gX3_set_X0_has : GoodIn wsX3_set (wsV RX3 90 RX0 yX0_has wsX0_has) := goodIn_app (goodIn_of _ (by decide +kernel)) ggX3_set_X0_has
set_option maxRecDepth 20000 in
theorem ggX3_set_X3_mostToSet : GoodIn wsX3_set wsX3_mostToSet := goodIn_r _ [20] (by decide +kernel) (by decide +kernel)
set_option maxRecDepth 20000 in
theorem gX3_set_X3_mostToSet : GoodIn wsX3_set (va_wsS RX3 128 yX3_mostToSet wsX3_mostToSet) := goodIn_app (goodIn_of _ (by decide +kernel)) ggX3_set_X3_mostToSet
set_option maxRecDepth 20000 in
theorem ggX3_set_X3_within : GoodIn wsX3_set wsX3_within := goodIn_r _ [23] (by decide +kernel) (by decide +kernel)
set_option maxRecDepth 20000 in
theorem gX3_set_X3_within : GoodIn wsX3_set (va_wsS RX3 44 yX3_within wsX3_within) := goodIn_app (goodIn_of _ (by decide +kernel)) ggX3_set_X3_within
set_option maxRecDepth 20000 in
theorem ggX3_set_X3_found : GoodIn wsX3_set wsX3_found := goodIn_r _ [27, 2, 28, 21, 22, 6, 23, 29, 30, 31, 32, 33, 34, 35] (by decide +kernel) (by decide +kernel)
set_option maxRecDepth 20000 in
theorem gX3_set_X3_found : GoodIn wsX3_set (wsV RX3 59 RX3 yX3_found wsX3_found) := goodIn_app (goodIn_of _ (by decide +kernel)) ggX3_set_X3_found
theorem dX3_set_0 : decode cX3_set 0 = .ok (.aload_n 0, 1) := by decide +kernel
theorem dX3_set_1 : decode cX3_set 1 = .ok (.iload_n 2, 1) := by decide +kernel
theorem dX3_set_2 : decode cX3_set 2 = .ok (.invokevirtual 124, 3) := by decide +kernel
theorem dX3_set_5 : decode cX3_set 5 = .ok (.astore 4, 2) := by decide +kernel
theorem dX3_set_7 : decode cX3_set 7 = .ok (.aload_n 0, 1) := by decide +kernel
theorem dX3_set_8 : decode cX3_set 8 = .ok (.getfield 10, 3) := by decide +kernel
theorem dX3_set_11 : decode cX3_set 11 = .ok (.iload_n 1, 1) := by decide +kernel
theorem dX3_set_12 : decode cX3_set 12 = .ok (.invokevirtual 90, 3) := by decide +kernel
theorem dX3_set_15 : decode cX3_set 15 = .ok (.ifCond .eq 20, 3) := by decide +kernel
theorem dX3_set_18 : decode cX3_set 18 = .ok (.aload 4, 2) := by decide +kernel
theorem dX3_set_20 : decode cX3_set 20 = .ok (.ifnull 15, 3) := by decide +kernel
theorem dX3_set_23 : decode cX3_set 23 = .ok (.iload_n 3, 1) := by decide +kernel
theorem dX3_set_24 : decode cX3_set 24 = .ok (.iconst 0, 1) := by decide +kernel
theorem dX3_set_25 : decode cX3_set 25 = .ok (.iload_n 2, 1) := by decide +kernel
theorem dX3_set_26 : decode cX3_set 26 = .ok (.invokestatic 128, 3) := by decide +kernel
theorem dX3_set_29 : decode cX3_set 29 = .ok (.invokestatic 44, 3) := by decide +kernel
theorem dX3_set_32 : decode cX3_set 32 = .ok (.ifCond .ne 10, 3) := by decide +kernel
theorem dX3_set_35 : decode cX3_set 35 = .ok (.aload_n 0, 1) := by decide +kernel
theorem dX3_set_36 : decode cX3_set 36 = .ok (.ldc 58, 2) := by decide +kernel
theorem dX3_set_38 : decode cX3_set 38 = .ok (.invokevirtual 59, 3) := by decide +kernel
theorem dX3_set_41 : decode cX3_set 41 = .ok (.ireturn, 1) := by decide +kernel
theorem dX3_set_42 : decode cX3_set 42 = .ok (.aload 4, 2) := by decide +kernel
theorem dX3_set_44 : decode cX3_set 44 = .ok (.iload_n 1, 1) := by decide +kernel
theorem dX3_set_45 : decode cX3_set 45 = .ok (.iaload, 1) := by decide +kernel
theorem dX3_set_46 : decode cX3_set 46 = .ok (.istore 5, 2) := by decide +kernel
theorem dX3_set_48 : decode cX3_set 48 = .ok (.aload 4, 2) := by decide +kernel
theorem dX3_set_50 : decode cX3_set 50 = .ok (.iload_n 1, 1) := by decide +kernel
theorem dX3_set_51 : decode cX3_set 51 = .ok (.iload_n 3, 1) := by decide +kernel
theorem dX3_set_52 : decode cX3_set 52 = .ok (.iastore, 1) := by decide +kernel
theorem dX3_set_53 : decode cX3_set 53 = .ok (.iload 5, 2) := by decide +kernel
theorem dX3_set_55 : decode cX3_set 55 = .ok (.ireturn, 1) := by decide +kernel
set_option maxRecDepth 20000 in
theorem ggX3_carry_X0_has : GoodIn wsX3_carry wsX0_has := goodIn_r _ [10, 11, 33, 34, 35, 36, 37, 38, 39, 40, 41, 42, 43, 44, 45] (by decide +kernel) (by decide +kernel)
set_option maxRecDepth 20000 in
theorem gX3_carry_X0_has : GoodIn wsX3_carry (wsV RX3 90 RX0 yX0_has wsX0_has) := goodIn_app (goodIn_of _ (by decide +kernel)) ggX3_carry_X0_has
set_option maxRecDepth 20000 in
theorem ggX3_carry_X3_within : GoodIn wsX3_carry wsX3_within := goodIn_r _ [15] (by decide +kernel) (by decide +kernel)
set_option maxRecDepth 20000 in
theorem gX3_carry_X3_within : GoodIn wsX3_carry (va_wsS RX3 44 yX3_within wsX3_within) := goodIn_app (goodIn_of _ (by decide +kernel)) ggX3_carry_X3_within
set_option maxRecDepth 20000 in
theorem ggX3_carry_X3_found : GoodIn wsX3_carry wsX3_found := goodIn_r _ [19, 2, 20, 12, 13, 14, 15, 26, 27, 28, 29, 30, 31, 32] (by decide +kernel) (by decide +kernel)
set_option maxRecDepth 20000 in
theorem gX3_carry_X3_found : GoodIn wsX3_carry (wsV RX3 59 RX3 yX3_found wsX3_found) := goodIn_app (goodIn_of _ (by decide +kernel)) ggX3_carry_X3_found
set_option maxRecDepth 20000 in
theorem ggX3_carry_X0_isOn : GoodIn wsX3_carry wsX0_isOn := goodIn_r _ [24, 25, 33, 34, 35, 36, 37, 38, 39, 40, 41, 42, 43, 44, 45] (by decide +kernel) (by decide +kernel)
set_option maxRecDepth 20000 in
theorem gX3_carry_X0_isOn : GoodIn wsX3_carry (wsV RX3 103 RX0 yX0_isOn wsX0_isOn) := goodIn_app (goodIn_of _ (by decide +kernel)) ggX3_carry_X0_isOn
theorem dX3_carry_0 : decode cX3_carry 0 = .ok (.aload_n 0, 1) := by decide +kernel
theorem dX3_carry_1 : decode cX3_carry 1 = .ok (.getfield 10, 3) := by decide +kernel
theorem dX3_carry_4 : decode cX3_carry 4 = .ok (.iload_n 1, 1) := by decide +kernel
theorem dX3_carry_5 : decode cX3_carry 5 = .ok (.invokevirtual 90, 3) := by decide +kernel
theorem dX3_carry_8 : decode cX3_carry 8 = .ok (.ifCond .eq 13, 3) := by decide +kernel
theorem dX3_carry_11 : decode cX3_carry 11 = .ok (.iload_n 2, 1) := by decide +kernel
theorem dX3_carry_12 : decode cX3_carry 12 = .ok (.iconst 0, 1) := by decide +kernel
theorem dX3_carry_13 : decode cX3_carry 13 = .ok (.bipush 59, 2) := by decide +kernel
theorem dX3_carry_15 : decode cX3_carry 15 = .ok (.invokestatic 44, 3) := by decide +kernel
theorem dX3_carry_18 : decode cX3_carry 18 = .ok (.ifCond .ne 10, 3) := by decide +kernel
theorem dX3_carry_21 : decode cX3_carry 21 = .ok (.aload_n 0, 1) := by decide +kernel
theorem dX3_carry_22 : decode cX3_carry 22 = .ok (.ldc 58, 2) := by decide +kernel
theorem dX3_carry_24 : decode cX3_carry 24 = .ok (.invokevirtual 59, 3) := by decide +kernel
theorem dX3_carry_27 : decode cX3_carry 27 = .ok (.ireturn, 1) := by decide +kernel
theorem dX3_carry_28 : decode cX3_carry 28 = .ok (.aload_n 0, 1) := by decide +kernel
theorem dX3_carry_29 : decode cX3_carry 29 = .ok (.getfield 10, 3) := by decide +kernel
theorem dX3_carry_32 : decode cX3_carry 32 = .ok (.iload_n 1, 1) := by decide +kernel
theorem dX3_carry_33 : decode cX3_carry 33 = .ok (.invokevirtual 103, 3) := by decide +kernel
theorem dX3_carry_36 : decode cX3_carry 36 = .ok (.ifCond .eq 10, 3) := by decide +kernel
theorem dX3_carry_39 : decode cX3_carry 39 = .ok (.aload_n 0, 1) := by decide +kernel
theorem dX3_carry_40 : decode cX3_carry 40 = .ok (.ldc 131, 2) := by decide +kernel
theorem dX3_carry_42 : decode cX3_carry 42 = .ok (.invokevirtual 59, 3) := by decide +kernel
theorem dX3_carry_45 : decode cX3_carry 45 = .ok (.ireturn, 1) := by decide +kernel
theorem dX3_carry_46 : decode cX3_carry 46 = .ok (.aload_n 0, 1) := by decide +kernel
theorem dX3_carry_47 : decode cX3_carry 47 = .ok (.getfield 10, 3) := by decide +kernel
theorem dX3_carry_50 : decode cX3_carry 50 = .ok (.getfield 97, 3) := by decide +kernel
theorem dX3_carry_53 : decode cX3_carry 53 = .ok (.iload_n 1, 1) := by decide +kernel
theorem dX3_carry_54 : decode cX3_carry 54 = .ok (.iaload, 1) := by decide +kernel
theorem dX3_carry_55 : decode cX3_carry 55 = .ok (.istore_n 3, 1) := by decide +kernel
theorem dX3_carry_56 : decode cX3_carry 56 = .ok (.aload_n 0, 1) := by decide +kernel
theorem dX3_carry_57 : decode cX3_carry 57 = .ok (.getfield 10, 3) := by decide +kernel
theorem dX3_carry_60 : decode cX3_carry 60 = .ok (.getfield 97, 3) := by decide +kernel
theorem dX3_carry_63 : decode cX3_carry 63 = .ok (.iload_n 1, 1) := by decide +kernel
theorem dX3_carry_64 : decode cX3_carry 64 = .ok (.iload_n 2, 1) := by decide +kernel
theorem dX3_carry_65 : decode cX3_carry 65 = .ok (.iastore, 1) := by decide +kernel
theorem dX3_carry_66 : decode cX3_carry 66 = .ok (.aload_n 0, 1) := by decide +kernel
theorem dX3_carry_67 : decode cX3_carry 67 = .ok (.getfield 10, 3) := by decide +kernel
theorem dX3_carry_70 : decode cX3_carry 70 = .ok (.dup, 1) := by decide +kernel
theorem dX3_carry_71 : decode cX3_carry 71 = .ok (.getfield 69, 3) := by decide +kernel
theorem dX3_carry_74 : decode cX3_carry 74 = .ok (.iconst 1, 1) := by decide +kernel
theorem dX3_carry_75 : decode cX3_carry 75 = .ok (.iload_n 1, 1) := by decide +kernel
theorem dX3_carry_76 : decode cX3_carry 76 = .ok (.ishl, 1) := by decide +kernel
theorem dX3_carry_77 : decode cX3_carry 77 = .ok (.iconst (-1), 1) := by decide +kernel
theorem dX3_carry_78 : decode cX3_carry 78 = .ok (.ixor, 1) := by decide +kernel
theorem dX3_carry_79 : decode cX3_carry 79 = .ok (.iand, 1) := by decide +kernel
theorem dX3_carry_80 : decode cX3_carry 80 = .ok (.putfield 69, 3) := by decide +kernel
theorem dX3_carry_83 : decode cX3_carry 83 = .ok (.iload_n 3, 1) := by decide +kernel
theorem dX3_carry_84 : decode cX3_carry 84 = .ok (.ireturn, 1) := by decide +kernel
set_option maxRecDepth 20000 in
theorem ggX3_turn_X0_has : GoodIn wsX3_turn wsX0_has := goodIn_r _ [8, 9, 26, 27, 28, 29, 30, 31, 32, 33, 34, 35, 36, 37, 38] (by decide +kernel) (by decide +kernel)
set_option maxRecDepth 20000 in
theorem gX3_turn_X0_has : GoodIn wsX3_turn (wsV RX3 90 RX0 yX0_has wsX0_has) := goodIn_app (goodIn_of _ (by decide +kernel)) ggX3_turn_X0_has
set_option maxRecDepth 20000 in
theorem ggX3_turn_X3_within : GoodIn wsX3_turn wsX3_within := goodIn_r _ [13] (by decide +kernel) (by decide +kernel)
set_option maxRecDepth 20000 in
theorem gX3_turn_X3_within : GoodIn wsX3_turn (va_wsS RX3 44 yX3_within wsX3_within) := goodIn_app (goodIn_of _ (by decide +kernel)) ggX3_turn_X3_within
set_option maxRecDepth 20000 in
theorem ggX3_turn_X3_found : GoodIn wsX3_turn wsX3_found := goodIn_r _ [17, 2, 18, 10, 11, 12, 13, 19, 20, 21, 22, 23, 24, 25] (by decide +kernel) (by decide +kernel)
set_option maxRecDepth 20000 in
theorem gX3_turn_X3_found : GoodIn wsX3_turn (wsV RX3 59 RX3 yX3_found wsX3_found) := goodIn_app (goodIn_of _ (by decide +kernel)) ggX3_turn_X3_found
theorem dX3_turn_0 : decode cX3_turn 0 = .ok (.aload_n 0, 1) := by decide +kernel
theorem dX3_turn_1 : decode cX3_turn 1 = .ok (.getfield 10, 3) := by decide +kernel
theorem dX3_turn_4 : decode cX3_turn 4 = .ok (.iload_n 1, 1) := by decide +kernel
theorem dX3_turn_5 : decode cX3_turn 5 = .ok (.invokevirtual 90, 3) := by decide +kernel
theorem dX3_turn_8 : decode cX3_turn 8 = .ok (.ifCond .eq 12, 3) := by decide +kernel
theorem dX3_turn_11 : decode cX3_turn 11 = .ok (.iload_n 2, 1) := by decide +kernel
theorem dX3_turn_12 : decode cX3_turn 12 = .ok (.iconst 0, 1) := by decide +kernel
theorem dX3_turn_13 : decode cX3_turn 13 = .ok (.iconst 5, 1) := by decide +kernel
theorem dX3_turn_14 : decode cX3_turn 14 = .ok (.invokestatic 44, 3) := by decide +kernel
theorem dX3_turn_17 : decode cX3_turn 17 = .ok (.ifCond .ne 10, 3) := by decide +kernel
theorem dX3_turn_20 : decode cX3_turn 20 = .ok (.aload_n 0, 1) := by decide +kernel
theorem dX3_turn_21 : decode cX3_turn 21 = .ok (.ldc 58, 2) := by decide +kernel
theorem dX3_turn_23 : decode cX3_turn 23 = .ok (.invokevirtual 59, 3) := by decide +kernel
theorem dX3_turn_26 : decode cX3_turn 26 = .ok (.ireturn, 1) := by decide +kernel
theorem dX3_turn_27 : decode cX3_turn 27 = .ok (.aload_n 0, 1) := by decide +kernel
theorem dX3_turn_28 : decode cX3_turn 28 = .ok (.getfield 10, 3) := by decide +kernel
theorem dX3_turn_31 : decode cX3_turn 31 = .ok (.getfield 94, 3) := by decide +kernel
theorem dX3_turn_34 : decode cX3_turn 34 = .ok (.iload_n 1, 1) := by decide +kernel
theorem dX3_turn_35 : decode cX3_turn 35 = .ok (.iaload, 1) := by decide +kernel
theorem dX3_turn_36 : decode cX3_turn 36 = .ok (.istore_n 3, 1) := by decide +kernel
theorem dX3_turn_37 : decode cX3_turn 37 = .ok (.aload_n 0, 1) := by decide +kernel
theorem dX3_turn_38 : decode cX3_turn 38 = .ok (.getfield 10, 3) := by decide +kernel
theorem dX3_turn_41 : decode cX3_turn 41 = .ok (.getfield 94, 3) := by decide +kernel
theorem dX3_turn_44 : decode cX3_turn 44 = .ok (.iload_n 1, 1) := by decide +kernel
theorem dX3_turn_45 : decode cX3_turn 45 = .ok (.iload_n 2, 1) := by decide +kernel
theorem dX3_turn_46 : decode cX3_turn 46 = .ok (.iastore, 1) := by decide +kernel
theorem dX3_turn_47 : decode cX3_turn 47 = .ok (.iload_n 3, 1) := by decide +kernel
theorem dX3_turn_48 : decode cX3_turn 48 = .ok (.ireturn, 1) := by decide +kernel
set_option maxRecDepth 20000 in
theorem ggX3_as_X0_has : GoodIn wsX3_as wsX0_has := goodIn_r _ [10, 11, 32, 33, 34, 35, 36, 37, 38, 39, 40, 41, 42, 43, 44] (by decide +kernel) (by decide +kernel)
set_option maxRecDepth 20000 in
theorem gX3_as_X0_has : GoodIn wsX3_as (wsV RX3 90 RX0 yX0_has wsX0_has) := goodIn_app (goodIn_of _ (by decide +kernel)) ggX3_as_X0_has
set_option maxRecDepth 20000 in
theorem ggX3_as_X3_within : GoodIn wsX3_as wsX3_within := goodIn_r _ [15] (by decide +kernel) (by decide +kernel)
set_option maxRecDepth 20000 in
theorem gX3_as_X3_within : GoodIn wsX3_as (va_wsS RX3 44 yX3_within wsX3_within) := goodIn_app (goodIn_of _ (by decide +kernel)) ggX3_as_X3_within
set_option maxRecDepth 20000 in
theorem ggX3_as_X3_found : GoodIn wsX3_as wsX3_found := goodIn_r _ [19, 2, 20, 12, 13, 14, 15, 25, 26, 27, 28, 29, 30, 31] (by decide +kernel) (by decide +kernel)
set_option maxRecDepth 20000 in
theorem gX3_as_X3_found : GoodIn wsX3_as (wsV RX3 59 RX3 yX3_found wsX3_found) := goodIn_app (goodIn_of _ (by decide +kernel)) ggX3_as_X3_found
set_option maxRecDepth 20000 in
theorem ggX3_as_X3_isOfKind : GoodIn wsX3_as wsX3_isOfKind := goodIn_r _ [23, 24, 12, 13, 14, 15] (by decide +kernel) (by decide +kernel)
set_option maxRecDepth 20000 in
theorem gX3_as_X3_isOfKind : GoodIn wsX3_as (va_wsS RX3 132 yX3_isOfKind wsX3_isOfKind) := goodIn_app (goodIn_of _ (by decide +kernel)) ggX3_as_X3_isOfKind
theorem dX3_as_0 : decode cX3_as 0 = .ok (.aload_n 0, 1) := by decide +kernel
theorem dX3_as_1 : decode cX3_as 1 = .ok (.getfield 10, 3) := by decide +kernel
theorem dX3_as_4 : decode cX3_as 4 = .ok (.iload_n 1, 1) := by decide +kernel
theorem dX3_as_5 : decode cX3_as 5 = .ok (.invokevirtual 90, 3) := by decide +kernel
theorem dX3_as_8 : decode cX3_as 8 = .ok (.ifCond .eq 12, 3) := by decide +kernel
theorem dX3_as_11 : decode cX3_as 11 = .ok (.iload_n 2, 1) := by decide +kernel
theorem dX3_as_12 : decode cX3_as 12 = .ok (.iconst 0, 1) := by decide +kernel
theorem dX3_as_13 : decode cX3_as 13 = .ok (.iconst 5, 1) := by decide +kernel
theorem dX3_as_14 : decode cX3_as 14 = .ok (.invokestatic 44, 3) := by decide +kernel
theorem dX3_as_17 : decode cX3_as 17 = .ok (.ifCond .ne 10, 3) := by decide +kernel
theorem dX3_as_20 : decode cX3_as 20 = .ok (.aload_n 0, 1) := by decide +kernel
theorem dX3_as_21 : decode cX3_as 21 = .ok (.ldc 58, 2) := by decide +kernel
theorem dX3_as_23 : decode cX3_as 23 = .ok (.invokevirtual 59, 3) := by decide +kernel
theorem dX3_as_26 : decode cX3_as 26 = .ok (.ireturn, 1) := by decide +kernel
theorem dX3_as_27 : decode cX3_as 27 = .ok (.aload_n 0, 1) := by decide +kernel
theorem dX3_as_28 : decode cX3_as 28 = .ok (.getfield 10, 3) := by decide +kernel
theorem dX3_as_31 : decode cX3_as 31 = .ok (.getfield 94, 3) := by decide +kernel
theorem dX3_as_34 : decode cX3_as 34 = .ok (.iload_n 1, 1) := by decide +kernel
theorem dX3_as_35 : decode cX3_as 35 = .ok (.iaload, 1) := by decide +kernel
theorem dX3_as_36 : decode cX3_as 36 = .ok (.iload_n 2, 1) := by decide +kernel
theorem dX3_as_37 : decode cX3_as 37 = .ok (.invokestatic 132, 3) := by decide +kernel
theorem dX3_as_40 : decode cX3_as 40 = .ok (.ifCond .eq 15, 3) := by decide +kernel
theorem dX3_as_43 : decode cX3_as 43 = .ok (.aload_n 0, 1) := by decide +kernel
theorem dX3_as_44 : decode cX3_as 44 = .ok (.getfield 10, 3) := by decide +kernel
theorem dX3_as_47 : decode cX3_as 47 = .ok (.getfield 106, 3) := by decide +kernel
theorem dX3_as_50 : decode cX3_as 50 = .ok (.iload_n 1, 1) := by decide +kernel
theorem dX3_as_51 : decode cX3_as 51 = .ok (.iaload, 1) := by decide +kernel
theorem dX3_as_52 : decode cX3_as 52 = .ok (.goto 9, 3) := by decide +kernel
theorem dX3_as_55 : decode cX3_as 55 = .ok (.aload_n 0, 1) := by decide +kernel
theorem dX3_as_56 : decode cX3_as 56 = .ok (.ldc 136, 2) := by decide +kernel
theorem dX3_as_58 : decode cX3_as 58 = .ok (.invokevirtual 59, 3) := by decide +kernel
theorem dX3_as_61 : decode cX3_as 61 = .ok (.ireturn, 1) := by decide +kernel
set_option maxRecDepth 20000 in
theorem ggX3_lay_X0_has : GoodIn wsX3_lay wsX0_has := goodIn_r _ [12, 13, 74, 75, 76, 77, 78, 79, 80, 81, 82, 83, 84, 85, 86] (by decide +kernel) (by decide +kernel)
set_option maxRecDepth 20000 in
theorem gX3_lay_X0_has : GoodIn wsX3_lay (wsV RX3 90 RX0 yX0_has wsX0_has) := goodIn_app (goodIn_of _ (by decide +kernel)) ggX3_lay_X0_has
set_option maxRecDepth 20000 in
theorem ggX3_lay_X3_found : GoodIn wsX3_lay wsX3_found := goodIn_r _ [18, 2, 19, 20, 21, 17, 22, 67, 68, 69, 70, 71, 72, 73] (by decide +kernel) (by decide +kernel)
set_option maxRecDepth 20000 in
theorem gX3_lay_X3_found : GoodIn wsX3_lay (wsV RX3 59 RX3 yX3_found wsX3_found) := goodIn_app (goodIn_of _ (by decide +kernel)) ggX3_lay_X3_found
set_option maxRecDepth 20000 in
theorem ggX3_lay_X0_isOn : GoodIn wsX3_lay wsX0_isOn := goodIn_r _ [26, 27, 74, 75, 76, 77, 78, 79, 80, 81, 82, 83, 84, 85, 86] (by decide +kernel) (by decide +kernel)
set_option maxRecDepth 20000 in
theorem gX3_lay_X0_isOn : GoodIn wsX3_lay (wsV RX3 103 RX0 yX0_isOn wsX0_isOn) := goodIn_app (goodIn_of _ (by decide +kernel)) ggX3_lay_X0_isOn
set_option maxRecDepth 20000 in
theorem ggX3_lay_X0_isLost : GoodIn wsX3_lay wsX0_isLost := goodIn_r _ [31, 32, 74, 75, 76, 77, 78, 79, 80, 81, 82, 83, 84, 85, 86] (by decide +kernel) (by decide +kernel)
set_option maxRecDepth 20000 in
theorem gX3_lay_X0_isLost : GoodIn wsX3_lay (wsV RX3 112 RX0 yX0_isLost wsX0_isLost) := goodIn_app (goodIn_of _ (by decide +kernel)) ggX3_lay_X0_isLost
set_option maxRecDepth 20000 in
theorem ggX3_lay_X0_isBorne : GoodIn wsX3_lay wsX0_isBorne := goodIn_r _ [36, 37, 38, 39, 40, 11, 41, 13, 42, 24, 25, 26, 27, 43, 44, 45, 46, 47, 48, 49, 50, 51, 52, 53, 54, 55, 56, 57, 74, 75, 76, 77, 78, 79, 80, 81, 82, 83, 84, 85, 86] (by decide +kernel) (by decide +kernel)
set_option maxRecDepth 20000 in
theorem gX3_lay_X0_isBorne : GoodIn wsX3_lay (wsV RX3 137 RX0 yX0_isBorne wsX0_isBorne) := goodIn_app (goodIn_of _ (by decide +kernel)) ggX3_lay_X0_isBorne
set_option maxRecDepth 20000 in
theorem ggX3_lay_X0_comeOn : GoodIn wsX3_lay wsX0_comeOn := goodIn_r _ [61, 27, 62, 63, 64, 56, 65, 74, 75, 76, 77, 78, 79, 80, 81, 82, 83, 84, 85, 86] (by decide +kernel) (by decide +kernel)
set_option maxRecDepth 20000 in
theorem gX3_lay_X0_comeOn : GoodIn wsX3_lay (wsV RX3 140 RX0 yX0_comeOn wsX0_comeOn) := goodIn_app (goodIn_of _ (by decide +kernel)) ggX3_lay_X0_comeOn
set_option maxRecDepth 20000 in
theorem ggX3_lay_X0_weightAt : GoodIn wsX3_lay wsX0_weightAt := goodIn_r _ [41, 13, 37, 42, 24, 25, 11, 26, 27, 43, 44, 45, 46, 47, 48, 74, 75, 76, 77, 78, 79, 80, 81, 82, 83, 84, 85, 86] (by decide +kernel) (by decide +kernel)
set_option maxRecDepth 20000 in
theorem gX3_lay_X0_weightAt : GoodIn wsX3_lay (wsV RX3 79 RX0 yX0_weightAt wsX0_weightAt) := goodIn_app (goodIn_of _ (by decide +kernel)) ggX3_lay_X0_weightAt
theorem dX3_lay_0 : decode cX3_lay 0 = .ok (.aload_n 0, 1) := by decide +kernel
theorem dX3_lay_1 : decode cX3_lay 1 = .ok (.getfield 10, 3) := by decide +kernel
theorem dX3_lay_4 : decode cX3_lay 4 = .ok (.iload_n 1, 1) := by decide +kernel
theorem dX3_lay_5 : decode cX3_lay 5 = .ok (.invokevirtual 90, 3) := by decide +kernel
theorem dX3_lay_8 : decode cX3_lay 8 = .ok (.ifCond .ne 10, 3) := by decide +kernel
theorem dX3_lay_11 : decode cX3_lay 11 = .ok (.aload_n 0, 1) := by decide +kernel
theorem dX3_lay_12 : decode cX3_lay 12 = .ok (.ldc 58, 2) := by decide +kernel
theorem dX3_lay_14 : decode cX3_lay 14 = .ok (.invokevirtual 59, 3) := by decide +kernel
theorem dX3_lay_17 : decode cX3_lay 17 = .ok (.ireturn, 1) := by decide +kernel
theorem dX3_lay_18 : decode cX3_lay 18 = .ok (.aload_n 0, 1) := by decide +kernel
theorem dX3_lay_19 : decode cX3_lay 19 = .ok (.getfield 10, 3) := by decide +kernel
theorem dX3_lay_22 : decode cX3_lay 22 = .ok (.iload_n 1, 1) := by decide +kernel
theorem dX3_lay_23 : decode cX3_lay 23 = .ok (.invokevirtual 103, 3) := by decide +kernel
theorem dX3_lay_26 : decode cX3_lay 26 = .ok (.ifCond .ne 14, 3) := by decide +kernel
theorem dX3_lay_29 : decode cX3_lay 29 = .ok (.aload_n 0, 1) := by decide +kernel
theorem dX3_lay_30 : decode cX3_lay 30 = .ok (.getfield 10, 3) := by decide +kernel
theorem dX3_lay_33 : decode cX3_lay 33 = .ok (.iload_n 1, 1) := by decide +kernel
theorem dX3_lay_34 : decode cX3_lay 34 = .ok (.invokevirtual 112, 3) := by decide +kernel
theorem dX3_lay_37 : decode cX3_lay 37 = .ok (.ifCond .eq 10, 3) := by decide +kernel
theorem dX3_lay_40 : decode cX3_lay 40 = .ok (.aload_n 0, 1) := by decide +kernel
theorem dX3_lay_41 : decode cX3_lay 41 = .ok (.ldc 131, 2) := by decide +kernel
theorem dX3_lay_43 : decode cX3_lay 43 = .ok (.invokevirtual 59, 3) := by decide +kernel
theorem dX3_lay_46 : decode cX3_lay 46 = .ok (.ireturn, 1) := by decide +kernel
theorem dX3_lay_47 : decode cX3_lay 47 = .ok (.aload_n 0, 1) := by decide +kernel
theorem dX3_lay_48 : decode cX3_lay 48 = .ok (.getfield 10, 3) := by decide +kernel
theorem dX3_lay_51 : decode cX3_lay 51 = .ok (.iload_n 1, 1) := by decide +kernel
theorem dX3_lay_52 : decode cX3_lay 52 = .ok (.invokevirtual 137, 3) := by decide +kernel
theorem dX3_lay_55 : decode cX3_lay 55 = .ok (.ifCond .ne 10, 3) := by decide +kernel
theorem dX3_lay_58 : decode cX3_lay 58 = .ok (.aload_n 0, 1) := by decide +kernel
theorem dX3_lay_59 : decode cX3_lay 59 = .ok (.ldc 85, 2) := by decide +kernel
theorem dX3_lay_61 : decode cX3_lay 61 = .ok (.invokevirtual 59, 3) := by decide +kernel
theorem dX3_lay_64 : decode cX3_lay 64 = .ok (.ireturn, 1) := by decide +kernel
theorem dX3_lay_65 : decode cX3_lay 65 = .ok (.aload_n 0, 1) := by decide +kernel
theorem dX3_lay_66 : decode cX3_lay 66 = .ok (.getfield 10, 3) := by decide +kernel
theorem dX3_lay_69 : decode cX3_lay 69 = .ok (.iload_n 1, 1) := by decide +kernel
theorem dX3_lay_70 : decode cX3_lay 70 = .ok (.invokevirtual 140, 3) := by decide +kernel
theorem dX3_lay_73 : decode cX3_lay 73 = .ok (.aload_n 0, 1) := by decide +kernel
theorem dX3_lay_74 : decode cX3_lay 74 = .ok (.getfield 10, 3) := by decide +kernel
theorem dX3_lay_77 : decode cX3_lay 77 = .ok (.getfield 97, 3) := by decide +kernel
theorem dX3_lay_80 : decode cX3_lay 80 = .ok (.iload_n 1, 1) := by decide +kernel
theorem dX3_lay_81 : decode cX3_lay 81 = .ok (.aload_n 0, 1) := by decide +kernel
theorem dX3_lay_82 : decode cX3_lay 82 = .ok (.getfield 10, 3) := by decide +kernel
theorem dX3_lay_85 : decode cX3_lay 85 = .ok (.getfield 48, 3) := by decide +kernel
theorem dX3_lay_88 : decode cX3_lay 88 = .ok (.iastore, 1) := by decide +kernel
theorem dX3_lay_89 : decode cX3_lay 89 = .ok (.aload_n 0, 1) := by decide +kernel
theorem dX3_lay_90 : decode cX3_lay 90 = .ok (.getfield 10, 3) := by decide +kernel
theorem dX3_lay_93 : decode cX3_lay 93 = .ok (.aload_n 0, 1) := by decide +kernel
theorem dX3_lay_94 : decode cX3_lay 94 = .ok (.getfield 10, 3) := by decide +kernel
theorem dX3_lay_97 : decode cX3_lay 97 = .ok (.getfield 100, 3) := by decide +kernel
theorem dX3_lay_100 : decode cX3_lay 100 = .ok (.iload_n 1, 1) := by decide +kernel
theorem dX3_lay_101 : decode cX3_lay 101 = .ok (.iaload, 1) := by decide +kernel
theorem dX3_lay_102 : decode cX3_lay 102 = .ok (.invokevirtual 79, 3) := by decide +kernel
theorem dX3_lay_105 : decode cX3_lay 105 = .ok (.ireturn, 1) := by decide +kernel
set_option maxRecDepth 20000 in
theorem ggX3_take_X0_has : GoodIn wsX3_take wsX0_has := goodIn_r _ [9, 10, 38, 39, 40, 41, 42, 43, 44, 45, 46, 47, 48, 49, 50] (by decide +kernel) (by decide +kernel)
set_option maxRecDepth 20000 in
theorem gX3_take_X0_has : GoodIn wsX3_take (wsV RX3 90 RX0 yX0_has wsX0_has) := goodIn_app (goodIn_of _ (by decide +kernel)) ggX3_take_X0_has
set_option maxRecDepth 20000 in
theorem ggX3_take_X3_found : GoodIn wsX3_take wsX3_found := goodIn_r _ [15, 2, 16, 17, 18, 14, 19, 31, 32, 33, 34, 35, 36, 37] (by decide +kernel) (by decide +kernel)
set_option maxRecDepth 20000 in
theorem gX3_take_X3_found : GoodIn wsX3_take (wsV RX3 59 RX3 yX3_found wsX3_found) := goodIn_app (goodIn_of _ (by decide +kernel)) ggX3_take_X3_found
set_option maxRecDepth 20000 in
theorem ggX3_take_X0_isOn : GoodIn wsX3_take wsX0_isOn := goodIn_r _ [23, 24, 38, 39, 40, 41, 42, 43, 44, 45, 46, 47, 48, 49, 50] (by decide +kernel) (by decide +kernel)
set_option maxRecDepth 20000 in
theorem gX3_take_X0_isOn : GoodIn wsX3_take (wsV RX3 103 RX0 yX0_isOn wsX0_isOn) := goodIn_app (goodIn_of _ (by decide +kernel)) ggX3_take_X0_isOn
set_option maxRecDepth 20000 in
theorem ggX3_take_X0_goOff : GoodIn wsX3_take wsX0_goOff := goodIn_r _ [28, 24, 29, 30, 38, 39, 40, 41, 42, 43, 44, 45, 46, 47, 48, 49, 50] (by decide +kernel) (by decide +kernel)
set_option maxRecDepth 20000 in
theorem gX3_take_X0_goOff : GoodIn wsX3_take (wsV RX3 144 RX0 yX0_goOff wsX0_goOff) := goodIn_app (goodIn_of _ (by decide +kernel)) ggX3_take_X0_goOff
theorem dX3_take_0 : decode cX3_take 0 = .ok (.aload_n 0, 1) := by decide +kernel
theorem dX3_take_1 : decode cX3_take 1 = .ok (.getfield 10, 3) := by decide +kernel
theorem dX3_take_4 : decode cX3_take 4 = .ok (.iload_n 1, 1) := by decide +kernel
theorem dX3_take_5 : decode cX3_take 5 = .ok (.invokevirtual 90, 3) := by decide +kernel
theorem dX3_take_8 : decode cX3_take 8 = .ok (.ifCond .ne 10, 3) := by decide +kernel
theorem dX3_take_11 : decode cX3_take 11 = .ok (.aload_n 0, 1) := by decide +kernel
theorem dX3_take_12 : decode cX3_take 12 = .ok (.ldc 58, 2) := by decide +kernel
theorem dX3_take_14 : decode cX3_take 14 = .ok (.invokevirtual 59, 3) := by decide +kernel
theorem dX3_take_17 : decode cX3_take 17 = .ok (.ireturn, 1) := by decide +kernel
theorem dX3_take_18 : decode cX3_take 18 = .ok (.aload_n 0, 1) := by decide +kernel
theorem dX3_take_19 : decode cX3_take 19 = .ok (.getfield 10, 3) := by decide +kernel
theorem dX3_take_22 : decode cX3_take 22 = .ok (.iload_n 1, 1) := by decide +kernel
theorem dX3_take_23 : decode cX3_take 23 = .ok (.invokevirtual 103, 3) := by decide +kernel
theorem dX3_take_26 : decode cX3_take 26 = .ok (.ifCond .ne 10, 3) := by decide +kernel
theorem dX3_take_29 : decode cX3_take 29 = .ok (.aload_n 0, 1) := by decide +kernel
theorem dX3_take_30 : decode cX3_take 30 = .ok (.ldc 131, 2) := by decide +kernel
theorem dX3_take_32 : decode cX3_take 32 = .ok (.invokevirtual 59, 3) := by decide +kernel
theorem dX3_take_35 : decode cX3_take 35 = .ok (.ireturn, 1) := by decide +kernel
theorem dX3_take_36 : decode cX3_take 36 = .ok (.aload_n 0, 1) := by decide +kernel
theorem dX3_take_37 : decode cX3_take 37 = .ok (.getfield 10, 3) := by decide +kernel
theorem dX3_take_40 : decode cX3_take 40 = .ok (.iload_n 1, 1) := by decide +kernel
theorem dX3_take_41 : decode cX3_take 41 = .ok (.invokevirtual 144, 3) := by decide +kernel
theorem dX3_take_44 : decode cX3_take 44 = .ok (.aload_n 0, 1) := by decide +kernel
theorem dX3_take_45 : decode cX3_take 45 = .ok (.getfield 10, 3) := by decide +kernel
theorem dX3_take_48 : decode cX3_take 48 = .ok (.getfield 48, 3) := by decide +kernel
theorem dX3_take_51 : decode cX3_take 51 = .ok (.ireturn, 1) := by decide +kernel
set_option maxRecDepth 20000 in
theorem ggX3_seconds_X3_within : GoodIn wsX3_seconds wsX3_within := goodIn_r _ [10] (by decide +kernel) (by decide +kernel)
set_option maxRecDepth 20000 in
theorem gX3_seconds_X3_within : GoodIn wsX3_seconds (va_wsS RX3 44 yX3_within wsX3_within) := goodIn_app (goodIn_of _ (by decide +kernel)) ggX3_seconds_X3_within
set_option maxRecDepth 20000 in
theorem ggX3_seconds_X3_found : GoodIn wsX3_seconds wsX3_found := goodIn_r _ [14, 1, 15, 7, 8, 9, 10, 100, 101, 102, 103, 104, 105, 106] (by decide +kernel) (by decide +kernel)
set_option maxRecDepth 20000 in
theorem gX3_seconds_X3_found : GoodIn wsX3_seconds (wsV RX3 59 RX3 yX3_found wsX3_found) := goodIn_app (goodIn_of _ (by decide +kernel)) ggX3_seconds_X3_found
set_option maxRecDepth 20000 in
theorem ggX3_seconds_X0_goSeconds : GoodIn wsX3_seconds wsX0_goSeconds := goodIn_r _ [20, 21, 22, 23, 24, 25, 26, 27, 19, 28, 29, 30, 31, 32, 33, 34, 35, 36, 37, 38, 39, 40, 41, 42, 43, 44, 45, 46, 47, 48, 49, 50, 51, 52, 53, 54, 55, 56, 57, 58, 59, 60, 61, 62, 63, 64, 65, 66, 67, 68, 69, 70, 71, 72, 73, 74, 75, 76, 77, 78, 79, 80, 81, 82, 83, 84, 85, 86, 87, 88, 89, 90, 91, 92, 93, 94, 95, 96, 97, 98, 99, 107, 108, 109, 110, 111, 112, 113, 114, 115, 116, 117, 118, 119] (by decide +kernel) (by decide +kernel)
set_option maxRecDepth 20000 in
theorem gX3_seconds_X0_goSeconds : GoodIn wsX3_seconds (wsV RX3 148 RX0 yX0_goSeconds wsX0_goSeconds) := goodIn_app (goodIn_of _ (by decide +kernel)) ggX3_seconds_X0_goSeconds
theorem dX3_seconds_0 : decode cX3_seconds 0 = .ok (.iload_n 1, 1) := by decide +kernel
theorem dX3_seconds_1 : decode cX3_seconds 1 = .ok (.iconst 1, 1) := by decide +kernel
theorem dX3_seconds_2 : decode cX3_seconds 2 = .ok (.sipush 200, 3) := by decide +kernel
theorem dX3_seconds_5 : decode cX3_seconds 5 = .ok (.invokestatic 44, 3) := by decide +kernel
theorem dX3_seconds_8 : decode cX3_seconds 8 = .ok (.ifCond .ne 10, 3) := by decide +kernel
theorem dX3_seconds_11 : decode cX3_seconds 11 = .ok (.aload_n 0, 1) := by decide +kernel
theorem dX3_seconds_12 : decode cX3_seconds 12 = .ok (.ldc 58, 2) := by decide +kernel
theorem dX3_seconds_14 : decode cX3_seconds 14 = .ok (.invokevirtual 59, 3) := by decide +kernel
theorem dX3_seconds_17 : decode cX3_seconds 17 = .ok (.ireturn, 1) := by decide +kernel
theorem dX3_seconds_18 : decode cX3_seconds 18 = .ok (.aload_n 0, 1) := by decide +kernel
theorem dX3_seconds_19 : decode cX3_seconds 19 = .ok (.getfield 10, 3) := by decide +kernel
theorem dX3_seconds_22 : decode cX3_seconds 22 = .ok (.getfield 63, 3) := by decide +kernel
theorem dX3_seconds_25 : decode cX3_seconds 25 = .ok (.iload_n 1, 1) := by decide +kernel
theorem dX3_seconds_26 : decode cX3_seconds 26 = .ok (.iadd, 1) := by decide +kernel
theorem dX3_seconds_27 : decode cX3_seconds 27 = .ok (.ldc 147, 2) := by decide +kernel
theorem dX3_seconds_29 : decode cX3_seconds 29 = .ok (.if_icmp .le 10, 3) := by decide +kernel
theorem dX3_seconds_32 : decode cX3_seconds 32 = .ok (.aload_n 0, 1) := by decide +kernel
theorem dX3_seconds_33 : decode cX3_seconds 33 = .ok (.ldc 131, 2) := by decide +kernel
theorem dX3_seconds_35 : decode cX3_seconds 35 = .ok (.invokevirtual 59, 3) := by decide +kernel
theorem dX3_seconds_38 : decode cX3_seconds 38 = .ok (.ireturn, 1) := by decide +kernel
theorem dX3_seconds_39 : decode cX3_seconds 39 = .ok (.aload_n 0, 1) := by decide +kernel
theorem dX3_seconds_40 : decode cX3_seconds 40 = .ok (.getfield 10, 3) := by decide +kernel
theorem dX3_seconds_43 : decode cX3_seconds 43 = .ok (.iload_n 1, 1) := by decide +kernel
theorem dX3_seconds_44 : decode cX3_seconds 44 = .ok (.invokevirtual 148, 3) := by decide +kernel
theorem dX3_seconds_47 : decode cX3_seconds 47 = .ok (.aload_n 0, 1) := by decide +kernel
theorem dX3_seconds_48 : decode cX3_seconds 48 = .ok (.getfield 10, 3) := by decide +kernel
theorem dX3_seconds_51 : decode cX3_seconds 51 = .ok (.getfield 66, 3) := by decide +kernel
theorem dX3_seconds_54 : decode cX3_seconds 54 = .ok (.ireturn, 1) := by decide +kernel
set_option maxRecDepth 20000 in
theorem ggX3_on_X0_has : GoodIn wsX3_on wsX0_has := goodIn_r _ [11, 12, 120, 121, 122, 123, 124, 125, 126, 127, 128, 129, 130, 131, 132] (by decide +kernel) (by decide +kernel)
set_option maxRecDepth 20000 in
theorem gX3_on_X0_has : GoodIn wsX3_on (wsV RX3 90 RX0 yX0_has wsX0_has) := goodIn_app (goodIn_of _ (by decide +kernel)) ggX3_on_X0_has
set_option maxRecDepth 20000 in
theorem ggX3_on_X3_within : GoodIn wsX3_on wsX3_within := goodIn_r _ [16] (by decide +kernel) (by decide +kernel)
set_option maxRecDepth 20000 in
theorem gX3_on_X3_within : GoodIn wsX3_on (va_wsS RX3 44 yX3_within wsX3_within) := goodIn_app (goodIn_of _ (by decide +kernel)) ggX3_on_X3_within
set_option maxRecDepth 20000 in
theorem ggX3_on_X3_found : GoodIn wsX3_on wsX3_found := goodIn_r _ [20, 2, 21, 13, 14, 15, 16, 113, 114, 115, 116, 117, 118, 119] (by decide +kernel) (by decide +kernel)
set_option maxRecDepth 20000 in
theorem gX3_on_X3_found : GoodIn wsX3_on (wsV RX3 59 RX3 yX3_found wsX3_found) := goodIn_app (goodIn_of _ (by decide +kernel)) ggX3_on_X3_found
set_option maxRecDepth 20000 in
theorem ggX3_on_X0_becomes : GoodIn wsX3_on wsX0_becomes := goodIn_r _ [25, 26, 27, 28, 29, 12, 30, 31, 32, 33, 34, 35, 36, 37, 120, 121, 122, 123, 124, 125, 126, 127, 128, 129, 130, 131, 132] (by decide +kernel) (by decide +kernel)
set_option maxRecDepth 20000 in
theorem gX3_on_X0_becomes : GoodIn wsX3_on (wsV RX3 151 RX0 yX0_becomes wsX0_becomes) := goodIn_app (goodIn_of _ (by decide +kernel)) ggX3_on_X0_becomes
set_option maxRecDepth 20000 in
theorem ggX3_on_X0_goSeconds : GoodIn wsX3_on wsX0_goSeconds := goodIn_r _ [41, 30, 28, 27, 26, 42, 43, 44, 10, 45, 12, 33, 31, 46, 47, 48, 49, 50, 51, 52, 53, 32, 35, 36, 54, 55, 56, 57, 58, 59, 60, 61, 62, 63, 64, 65, 66, 67, 68, 69, 70, 71, 72, 34, 73, 74, 75, 76, 77, 78, 79, 80, 81, 82, 83, 84, 85, 86, 87, 88, 29, 89, 90, 91, 92, 93, 94, 95, 96, 37, 97, 98, 99, 100, 101, 102, 103, 104, 105, 106, 107, 120, 121, 122, 123, 124, 125, 126, 127, 128, 129, 130, 131, 132] (by decide +kernel) (by decide +kernel)
set_option maxRecDepth 20000 in
theorem gX3_on_X0_goSeconds : GoodIn wsX3_on (wsV RX3 148 RX0 yX0_goSeconds wsX0_goSeconds) := goodIn_app (goodIn_of _ (by decide +kernel)) ggX3_on_X0_goSeconds
set_option maxRecDepth 20000 in
theorem ggX3_on_X0_isOn : GoodIn wsX3_on wsX0_isOn := goodIn_r _ [80, 30, 120, 121, 122, 123, 124, 125, 126, 127, 128, 129, 130, 131, 132] (by decide +kernel) (by decide +kernel)
set_option maxRecDepth 20000 in
theorem gX3_on_X0_isOn : GoodIn wsX3_on (wsV RX3 103 RX0 yX0_isOn wsX0_isOn) := goodIn_app (goodIn_of _ (by decide +kernel)) ggX3_on_X0_isOn
set_option maxRecDepth 20000 in
theorem ggX3_on_X0_isLost : GoodIn wsX3_on wsX0_isLost := goodIn_r _ [112, 31, 120, 121, 122, 123, 124, 125, 126, 127, 128, 129, 130, 131, 132] (by decide +kernel) (by decide +kernel)
set_option maxRecDepth 20000 in
theorem gX3_on_X0_isLost : GoodIn wsX3_on (wsV RX3 112 RX0 yX0_isLost wsX0_isLost) := goodIn_app (goodIn_of _ (by decide +kernel)) ggX3_on_X0_isLost
theorem dX3_on_0 : decode cX3_on 0 = .ok (.aload_n 0, 1) := by decide +kernel
theorem dX3_on_1 : decode cX3_on 1 = .ok (.getfield 10, 3) := by decide +kernel
theorem dX3_on_4 : decode cX3_on 4 = .ok (.iload_n 1, 1) := by decide +kernel
theorem dX3_on_5 : decode cX3_on 5 = .ok (.invokevirtual 90, 3) := by decide +kernel
theorem dX3_on_8 : decode cX3_on 8 = .ok (.ifCond .eq 23, 3) := by decide +kernel
theorem dX3_on_11 : decode cX3_on 11 = .ok (.iload_n 2, 1) := by decide +kernel
theorem dX3_on_12 : decode cX3_on 12 = .ok (.iconst 0, 1) := by decide +kernel
theorem dX3_on_13 : decode cX3_on 13 = .ok (.sipush 400, 3) := by decide +kernel
theorem dX3_on_16 : decode cX3_on 16 = .ok (.invokestatic 44, 3) := by decide +kernel
theorem dX3_on_19 : decode cX3_on 19 = .ok (.ifCond .eq 12, 3) := by decide +kernel
theorem dX3_on_22 : decode cX3_on 22 = .ok (.iload_n 3, 1) := by decide +kernel
theorem dX3_on_23 : decode cX3_on 23 = .ok (.iconst 0, 1) := by decide +kernel
theorem dX3_on_24 : decode cX3_on 24 = .ok (.iconst 4, 1) := by decide +kernel
theorem dX3_on_25 : decode cX3_on 25 = .ok (.invokestatic 44, 3) := by decide +kernel
theorem dX3_on_28 : decode cX3_on 28 = .ok (.ifCond .ne 10, 3) := by decide +kernel
theorem dX3_on_31 : decode cX3_on 31 = .ok (.aload_n 0, 1) := by decide +kernel
theorem dX3_on_32 : decode cX3_on 32 = .ok (.ldc 58, 2) := by decide +kernel
theorem dX3_on_34 : decode cX3_on 34 = .ok (.invokevirtual 59, 3) := by decide +kernel
theorem dX3_on_37 : decode cX3_on 37 = .ok (.ireturn, 1) := by decide +kernel
theorem dX3_on_38 : decode cX3_on 38 = .ok (.aload_n 0, 1) := by decide +kernel
theorem dX3_on_39 : decode cX3_on 39 = .ok (.getfield 16, 3) := by decide +kernel
theorem dX3_on_42 : decode cX3_on 42 = .ok (.aload_n 0, 1) := by decide +kernel
theorem dX3_on_43 : decode cX3_on 43 = .ok (.getfield 10, 3) := by decide +kernel
theorem dX3_on_46 : decode cX3_on 46 = .ok (.invokevirtual 151, 3) := by decide +kernel
theorem dX3_on_49 : decode cX3_on 49 = .ok (.aload_n 0, 1) := by decide +kernel
theorem dX3_on_50 : decode cX3_on 50 = .ok (.getfield 16, 3) := by decide +kernel
theorem dX3_on_53 : decode cX3_on 53 = .ok (.iload_n 2, 1) := by decide +kernel
theorem dX3_on_54 : decode cX3_on 54 = .ok (.invokevirtual 148, 3) := by decide +kernel
theorem dX3_on_57 : decode cX3_on 57 = .ok (.iload_n 3, 1) := by decide +kernel
theorem dX3_on_58 : decode cX3_on 58 = .ok (.tableswitch 84 0 3 #[30, 40, 57, 67], 30) := by decide +kernel
theorem dX3_on_88 : decode cX3_on 88 = .ok (.aload_n 0, 1) := by decide +kernel
theorem dX3_on_89 : decode cX3_on 89 = .ok (.getfield 16, 3) := by decide +kernel
theorem dX3_on_92 : decode cX3_on 92 = .ok (.getfield 97, 3) := by decide +kernel
theorem dX3_on_95 : decode cX3_on 95 = .ok (.iload_n 1, 1) := by decide +kernel
theorem dX3_on_96 : decode cX3_on 96 = .ok (.iaload, 1) := by decide +kernel
theorem dX3_on_97 : decode cX3_on 97 = .ok (.ireturn, 1) := by decide +kernel
theorem dX3_on_98 : decode cX3_on 98 = .ok (.aload_n 0, 1) := by decide +kernel
theorem dX3_on_99 : decode cX3_on 99 = .ok (.getfield 16, 3) := by decide +kernel
theorem dX3_on_102 : decode cX3_on 102 = .ok (.iload_n 1, 1) := by decide +kernel
theorem dX3_on_103 : decode cX3_on 103 = .ok (.invokevirtual 103, 3) := by decide +kernel
theorem dX3_on_106 : decode cX3_on 106 = .ok (.ifCond .eq 7, 3) := by decide +kernel
theorem dX3_on_109 : decode cX3_on 109 = .ok (.iconst 1, 1) := by decide +kernel
theorem dX3_on_110 : decode cX3_on 110 = .ok (.goto 4, 3) := by decide +kernel
theorem dX3_on_113 : decode cX3_on 113 = .ok (.iconst 0, 1) := by decide +kernel
theorem dX3_on_114 : decode cX3_on 114 = .ok (.ireturn, 1) := by decide +kernel
theorem dX3_on_115 : decode cX3_on 115 = .ok (.aload_n 0, 1) := by decide +kernel
theorem dX3_on_116 : decode cX3_on 116 = .ok (.getfield 16, 3) := by decide +kernel
theorem dX3_on_119 : decode cX3_on 119 = .ok (.getfield 106, 3) := by decide +kernel
theorem dX3_on_122 : decode cX3_on 122 = .ok (.iload_n 1, 1) := by decide +kernel
theorem dX3_on_123 : decode cX3_on 123 = .ok (.iaload, 1) := by decide +kernel
theorem dX3_on_124 : decode cX3_on 124 = .ok (.ireturn, 1) := by decide +kernel
theorem dX3_on_125 : decode cX3_on 125 = .ok (.aload_n 0, 1) := by decide +kernel
theorem dX3_on_126 : decode cX3_on 126 = .ok (.getfield 16, 3) := by decide +kernel
theorem dX3_on_129 : decode cX3_on 129 = .ok (.iload_n 1, 1) := by decide +kernel
theorem dX3_on_130 : decode cX3_on 130 = .ok (.invokevirtual 112, 3) := by decide +kernel
theorem dX3_on_133 : decode cX3_on 133 = .ok (.ifCond .eq 7, 3) := by decide +kernel
theorem dX3_on_136 : decode cX3_on 136 = .ok (.iconst 1, 1) := by decide +kernel
theorem dX3_on_137 : decode cX3_on 137 = .ok (.goto 4, 3) := by decide +kernel
theorem dX3_on_140 : decode cX3_on 140 = .ok (.iconst 0, 1) := by decide +kernel
theorem dX3_on_141 : decode cX3_on 141 = .ok (.ireturn, 1) := by decide +kernel
theorem dX3_on_142 : decode cX3_on 142 = .ok (.aload_n 0, 1) := by decide +kernel
theorem dX3_on_143 : decode cX3_on 143 = .ok (.getfield 16, 3) := by decide +kernel
theorem dX3_on_146 : decode cX3_on 146 = .ok (.getfield 115, 3) := by decide +kernel
theorem dX3_on_149 : decode cX3_on 149 = .ok (.iload_n 1, 1) := by decide +kernel
theorem dX3_on_150 : decode cX3_on 150 = .ok (.iaload, 1) := by decide +kernel
theorem dX3_on_151 : decode cX3_on 151 = .ok (.ireturn, 1) := by decide +kernel
set_option maxRecDepth 20000 in
theorem ggX3_then_X3_within : GoodIn wsX3_then wsX3_within := goodIn_r _ [9] (by decide +kernel) (by decide +kernel)
set_option maxRecDepth 20000 in
theorem gX3_then_X3_within : GoodIn wsX3_then (va_wsS RX3 44 yX3_within wsX3_within) := goodIn_app (goodIn_of _ (by decide +kernel)) ggX3_then_X3_within
set_option maxRecDepth 20000 in
theorem ggX3_then_X3_found : GoodIn wsX3_then wsX3_found := goodIn_r _ [13, 1, 14, 6, 7, 8, 9, 104, 105, 106, 107, 108, 109, 110] (by decide +kernel) (by decide +kernel)
set_option maxRecDepth 20000 in
theorem gX3_then_X3_found : GoodIn wsX3_then (wsV RX3 59 RX3 yX3_found wsX3_found) := goodIn_app (goodIn_of _ (by decide +kernel)) ggX3_then_X3_found
set_option maxRecDepth 20000 in
theorem ggX3_then_X0_becomes : GoodIn wsX3_then wsX0_becomes := goodIn_r _ [19, 20, 21, 22, 23, 24, 25, 26, 27, 28, 29, 30, 31, 32, 111, 112, 113, 114, 115, 116, 117, 118, 119, 120, 121, 122, 123] (by decide +kernel) (by decide +kernel)
set_option maxRecDepth 20000 in
theorem gX3_then_X0_becomes : GoodIn wsX3_then (wsV RX3 151 RX0 yX0_becomes wsX0_becomes) := goodIn_app (goodIn_of _ (by decide +kernel)) ggX3_then_X0_becomes
set_option maxRecDepth 20000 in
theorem ggX3_then_X0_goSeconds : GoodIn wsX3_then wsX0_goSeconds := goodIn_r _ [36, 25, 22, 21, 20, 37, 38, 39, 18, 40, 24, 28, 26, 41, 42, 43, 44, 45, 46, 47, 48, 27, 30, 31, 49, 50, 51, 52, 53, 54, 55, 56, 57, 58, 59, 60, 61, 62, 63, 64, 65, 66, 67, 29, 68, 69, 70, 71, 72, 73, 74, 75, 76, 77, 78, 79, 80, 81, 82, 83, 23, 84, 85, 86, 87, 88, 89, 90, 91, 32, 92, 93, 94, 95, 96, 97, 98, 99, 100, 101, 102, 111, 112, 113, 114, 115, 116, 117, 118, 119, 120, 121, 122, 123] (by decide +kernel) (by decide +kernel)
set_option maxRecDepth 20000 in
theorem gX3_then_X0_goSeconds : GoodIn wsX3_then (wsV RX3 148 RX0 yX0_goSeconds wsX0_goSeconds) := goodIn_app (goodIn_of _ (by decide +kernel)) ggX3_then_X0_goSeconds
set_option maxRecDepth 20000 in
theorem ggX3_then_J6_bitCount_0f7a4 : GoodIn wsX3_then wsJ6_bitCount_0f7a4 := goodIn_r _ [60, 61, 62, 63] (by decide +kernel) (by decide +kernel)
set_option maxRecDepth 20000 in
theorem gX3_then_J6_bitCount_0f7a4 : GoodIn wsX3_then (va_wsS RX3 155 yJ6_bitCount_0f7a4 wsJ6_bitCount_0f7a4) := goodIn_app (goodIn_of _ (by decide +kernel)) ggX3_then_J6_bitCount_0f7a4
theorem dX3_then_0 : decode cX3_then 0 = .ok (.iload_n 1, 1) := by decide +kernel
theorem dX3_then_1 : decode cX3_then 1 = .ok (.iconst 0, 1) := by decide +kernel
theorem dX3_then_2 : decode cX3_then 2 = .ok (.sipush 400, 3) := by decide +kernel
theorem dX3_then_5 : decode cX3_then 5 = .ok (.invokestatic 44, 3) := by decide +kernel
theorem dX3_then_8 : decode cX3_then 8 = .ok (.ifCond .eq 12, 3) := by decide +kernel
theorem dX3_then_11 : decode cX3_then 11 = .ok (.iload_n 2, 1) := by decide +kernel
theorem dX3_then_12 : decode cX3_then 12 = .ok (.iconst 0, 1) := by decide +kernel
theorem dX3_then_13 : decode cX3_then 13 = .ok (.iconst 1, 1) := by decide +kernel
theorem dX3_then_14 : decode cX3_then 14 = .ok (.invokestatic 44, 3) := by decide +kernel
theorem dX3_then_17 : decode cX3_then 17 = .ok (.ifCond .ne 10, 3) := by decide +kernel
theorem dX3_then_20 : decode cX3_then 20 = .ok (.aload_n 0, 1) := by decide +kernel
theorem dX3_then_21 : decode cX3_then 21 = .ok (.ldc 58, 2) := by decide +kernel
theorem dX3_then_23 : decode cX3_then 23 = .ok (.invokevirtual 59, 3) := by decide +kernel
theorem dX3_then_26 : decode cX3_then 26 = .ok (.ireturn, 1) := by decide +kernel
theorem dX3_then_27 : decode cX3_then 27 = .ok (.aload_n 0, 1) := by decide +kernel
theorem dX3_then_28 : decode cX3_then 28 = .ok (.getfield 16, 3) := by decide +kernel
theorem dX3_then_31 : decode cX3_then 31 = .ok (.aload_n 0, 1) := by decide +kernel
theorem dX3_then_32 : decode cX3_then 32 = .ok (.getfield 10, 3) := by decide +kernel
theorem dX3_then_35 : decode cX3_then 35 = .ok (.invokevirtual 151, 3) := by decide +kernel
theorem dX3_then_38 : decode cX3_then 38 = .ok (.aload_n 0, 1) := by decide +kernel
theorem dX3_then_39 : decode cX3_then 39 = .ok (.getfield 16, 3) := by decide +kernel
theorem dX3_then_42 : decode cX3_then 42 = .ok (.iload_n 1, 1) := by decide +kernel
theorem dX3_then_43 : decode cX3_then 43 = .ok (.invokevirtual 148, 3) := by decide +kernel
theorem dX3_then_46 : decode cX3_then 46 = .ok (.iload_n 2, 1) := by decide +kernel
theorem dX3_then_47 : decode cX3_then 47 = .ok (.ifCond .ne 13, 3) := by decide +kernel
theorem dX3_then_50 : decode cX3_then 50 = .ok (.aload_n 0, 1) := by decide +kernel
theorem dX3_then_51 : decode cX3_then 51 = .ok (.getfield 16, 3) := by decide +kernel
theorem dX3_then_54 : decode cX3_then 54 = .ok (.getfield 66, 3) := by decide +kernel
theorem dX3_then_57 : decode cX3_then 57 = .ok (.goto 10, 3) := by decide +kernel
theorem dX3_then_60 : decode cX3_then 60 = .ok (.aload_n 0, 1) := by decide +kernel
theorem dX3_then_61 : decode cX3_then 61 = .ok (.getfield 16, 3) := by decide +kernel
theorem dX3_then_64 : decode cX3_then 64 = .ok (.getfield 69, 3) := by decide +kernel
theorem dX3_then_67 : decode cX3_then 67 = .ok (.invokestatic 155, 3) := by decide +kernel
theorem dX3_then_70 : decode cX3_then 70 = .ok (.ireturn, 1) := by decide +kernel
set_option maxRecDepth 20000 in
theorem ggX3_gets_X0_has : GoodIn wsX3_gets wsX0_has := goodIn_r _ [8, 9, 129, 130, 131, 132, 133, 134, 135, 136, 137, 138, 139, 140, 141] (by decide +kernel) (by decide +kernel)
set_option maxRecDepth 20000 in
theorem gX3_gets_X0_has : GoodIn wsX3_gets (wsV RX3 90 RX0 yX0_has wsX0_has) := goodIn_app (goodIn_of _ (by decide +kernel)) ggX3_gets_X0_has
set_option maxRecDepth 20000 in
theorem ggX3_gets_X3_found : GoodIn wsX3_gets wsX3_found := goodIn_r _ [14, 2, 15, 16, 17, 13, 18, 122, 123, 124, 125, 126, 127, 128] (by decide +kernel) (by decide +kernel)
set_option maxRecDepth 20000 in
theorem gX3_gets_X3_found : GoodIn wsX3_gets (wsV RX3 59 RX3 yX3_found wsX3_found) := goodIn_app (goodIn_of _ (by decide +kernel)) ggX3_gets_X3_found
set_option maxRecDepth 20000 in
theorem ggX3_gets_X0_becomes : GoodIn wsX3_gets wsX0_becomes := goodIn_r _ [22, 23, 24, 25, 26, 9, 27, 28, 29, 30, 31, 32, 33, 34, 129, 130, 131, 132, 133, 134, 135, 136, 137, 138, 139, 140, 141] (by decide +kernel) (by decide +kernel)
set_option maxRecDepth 20000 in
theorem gX3_gets_X0_becomes : GoodIn wsX3_gets (wsV RX3 151 RX0 yX0_becomes wsX0_becomes) := goodIn_app (goodIn_of _ (by decide +kernel)) ggX3_gets_X0_becomes
set_option maxRecDepth 20000 in
theorem ggX3_gets_X3_secondsUntil : GoodIn wsX3_gets wsX3_secondsUntil := goodIn_r _ [38, 3, 39, 40, 41, 42, 7, 43, 32, 30, 33, 44, 45, 46, 47, 27, 48, 49, 50, 51, 28, 52, 53, 54, 55, 25, 24, 23, 56, 57, 58, 59, 9, 60, 61, 62, 63, 64, 65, 66, 67, 29, 68, 69, 70, 71, 72, 73, 74, 75, 76, 77, 78, 79, 80, 81, 82, 83, 84, 85, 86, 31, 87, 88, 89, 90, 91, 92, 93, 94, 95, 96, 97, 98, 26, 99, 100, 101, 102, 103, 104, 105, 106, 34, 107, 108, 109, 110, 111, 112, 113, 114, 115, 116, 117, 122, 123, 124, 125, 126, 127, 128, 129, 130, 131, 132, 133, 134, 135, 136, 137, 138, 139, 140, 141] (by decide +kernel) (by decide +kernel)
set_option maxRecDepth 20000 in
theorem gX3_gets_X3_secondsUntil : GoodIn wsX3_gets (wsV RX3 160 RX3 yX3_secondsUntil wsX3_secondsUntil) := goodIn_app (goodIn_of _ (by decide +kernel)) ggX3_gets_X3_secondsUntil
set_option maxRecDepth 20000 in
theorem ggX3_gets_X3_orNone : GoodIn wsX3_gets wsX3_orNone := goodIn_r _ [121, 39, 10, 11, 12, 13, 14, 2, 15, 16, 17, 18, 122, 123, 124, 125, 126, 127, 128] (by decide +kernel) (by decide +kernel)
set_option maxRecDepth 20000 in
theorem gX3_gets_X3_orNone : GoodIn wsX3_gets (wsV RX3 164 RX3 yX3_orNone wsX3_orNone) := goodIn_app (goodIn_of _ (by decide +kernel)) ggX3_gets_X3_orNone
theorem dX3_gets_0 : decode cX3_gets 0 = .ok (.aload_n 0, 1) := by decide +kernel
theorem dX3_gets_1 : decode cX3_gets 1 = .ok (.getfield 10, 3) := by decide +kernel
theorem dX3_gets_4 : decode cX3_gets 4 = .ok (.iload_n 1, 1) := by decide +kernel
theorem dX3_gets_5 : decode cX3_gets 5 = .ok (.invokevirtual 90, 3) := by decide +kernel
theorem dX3_gets_8 : decode cX3_gets 8 = .ok (.ifCond .ne 10, 3) := by decide +kernel
theorem dX3_gets_11 : decode cX3_gets 11 = .ok (.aload_n 0, 1) := by decide +kernel
theorem dX3_gets_12 : decode cX3_gets 12 = .ok (.ldc 58, 2) := by decide +kernel
theorem dX3_gets_14 : decode cX3_gets 14 = .ok (.invokevirtual 59, 3) := by decide +kernel
theorem dX3_gets_17 : decode cX3_gets 17 = .ok (.ireturn, 1) := by decide +kernel
theorem dX3_gets_18 : decode cX3_gets 18 = .ok (.aload_n 0, 1) := by decide +kernel
theorem dX3_gets_19 : decode cX3_gets 19 = .ok (.getfield 16, 3) := by decide +kernel
theorem dX3_gets_22 : decode cX3_gets 22 = .ok (.aload_n 0, 1) := by decide +kernel
theorem dX3_gets_23 : decode cX3_gets 23 = .ok (.getfield 10, 3) := by decide +kernel
theorem dX3_gets_26 : decode cX3_gets 26 = .ok (.invokevirtual 151, 3) := by decide +kernel
theorem dX3_gets_29 : decode cX3_gets 29 = .ok (.aload_n 0, 1) := by decide +kernel
theorem dX3_gets_30 : decode cX3_gets 30 = .ok (.aload_n 0, 1) := by decide +kernel
theorem dX3_gets_31 : decode cX3_gets 31 = .ok (.iload_n 1, 1) := by decide +kernel
theorem dX3_gets_32 : decode cX3_gets 32 = .ok (.iconst 0, 1) := by decide +kernel
theorem dX3_gets_33 : decode cX3_gets 33 = .ok (.sipush 400, 3) := by decide +kernel
theorem dX3_gets_36 : decode cX3_gets 36 = .ok (.invokevirtual 160, 3) := by decide +kernel
theorem dX3_gets_39 : decode cX3_gets 39 = .ok (.invokevirtual 164, 3) := by decide +kernel
theorem dX3_gets_42 : decode cX3_gets 42 = .ok (.ireturn, 1) := by decide +kernel
set_option maxRecDepth 20000 in
theorem ggX3_dry_X0_has : GoodIn wsX3_dry wsX0_has := goodIn_r _ [8, 9, 129, 130, 131, 132, 133, 134, 135, 136, 137, 138, 139, 140, 141] (by decide +kernel) (by decide +kernel)
set_option maxRecDepth 20000 in
theorem gX3_dry_X0_has : GoodIn wsX3_dry (wsV RX3 90 RX0 yX0_has wsX0_has) := goodIn_app (goodIn_of _ (by decide +kernel)) ggX3_dry_X0_has
set_option maxRecDepth 20000 in
theorem ggX3_dry_X3_found : GoodIn wsX3_dry wsX3_found := goodIn_r _ [14, 2, 15, 16, 17, 13, 18, 122, 123, 124, 125, 126, 127, 128] (by decide +kernel) (by decide +kernel)
set_option maxRecDepth 20000 in
theorem gX3_dry_X3_found : GoodIn wsX3_dry (wsV RX3 59 RX3 yX3_found wsX3_found) := goodIn_app (goodIn_of _ (by decide +kernel)) ggX3_dry_X3_found
set_option maxRecDepth 20000 in
theorem ggX3_dry_X0_becomes : GoodIn wsX3_dry wsX0_becomes := goodIn_r _ [22, 23, 24, 25, 26, 9, 27, 28, 29, 30, 31, 32, 33, 34, 129, 130, 131, 132, 133, 134, 135, 136, 137, 138, 139, 140, 141] (by decide +kernel) (by decide +kernel)
set_option maxRecDepth 20000 in
theorem gX3_dry_X0_becomes : GoodIn wsX3_dry (wsV RX3 151 RX0 yX0_becomes wsX0_becomes) := goodIn_app (goodIn_of _ (by decide +kernel)) ggX3_dry_X0_becomes
set_option maxRecDepth 20000 in
theorem ggX3_dry_X3_secondsUntil : GoodIn wsX3_dry wsX3_secondsUntil := goodIn_r _ [38, 3, 39, 40, 41, 42, 7, 43, 32, 30, 33, 44, 45, 46, 47, 27, 48, 49, 50, 51, 28, 52, 53, 54, 55, 25, 24, 23, 56, 57, 58, 59, 9, 60, 61, 62, 63, 64, 65, 66, 67, 29, 68, 69, 70, 71, 72, 73, 74, 75, 76, 77, 78, 79, 80, 81, 82, 83, 84, 85, 86, 31, 87, 88, 89, 90, 91, 92, 93, 94, 95, 96, 97, 98, 26, 99, 100, 101, 102, 103, 104, 105, 106, 34, 107, 108, 109, 110, 111, 112, 113, 114, 115, 116, 117, 122, 123, 124, 125, 126, 127, 128, 129, 130, 131, 132, 133, 134, 135, 136, 137, 138, 139, 140, 141] (by decide +kernel) (by decide +kernel)
set_option maxRecDepth 20000 in
theorem gX3_dry_X3_secondsUntil : GoodIn wsX3_dry (wsV RX3 160 RX3 yX3_secondsUntil wsX3_secondsUntil) := goodIn_app (goodIn_of _ (by decide +kernel)) ggX3_dry_X3_secondsUntil
set_option maxRecDepth 20000 in
theorem ggX3_dry_X3_orNone : GoodIn wsX3_dry wsX3_orNone := goodIn_r _ [121, 39, 10, 11, 12, 13, 14, 2, 15, 16, 17, 18, 122, 123, 124, 125, 126, 127, 128] (by decide +kernel) (by decide +kernel)
set_option maxRecDepth 20000 in
theorem gX3_dry_X3_orNone : GoodIn wsX3_dry (wsV RX3 164 RX3 yX3_orNone wsX3_orNone) := goodIn_app (goodIn_of _ (by decide +kernel)) ggX3_dry_X3_orNone
theorem dX3_dry_0 : decode cX3_dry 0 = .ok (.aload_n 0, 1) := by decide +kernel
theorem dX3_dry_1 : decode cX3_dry 1 = .ok (.getfield 10, 3) := by decide +kernel
theorem dX3_dry_4 : decode cX3_dry 4 = .ok (.iload_n 1, 1) := by decide +kernel
theorem dX3_dry_5 : decode cX3_dry 5 = .ok (.invokevirtual 90, 3) := by decide +kernel
theorem dX3_dry_8 : decode cX3_dry 8 = .ok (.ifCond .ne 10, 3) := by decide +kernel
theorem dX3_dry_11 : decode cX3_dry 11 = .ok (.aload_n 0, 1) := by decide +kernel
theorem dX3_dry_12 : decode cX3_dry 12 = .ok (.ldc 58, 2) := by decide +kernel
theorem dX3_dry_14 : decode cX3_dry 14 = .ok (.invokevirtual 59, 3) := by decide +kernel
theorem dX3_dry_17 : decode cX3_dry 17 = .ok (.ireturn, 1) := by decide +kernel
theorem dX3_dry_18 : decode cX3_dry 18 = .ok (.aload_n 0, 1) := by decide +kernel
theorem dX3_dry_19 : decode cX3_dry 19 = .ok (.getfield 16, 3) := by decide +kernel
theorem dX3_dry_22 : decode cX3_dry 22 = .ok (.aload_n 0, 1) := by decide +kernel
theorem dX3_dry_23 : decode cX3_dry 23 = .ok (.getfield 10, 3) := by decide +kernel
theorem dX3_dry_26 : decode cX3_dry 26 = .ok (.invokevirtual 151, 3) := by decide +kernel
theorem dX3_dry_29 : decode cX3_dry 29 = .ok (.aload_n 0, 1) := by decide +kernel
theorem dX3_dry_30 : decode cX3_dry 30 = .ok (.aload_n 0, 1) := by decide +kernel
theorem dX3_dry_31 : decode cX3_dry 31 = .ok (.iload_n 1, 1) := by decide +kernel
theorem dX3_dry_32 : decode cX3_dry 32 = .ok (.iconst 1, 1) := by decide +kernel
theorem dX3_dry_33 : decode cX3_dry 33 = .ok (.sipush 400, 3) := by decide +kernel
theorem dX3_dry_36 : decode cX3_dry 36 = .ok (.invokevirtual 160, 3) := by decide +kernel
theorem dX3_dry_39 : decode cX3_dry 39 = .ok (.invokevirtual 164, 3) := by decide +kernel
theorem dX3_dry_42 : decode cX3_dry 42 = .ok (.ireturn, 1) := by decide +kernel
set_option maxRecDepth 20000 in
theorem ggX3_lost_X0_has : GoodIn wsX3_lost wsX0_has := goodIn_r _ [8, 9, 129, 130, 131, 132, 133, 134, 135, 136, 137, 138, 139, 140, 141] (by decide +kernel) (by decide +kernel)
set_option maxRecDepth 20000 in
theorem gX3_lost_X0_has : GoodIn wsX3_lost (wsV RX3 90 RX0 yX0_has wsX0_has) := goodIn_app (goodIn_of _ (by decide +kernel)) ggX3_lost_X0_has
set_option maxRecDepth 20000 in
theorem ggX3_lost_X3_found : GoodIn wsX3_lost wsX3_found := goodIn_r _ [14, 2, 15, 16, 17, 13, 18, 122, 123, 124, 125, 126, 127, 128] (by decide +kernel) (by decide +kernel)
set_option maxRecDepth 20000 in
theorem gX3_lost_X3_found : GoodIn wsX3_lost (wsV RX3 59 RX3 yX3_found wsX3_found) := goodIn_app (goodIn_of _ (by decide +kernel)) ggX3_lost_X3_found
set_option maxRecDepth 20000 in
theorem ggX3_lost_X0_becomes : GoodIn wsX3_lost wsX0_becomes := goodIn_r _ [22, 23, 24, 25, 26, 9, 27, 28, 29, 30, 31, 32, 33, 34, 129, 130, 131, 132, 133, 134, 135, 136, 137, 138, 139, 140, 141] (by decide +kernel) (by decide +kernel)
set_option maxRecDepth 20000 in
theorem gX3_lost_X0_becomes : GoodIn wsX3_lost (wsV RX3 151 RX0 yX0_becomes wsX0_becomes) := goodIn_app (goodIn_of _ (by decide +kernel)) ggX3_lost_X0_becomes
set_option maxRecDepth 20000 in
theorem ggX3_lost_X3_secondsUntil : GoodIn wsX3_lost wsX3_secondsUntil := goodIn_r _ [38, 3, 39, 40, 41, 42, 7, 43, 32, 30, 33, 44, 45, 46, 47, 27, 48, 49, 50, 51, 28, 52, 53, 54, 55, 25, 24, 23, 56, 57, 58, 59, 9, 60, 61, 62, 63, 64, 65, 66, 67, 29, 68, 69, 70, 71, 72, 73, 74, 75, 76, 77, 78, 79, 80, 81, 82, 83, 84, 85, 86, 31, 87, 88, 89, 90, 91, 92, 93, 94, 95, 96, 97, 98, 26, 99, 100, 101, 102, 103, 104, 105, 106, 34, 107, 108, 109, 110, 111, 112, 113, 114, 115, 116, 117, 122, 123, 124, 125, 126, 127, 128, 129, 130, 131, 132, 133, 134, 135, 136, 137, 138, 139, 140, 141] (by decide +kernel) (by decide +kernel)
set_option maxRecDepth 20000 in
theorem gX3_lost_X3_secondsUntil : GoodIn wsX3_lost (wsV RX3 160 RX3 yX3_secondsUntil wsX3_secondsUntil) := goodIn_app (goodIn_of _ (by decide +kernel)) ggX3_lost_X3_secondsUntil
set_option maxRecDepth 20000 in
theorem ggX3_lost_X3_orNone : GoodIn wsX3_lost wsX3_orNone := goodIn_r _ [121, 39, 10, 11, 12, 13, 14, 2, 15, 16, 17, 18, 122, 123, 124, 125, 126, 127, 128] (by decide +kernel) (by decide +kernel)
set_option maxRecDepth 20000 in
theorem gX3_lost_X3_orNone : GoodIn wsX3_lost (wsV RX3 164 RX3 yX3_orNone wsX3_orNone) := goodIn_app (goodIn_of _ (by decide +kernel)) ggX3_lost_X3_orNone
theorem dX3_lost_0 : decode cX3_lost 0 = .ok (.aload_n 0, 1) := by decide +kernel
theorem dX3_lost_1 : decode cX3_lost 1 = .ok (.getfield 10, 3) := by decide +kernel
theorem dX3_lost_4 : decode cX3_lost 4 = .ok (.iload_n 1, 1) := by decide +kernel
theorem dX3_lost_5 : decode cX3_lost 5 = .ok (.invokevirtual 90, 3) := by decide +kernel
theorem dX3_lost_8 : decode cX3_lost 8 = .ok (.ifCond .ne 10, 3) := by decide +kernel
theorem dX3_lost_11 : decode cX3_lost 11 = .ok (.aload_n 0, 1) := by decide +kernel
theorem dX3_lost_12 : decode cX3_lost 12 = .ok (.ldc 58, 2) := by decide +kernel
theorem dX3_lost_14 : decode cX3_lost 14 = .ok (.invokevirtual 59, 3) := by decide +kernel
theorem dX3_lost_17 : decode cX3_lost 17 = .ok (.ireturn, 1) := by decide +kernel
theorem dX3_lost_18 : decode cX3_lost 18 = .ok (.aload_n 0, 1) := by decide +kernel
theorem dX3_lost_19 : decode cX3_lost 19 = .ok (.getfield 16, 3) := by decide +kernel
theorem dX3_lost_22 : decode cX3_lost 22 = .ok (.aload_n 0, 1) := by decide +kernel
theorem dX3_lost_23 : decode cX3_lost 23 = .ok (.getfield 10, 3) := by decide +kernel
theorem dX3_lost_26 : decode cX3_lost 26 = .ok (.invokevirtual 151, 3) := by decide +kernel
theorem dX3_lost_29 : decode cX3_lost 29 = .ok (.aload_n 0, 1) := by decide +kernel
theorem dX3_lost_30 : decode cX3_lost 30 = .ok (.aload_n 0, 1) := by decide +kernel
theorem dX3_lost_31 : decode cX3_lost 31 = .ok (.iload_n 1, 1) := by decide +kernel
theorem dX3_lost_32 : decode cX3_lost 32 = .ok (.iconst 2, 1) := by decide +kernel
theorem dX3_lost_33 : decode cX3_lost 33 = .ok (.sipush 400, 3) := by decide +kernel
theorem dX3_lost_36 : decode cX3_lost 36 = .ok (.invokevirtual 160, 3) := by decide +kernel
theorem dX3_lost_39 : decode cX3_lost 39 = .ok (.invokevirtual 164, 3) := by decide +kernel
theorem dX3_lost_42 : decode cX3_lost 42 = .ok (.ireturn, 1) := by decide +kernel
set_option maxRecDepth 20000 in
theorem ggX3_arrives_X0_has : GoodIn wsX3_arrives wsX0_has := goodIn_r _ [8, 9, 129, 130, 131, 132, 133, 134, 135, 136, 137, 138, 139, 140, 141] (by decide +kernel) (by decide +kernel)
set_option maxRecDepth 20000 in
theorem gX3_arrives_X0_has : GoodIn wsX3_arrives (wsV RX3 90 RX0 yX0_has wsX0_has) := goodIn_app (goodIn_of _ (by decide +kernel)) ggX3_arrives_X0_has
set_option maxRecDepth 20000 in
theorem ggX3_arrives_X3_found : GoodIn wsX3_arrives wsX3_found := goodIn_r _ [14, 2, 15, 16, 17, 13, 18, 122, 123, 124, 125, 126, 127, 128] (by decide +kernel) (by decide +kernel)
set_option maxRecDepth 20000 in
theorem gX3_arrives_X3_found : GoodIn wsX3_arrives (wsV RX3 59 RX3 yX3_found wsX3_found) := goodIn_app (goodIn_of _ (by decide +kernel)) ggX3_arrives_X3_found
set_option maxRecDepth 20000 in
theorem ggX3_arrives_X0_becomes : GoodIn wsX3_arrives wsX0_becomes := goodIn_r _ [22, 23, 24, 25, 26, 9, 27, 28, 29, 30, 31, 32, 33, 34, 129, 130, 131, 132, 133, 134, 135, 136, 137, 138, 139, 140, 141] (by decide +kernel) (by decide +kernel)
set_option maxRecDepth 20000 in
theorem gX3_arrives_X0_becomes : GoodIn wsX3_arrives (wsV RX3 151 RX0 yX0_becomes wsX0_becomes) := goodIn_app (goodIn_of _ (by decide +kernel)) ggX3_arrives_X0_becomes
set_option maxRecDepth 20000 in
theorem ggX3_arrives_X3_secondsUntil : GoodIn wsX3_arrives wsX3_secondsUntil := goodIn_r _ [38, 3, 39, 40, 41, 42, 7, 43, 32, 30, 33, 44, 45, 46, 47, 27, 48, 49, 50, 51, 28, 52, 53, 54, 55, 25, 24, 23, 56, 57, 58, 59, 9, 60, 61, 62, 63, 64, 65, 66, 67, 29, 68, 69, 70, 71, 72, 73, 74, 75, 76, 77, 78, 79, 80, 81, 82, 83, 84, 85, 86, 31, 87, 88, 89, 90, 91, 92, 93, 94, 95, 96, 97, 98, 26, 99, 100, 101, 102, 103, 104, 105, 106, 34, 107, 108, 109, 110, 111, 112, 113, 114, 115, 116, 117, 122, 123, 124, 125, 126, 127, 128, 129, 130, 131, 132, 133, 134, 135, 136, 137, 138, 139, 140, 141] (by decide +kernel) (by decide +kernel)
set_option maxRecDepth 20000 in
theorem gX3_arrives_X3_secondsUntil : GoodIn wsX3_arrives (wsV RX3 160 RX3 yX3_secondsUntil wsX3_secondsUntil) := goodIn_app (goodIn_of _ (by decide +kernel)) ggX3_arrives_X3_secondsUntil
set_option maxRecDepth 20000 in
theorem ggX3_arrives_X3_orNone : GoodIn wsX3_arrives wsX3_orNone := goodIn_r _ [121, 39, 10, 11, 12, 13, 14, 2, 15, 16, 17, 18, 122, 123, 124, 125, 126, 127, 128] (by decide +kernel) (by decide +kernel)
set_option maxRecDepth 20000 in
theorem gX3_arrives_X3_orNone : GoodIn wsX3_arrives (wsV RX3 164 RX3 yX3_orNone wsX3_orNone) := goodIn_app (goodIn_of _ (by decide +kernel)) ggX3_arrives_X3_orNone
theorem dX3_arrives_0 : decode cX3_arrives 0 = .ok (.aload_n 0, 1) := by decide +kernel
theorem dX3_arrives_1 : decode cX3_arrives 1 = .ok (.getfield 10, 3) := by decide +kernel
theorem dX3_arrives_4 : decode cX3_arrives 4 = .ok (.iload_n 1, 1) := by decide +kernel
theorem dX3_arrives_5 : decode cX3_arrives 5 = .ok (.invokevirtual 90, 3) := by decide +kernel
theorem dX3_arrives_8 : decode cX3_arrives 8 = .ok (.ifCond .ne 10, 3) := by decide +kernel
theorem dX3_arrives_11 : decode cX3_arrives 11 = .ok (.aload_n 0, 1) := by decide +kernel
theorem dX3_arrives_12 : decode cX3_arrives 12 = .ok (.ldc 58, 2) := by decide +kernel
theorem dX3_arrives_14 : decode cX3_arrives 14 = .ok (.invokevirtual 59, 3) := by decide +kernel
theorem dX3_arrives_17 : decode cX3_arrives 17 = .ok (.ireturn, 1) := by decide +kernel
theorem dX3_arrives_18 : decode cX3_arrives 18 = .ok (.aload_n 0, 1) := by decide +kernel
theorem dX3_arrives_19 : decode cX3_arrives 19 = .ok (.getfield 16, 3) := by decide +kernel
theorem dX3_arrives_22 : decode cX3_arrives 22 = .ok (.aload_n 0, 1) := by decide +kernel
theorem dX3_arrives_23 : decode cX3_arrives 23 = .ok (.getfield 10, 3) := by decide +kernel
theorem dX3_arrives_26 : decode cX3_arrives 26 = .ok (.invokevirtual 151, 3) := by decide +kernel
theorem dX3_arrives_29 : decode cX3_arrives 29 = .ok (.aload_n 0, 1) := by decide +kernel
theorem dX3_arrives_30 : decode cX3_arrives 30 = .ok (.aload_n 0, 1) := by decide +kernel
theorem dX3_arrives_31 : decode cX3_arrives 31 = .ok (.iload_n 1, 1) := by decide +kernel
theorem dX3_arrives_32 : decode cX3_arrives 32 = .ok (.iconst 3, 1) := by decide +kernel
theorem dX3_arrives_33 : decode cX3_arrives 33 = .ok (.sipush 400, 3) := by decide +kernel
theorem dX3_arrives_36 : decode cX3_arrives 36 = .ok (.invokevirtual 160, 3) := by decide +kernel
theorem dX3_arrives_39 : decode cX3_arrives 39 = .ok (.invokevirtual 164, 3) := by decide +kernel
theorem dX3_arrives_42 : decode cX3_arrives 42 = .ok (.ireturn, 1) := by decide +kernel
set_option maxRecDepth 20000 in
theorem ggX3_speed_X0_has : GoodIn wsX3_speed wsX0_has := goodIn_r _ [10, 11, 114, 115, 116, 117, 118, 119, 120, 121, 122, 123, 124, 125, 126] (by decide +kernel) (by decide +kernel)
set_option maxRecDepth 20000 in
theorem gX3_speed_X0_has : GoodIn wsX3_speed (wsV RX3 90 RX0 yX0_has wsX0_has) := goodIn_app (goodIn_of _ (by decide +kernel)) ggX3_speed_X0_has
set_option maxRecDepth 20000 in
theorem ggX3_speed_X3_within : GoodIn wsX3_speed wsX3_within := goodIn_r _ [15] (by decide +kernel) (by decide +kernel)
set_option maxRecDepth 20000 in
theorem gX3_speed_X3_within : GoodIn wsX3_speed (va_wsS RX3 44 yX3_within wsX3_within) := goodIn_app (goodIn_of _ (by decide +kernel)) ggX3_speed_X3_within
set_option maxRecDepth 20000 in
theorem ggX3_speed_X3_found : GoodIn wsX3_speed wsX3_found := goodIn_r _ [19, 2, 20, 12, 13, 14, 15, 107, 108, 109, 110, 111, 112, 113] (by decide +kernel) (by decide +kernel)
set_option maxRecDepth 20000 in
theorem gX3_speed_X3_found : GoodIn wsX3_speed (wsV RX3 59 RX3 yX3_found wsX3_found) := goodIn_app (goodIn_of _ (by decide +kernel)) ggX3_speed_X3_found
set_option maxRecDepth 20000 in
theorem ggX3_speed_X0_becomes : GoodIn wsX3_speed wsX0_becomes := goodIn_r _ [24, 25, 26, 27, 28, 11, 29, 30, 31, 32, 33, 34, 35, 36, 114, 115, 116, 117, 118, 119, 120, 121, 122, 123, 124, 125, 126] (by decide +kernel) (by decide +kernel)
set_option maxRecDepth 20000 in
theorem gX3_speed_X0_becomes : GoodIn wsX3_speed (wsV RX3 151 RX0 yX0_becomes wsX0_becomes) := goodIn_app (goodIn_of _ (by decide +kernel)) ggX3_speed_X0_becomes
set_option maxRecDepth 20000 in
theorem ggX3_speed_X0_goSeconds : GoodIn wsX3_speed wsX0_goSeconds := goodIn_r _ [40, 29, 27, 26, 25, 41, 42, 43, 9, 44, 11, 32, 30, 45, 46, 47, 48, 49, 50, 51, 52, 31, 34, 35, 53, 54, 55, 56, 57, 58, 59, 60, 61, 62, 63, 64, 65, 66, 67, 68, 69, 70, 71, 33, 72, 73, 74, 75, 76, 77, 78, 79, 80, 81, 82, 83, 84, 85, 86, 87, 28, 88, 89, 90, 91, 92, 93, 94, 95, 36, 96, 97, 98, 99, 100, 101, 102, 103, 104, 105, 106, 114, 115, 116, 117, 118, 119, 120, 121, 122, 123, 124, 125, 126] (by decide +kernel) (by decide +kernel)
set_option maxRecDepth 20000 in
theorem gX3_speed_X0_goSeconds : GoodIn wsX3_speed (wsV RX3 148 RX0 yX0_goSeconds wsX0_goSeconds) := goodIn_app (goodIn_of _ (by decide +kernel)) ggX3_speed_X0_goSeconds
theorem dX3_speed_0 : decode cX3_speed 0 = .ok (.aload_n 0, 1) := by decide +kernel
theorem dX3_speed_1 : decode cX3_speed 1 = .ok (.getfield 10, 3) := by decide +kernel
theorem dX3_speed_4 : decode cX3_speed 4 = .ok (.iload_n 1, 1) := by decide +kernel
theorem dX3_speed_5 : decode cX3_speed 5 = .ok (.invokevirtual 90, 3) := by decide +kernel
theorem dX3_speed_8 : decode cX3_speed 8 = .ok (.ifCond .eq 13, 3) := by decide +kernel
theorem dX3_speed_11 : decode cX3_speed 11 = .ok (.iload_n 2, 1) := by decide +kernel
theorem dX3_speed_12 : decode cX3_speed 12 = .ok (.iconst 1, 1) := by decide +kernel
theorem dX3_speed_13 : decode cX3_speed 13 = .ok (.bipush 120, 2) := by decide +kernel
theorem dX3_speed_15 : decode cX3_speed 15 = .ok (.invokestatic 44, 3) := by decide +kernel
theorem dX3_speed_18 : decode cX3_speed 18 = .ok (.ifCond .ne 10, 3) := by decide +kernel
theorem dX3_speed_21 : decode cX3_speed 21 = .ok (.aload_n 0, 1) := by decide +kernel
theorem dX3_speed_22 : decode cX3_speed 22 = .ok (.ldc 58, 2) := by decide +kernel
theorem dX3_speed_24 : decode cX3_speed 24 = .ok (.invokevirtual 59, 3) := by decide +kernel
theorem dX3_speed_27 : decode cX3_speed 27 = .ok (.ireturn, 1) := by decide +kernel
theorem dX3_speed_28 : decode cX3_speed 28 = .ok (.iconst 1, 1) := by decide +kernel
theorem dX3_speed_29 : decode cX3_speed 29 = .ok (.istore_n 3, 1) := by decide +kernel
theorem dX3_speed_30 : decode cX3_speed 30 = .ok (.bipush 100, 2) := by decide +kernel
theorem dX3_speed_32 : decode cX3_speed 32 = .ok (.istore 4, 2) := by decide +kernel
theorem dX3_speed_34 : decode cX3_speed 34 = .ok (.iconst 1, 1) := by decide +kernel
theorem dX3_speed_35 : decode cX3_speed 35 = .ok (.istore 5, 2) := by decide +kernel
theorem dX3_speed_37 : decode cX3_speed 37 = .ok (.iload 5, 2) := by decide +kernel
theorem dX3_speed_39 : decode cX3_speed 39 = .ok (.bipush 10, 2) := by decide +kernel
theorem dX3_speed_41 : decode cX3_speed 41 = .ok (.if_icmp .gt 65, 3) := by decide +kernel
theorem dX3_speed_44 : decode cX3_speed 44 = .ok (.aload_n 0, 1) := by decide +kernel
theorem dX3_speed_45 : decode cX3_speed 45 = .ok (.getfield 16, 3) := by decide +kernel
theorem dX3_speed_48 : decode cX3_speed 48 = .ok (.aload_n 0, 1) := by decide +kernel
theorem dX3_speed_49 : decode cX3_speed 49 = .ok (.getfield 10, 3) := by decide +kernel
theorem dX3_speed_52 : decode cX3_speed 52 = .ok (.invokevirtual 151, 3) := by decide +kernel
theorem dX3_speed_55 : decode cX3_speed 55 = .ok (.aload_n 0, 1) := by decide +kernel
theorem dX3_speed_56 : decode cX3_speed 56 = .ok (.getfield 16, 3) := by decide +kernel
theorem dX3_speed_59 : decode cX3_speed 59 = .ok (.iload 5, 2) := by decide +kernel
theorem dX3_speed_61 : decode cX3_speed 61 = .ok (.putfield 52, 3) := by decide +kernel
theorem dX3_speed_64 : decode cX3_speed 64 = .ok (.aload_n 0, 1) := by decide +kernel
theorem dX3_speed_65 : decode cX3_speed 65 = .ok (.getfield 16, 3) := by decide +kernel
theorem dX3_speed_68 : decode cX3_speed 68 = .ok (.iload_n 2, 1) := by decide +kernel
theorem dX3_speed_69 : decode cX3_speed 69 = .ok (.invokevirtual 148, 3) := by decide +kernel
theorem dX3_speed_72 : decode cX3_speed 72 = .ok (.aload_n 0, 1) := by decide +kernel
theorem dX3_speed_73 : decode cX3_speed 73 = .ok (.getfield 16, 3) := by decide +kernel
theorem dX3_speed_76 : decode cX3_speed 76 = .ok (.getfield 106, 3) := by decide +kernel
theorem dX3_speed_79 : decode cX3_speed 79 = .ok (.iload_n 1, 1) := by decide +kernel
theorem dX3_speed_80 : decode cX3_speed 80 = .ok (.iaload, 1) := by decide +kernel
theorem dX3_speed_81 : decode cX3_speed 81 = .ok (.iload 4, 2) := by decide +kernel
theorem dX3_speed_83 : decode cX3_speed 83 = .ok (.if_icmp .ge 17, 3) := by decide +kernel
theorem dX3_speed_86 : decode cX3_speed 86 = .ok (.aload_n 0, 1) := by decide +kernel
theorem dX3_speed_87 : decode cX3_speed 87 = .ok (.getfield 16, 3) := by decide +kernel
theorem dX3_speed_90 : decode cX3_speed 90 = .ok (.getfield 106, 3) := by decide +kernel
theorem dX3_speed_93 : decode cX3_speed 93 = .ok (.iload_n 1, 1) := by decide +kernel
theorem dX3_speed_94 : decode cX3_speed 94 = .ok (.iaload, 1) := by decide +kernel
theorem dX3_speed_95 : decode cX3_speed 95 = .ok (.istore 4, 2) := by decide +kernel
theorem dX3_speed_97 : decode cX3_speed 97 = .ok (.iload 5, 2) := by decide +kernel
theorem dX3_speed_99 : decode cX3_speed 99 = .ok (.istore_n 3, 1) := by decide +kernel
theorem dX3_speed_100 : decode cX3_speed 100 = .ok (.iinc 5 1, 3) := by decide +kernel
theorem dX3_speed_103 : decode cX3_speed 103 = .ok (.goto (-66), 3) := by decide +kernel
theorem dX3_speed_106 : decode cX3_speed 106 = .ok (.iload_n 3, 1) := by decide +kernel
theorem dX3_speed_107 : decode cX3_speed 107 = .ok (.ireturn, 1) := by decide +kernel
set_option maxRecDepth 20000 in
theorem ggX3_far_X0_has : GoodIn wsX3_far wsX0_has := goodIn_r _ [10, 11, 114, 115, 116, 117, 118, 119, 120, 121, 122, 123, 124, 125, 126] (by decide +kernel) (by decide +kernel)
set_option maxRecDepth 20000 in
theorem gX3_far_X0_has : GoodIn wsX3_far (wsV RX3 90 RX0 yX0_has wsX0_has) := goodIn_app (goodIn_of _ (by decide +kernel)) ggX3_far_X0_has
set_option maxRecDepth 20000 in
theorem ggX3_far_X3_within : GoodIn wsX3_far wsX3_within := goodIn_r _ [15] (by decide +kernel) (by decide +kernel)
set_option maxRecDepth 20000 in
theorem gX3_far_X3_within : GoodIn wsX3_far (va_wsS RX3 44 yX3_within wsX3_within) := goodIn_app (goodIn_of _ (by decide +kernel)) ggX3_far_X3_within
set_option maxRecDepth 20000 in
theorem ggX3_far_X3_found : GoodIn wsX3_far wsX3_found := goodIn_r _ [19, 2, 20, 12, 13, 14, 15, 107, 108, 109, 110, 111, 112, 113] (by decide +kernel) (by decide +kernel)
set_option maxRecDepth 20000 in
theorem gX3_far_X3_found : GoodIn wsX3_far (wsV RX3 59 RX3 yX3_found wsX3_found) := goodIn_app (goodIn_of _ (by decide +kernel)) ggX3_far_X3_found
set_option maxRecDepth 20000 in
theorem ggX3_far_X0_becomes : GoodIn wsX3_far wsX0_becomes := goodIn_r _ [24, 25, 26, 27, 28, 11, 29, 30, 31, 32, 33, 34, 35, 36, 114, 115, 116, 117, 118, 119, 120, 121, 122, 123, 124, 125, 126] (by decide +kernel) (by decide +kernel)
set_option maxRecDepth 20000 in
theorem gX3_far_X0_becomes : GoodIn wsX3_far (wsV RX3 151 RX0 yX0_becomes wsX0_becomes) := goodIn_app (goodIn_of _ (by decide +kernel)) ggX3_far_X0_becomes
set_option maxRecDepth 20000 in
theorem ggX3_far_X0_goSeconds : GoodIn wsX3_far wsX0_goSeconds := goodIn_r _ [40, 29, 27, 26, 25, 41, 42, 43, 9, 44, 11, 32, 30, 45, 46, 47, 48, 49, 50, 51, 52, 31, 34, 35, 53, 54, 55, 56, 57, 58, 59, 60, 61, 62, 63, 64, 65, 66, 67, 68, 69, 70, 71, 33, 72, 73, 74, 75, 76, 77, 78, 79, 80, 81, 82, 83, 84, 85, 86, 87, 28, 88, 89, 90, 91, 92, 93, 94, 95, 36, 96, 97, 98, 99, 100, 101, 102, 103, 104, 105, 106, 114, 115, 116, 117, 118, 119, 120, 121, 122, 123, 124, 125, 126] (by decide +kernel) (by decide +kernel)
set_option maxRecDepth 20000 in
theorem gX3_far_X0_goSeconds : GoodIn wsX3_far (wsV RX3 148 RX0 yX0_goSeconds wsX0_goSeconds) := goodIn_app (goodIn_of _ (by decide +kernel)) ggX3_far_X0_goSeconds
theorem dX3_far_0 : decode cX3_far 0 = .ok (.aload_n 0, 1) := by decide +kernel
theorem dX3_far_1 : decode cX3_far 1 = .ok (.getfield 10, 3) := by decide +kernel
theorem dX3_far_4 : decode cX3_far 4 = .ok (.iload_n 1, 1) := by decide +kernel
theorem dX3_far_5 : decode cX3_far 5 = .ok (.invokevirtual 90, 3) := by decide +kernel
theorem dX3_far_8 : decode cX3_far 8 = .ok (.ifCond .eq 13, 3) := by decide +kernel
theorem dX3_far_11 : decode cX3_far 11 = .ok (.iload_n 2, 1) := by decide +kernel
theorem dX3_far_12 : decode cX3_far 12 = .ok (.iconst 1, 1) := by decide +kernel
theorem dX3_far_13 : decode cX3_far 13 = .ok (.bipush 120, 2) := by decide +kernel
theorem dX3_far_15 : decode cX3_far 15 = .ok (.invokestatic 44, 3) := by decide +kernel
theorem dX3_far_18 : decode cX3_far 18 = .ok (.ifCond .ne 10, 3) := by decide +kernel
theorem dX3_far_21 : decode cX3_far 21 = .ok (.aload_n 0, 1) := by decide +kernel
theorem dX3_far_22 : decode cX3_far 22 = .ok (.ldc 58, 2) := by decide +kernel
theorem dX3_far_24 : decode cX3_far 24 = .ok (.invokevirtual 59, 3) := by decide +kernel
theorem dX3_far_27 : decode cX3_far 27 = .ok (.ireturn, 1) := by decide +kernel
theorem dX3_far_28 : decode cX3_far 28 = .ok (.iconst 0, 1) := by decide +kernel
theorem dX3_far_29 : decode cX3_far 29 = .ok (.istore_n 3, 1) := by decide +kernel
theorem dX3_far_30 : decode cX3_far 30 = .ok (.iconst (-1), 1) := by decide +kernel
theorem dX3_far_31 : decode cX3_far 31 = .ok (.istore 4, 2) := by decide +kernel
theorem dX3_far_33 : decode cX3_far 33 = .ok (.iconst 0, 1) := by decide +kernel
theorem dX3_far_34 : decode cX3_far 34 = .ok (.istore 5, 2) := by decide +kernel
theorem dX3_far_36 : decode cX3_far 36 = .ok (.iload 5, 2) := by decide +kernel
theorem dX3_far_38 : decode cX3_far 38 = .ok (.bipush 9, 2) := by decide +kernel
theorem dX3_far_40 : decode cX3_far 40 = .ok (.if_icmp .gt 67, 3) := by decide +kernel
theorem dX3_far_43 : decode cX3_far 43 = .ok (.aload_n 0, 1) := by decide +kernel
theorem dX3_far_44 : decode cX3_far 44 = .ok (.getfield 16, 3) := by decide +kernel
theorem dX3_far_47 : decode cX3_far 47 = .ok (.aload_n 0, 1) := by decide +kernel
theorem dX3_far_48 : decode cX3_far 48 = .ok (.getfield 10, 3) := by decide +kernel
theorem dX3_far_51 : decode cX3_far 51 = .ok (.invokevirtual 151, 3) := by decide +kernel
theorem dX3_far_54 : decode cX3_far 54 = .ok (.aload_n 0, 1) := by decide +kernel
theorem dX3_far_55 : decode cX3_far 55 = .ok (.getfield 16, 3) := by decide +kernel
theorem dX3_far_58 : decode cX3_far 58 = .ok (.getfield 100, 3) := by decide +kernel
theorem dX3_far_61 : decode cX3_far 61 = .ok (.iload_n 1, 1) := by decide +kernel
theorem dX3_far_62 : decode cX3_far 62 = .ok (.iload 5, 2) := by decide +kernel
theorem dX3_far_64 : decode cX3_far 64 = .ok (.iastore, 1) := by decide +kernel
theorem dX3_far_65 : decode cX3_far 65 = .ok (.aload_n 0, 1) := by decide +kernel
theorem dX3_far_66 : decode cX3_far 66 = .ok (.getfield 16, 3) := by decide +kernel
theorem dX3_far_69 : decode cX3_far 69 = .ok (.iload_n 2, 1) := by decide +kernel
theorem dX3_far_70 : decode cX3_far 70 = .ok (.invokevirtual 148, 3) := by decide +kernel
theorem dX3_far_73 : decode cX3_far 73 = .ok (.aload_n 0, 1) := by decide +kernel
theorem dX3_far_74 : decode cX3_far 74 = .ok (.getfield 16, 3) := by decide +kernel
theorem dX3_far_77 : decode cX3_far 77 = .ok (.getfield 115, 3) := by decide +kernel
theorem dX3_far_80 : decode cX3_far 80 = .ok (.iload_n 1, 1) := by decide +kernel
theorem dX3_far_81 : decode cX3_far 81 = .ok (.iaload, 1) := by decide +kernel
theorem dX3_far_82 : decode cX3_far 82 = .ok (.iload 4, 2) := by decide +kernel
theorem dX3_far_84 : decode cX3_far 84 = .ok (.if_icmp .le 17, 3) := by decide +kernel
theorem dX3_far_87 : decode cX3_far 87 = .ok (.aload_n 0, 1) := by decide +kernel
theorem dX3_far_88 : decode cX3_far 88 = .ok (.getfield 16, 3) := by decide +kernel
theorem dX3_far_91 : decode cX3_far 91 = .ok (.getfield 115, 3) := by decide +kernel
theorem dX3_far_94 : decode cX3_far 94 = .ok (.iload_n 1, 1) := by decide +kernel
theorem dX3_far_95 : decode cX3_far 95 = .ok (.iaload, 1) := by decide +kernel
theorem dX3_far_96 : decode cX3_far 96 = .ok (.istore 4, 2) := by decide +kernel
theorem dX3_far_98 : decode cX3_far 98 = .ok (.iload 5, 2) := by decide +kernel
theorem dX3_far_100 : decode cX3_far 100 = .ok (.istore_n 3, 1) := by decide +kernel
theorem dX3_far_101 : decode cX3_far 101 = .ok (.iinc 5 1, 3) := by decide +kernel
theorem dX3_far_104 : decode cX3_far 104 = .ok (.goto (-68), 3) := by decide +kernel
theorem dX3_far_107 : decode cX3_far 107 = .ok (.iload_n 3, 1) := by decide +kernel
theorem dX3_far_108 : decode cX3_far 108 = .ok (.ireturn, 1) := by decide +kernel
set_option maxRecDepth 20000 in
theorem ggX3_kind_X0_has : GoodIn wsX3_kind wsX0_has := goodIn_r _ [10, 11, 114, 115, 116, 117, 118, 119, 120, 121, 122, 123, 124, 125, 126] (by decide +kernel) (by decide +kernel)
set_option maxRecDepth 20000 in
theorem gX3_kind_X0_has : GoodIn wsX3_kind (wsV RX3 90 RX0 yX0_has wsX0_has) := goodIn_app (goodIn_of _ (by decide +kernel)) ggX3_kind_X0_has
set_option maxRecDepth 20000 in
theorem ggX3_kind_X3_within : GoodIn wsX3_kind wsX3_within := goodIn_r _ [15] (by decide +kernel) (by decide +kernel)
set_option maxRecDepth 20000 in
theorem gX3_kind_X3_within : GoodIn wsX3_kind (va_wsS RX3 44 yX3_within wsX3_within) := goodIn_app (goodIn_of _ (by decide +kernel)) ggX3_kind_X3_within
set_option maxRecDepth 20000 in
theorem ggX3_kind_X3_found : GoodIn wsX3_kind wsX3_found := goodIn_r _ [19, 2, 20, 12, 13, 14, 15, 107, 108, 109, 110, 111, 112, 113] (by decide +kernel) (by decide +kernel)
set_option maxRecDepth 20000 in
theorem gX3_kind_X3_found : GoodIn wsX3_kind (wsV RX3 59 RX3 yX3_found wsX3_found) := goodIn_app (goodIn_of _ (by decide +kernel)) ggX3_kind_X3_found
set_option maxRecDepth 20000 in
theorem ggX3_kind_X0_becomes : GoodIn wsX3_kind wsX0_becomes := goodIn_r _ [24, 25, 26, 27, 28, 11, 29, 30, 31, 32, 33, 34, 35, 36, 114, 115, 116, 117, 118, 119, 120, 121, 122, 123, 124, 125, 126] (by decide +kernel) (by decide +kernel)
set_option maxRecDepth 20000 in
theorem gX3_kind_X0_becomes : GoodIn wsX3_kind (wsV RX3 151 RX0 yX0_becomes wsX0_becomes) := goodIn_app (goodIn_of _ (by decide +kernel)) ggX3_kind_X0_becomes
set_option maxRecDepth 20000 in
theorem ggX3_kind_X0_goSeconds : GoodIn wsX3_kind wsX0_goSeconds := goodIn_r _ [40, 29, 27, 26, 25, 41, 42, 43, 9, 44, 11, 32, 30, 45, 46, 47, 48, 49, 50, 51, 52, 31, 34, 35, 53, 54, 55, 56, 57, 58, 59, 60, 61, 62, 63, 64, 65, 66, 67, 68, 69, 70, 71, 33, 72, 73, 74, 75, 76, 77, 78, 79, 80, 81, 82, 83, 84, 85, 86, 87, 28, 88, 89, 90, 91, 92, 93, 94, 95, 36, 96, 97, 98, 99, 100, 101, 102, 103, 104, 105, 106, 114, 115, 116, 117, 118, 119, 120, 121, 122, 123, 124, 125, 126] (by decide +kernel) (by decide +kernel)
set_option maxRecDepth 20000 in
theorem gX3_kind_X0_goSeconds : GoodIn wsX3_kind (wsV RX3 148 RX0 yX0_goSeconds wsX0_goSeconds) := goodIn_app (goodIn_of _ (by decide +kernel)) ggX3_kind_X0_goSeconds
theorem dX3_kind_0 : decode cX3_kind 0 = .ok (.aload_n 0, 1) := by decide +kernel
theorem dX3_kind_1 : decode cX3_kind 1 = .ok (.getfield 10, 3) := by decide +kernel
theorem dX3_kind_4 : decode cX3_kind 4 = .ok (.iload_n 1, 1) := by decide +kernel
theorem dX3_kind_5 : decode cX3_kind 5 = .ok (.invokevirtual 90, 3) := by decide +kernel
theorem dX3_kind_8 : decode cX3_kind 8 = .ok (.ifCond .eq 13, 3) := by decide +kernel
theorem dX3_kind_11 : decode cX3_kind 11 = .ok (.iload_n 2, 1) := by decide +kernel
theorem dX3_kind_12 : decode cX3_kind 12 = .ok (.iconst 1, 1) := by decide +kernel
theorem dX3_kind_13 : decode cX3_kind 13 = .ok (.bipush 120, 2) := by decide +kernel
theorem dX3_kind_15 : decode cX3_kind 15 = .ok (.invokestatic 44, 3) := by decide +kernel
theorem dX3_kind_18 : decode cX3_kind 18 = .ok (.ifCond .ne 10, 3) := by decide +kernel
theorem dX3_kind_21 : decode cX3_kind 21 = .ok (.aload_n 0, 1) := by decide +kernel
theorem dX3_kind_22 : decode cX3_kind 22 = .ok (.ldc 58, 2) := by decide +kernel
theorem dX3_kind_24 : decode cX3_kind 24 = .ok (.invokevirtual 59, 3) := by decide +kernel
theorem dX3_kind_27 : decode cX3_kind 27 = .ok (.ireturn, 1) := by decide +kernel
theorem dX3_kind_28 : decode cX3_kind 28 = .ok (.iconst 0, 1) := by decide +kernel
theorem dX3_kind_29 : decode cX3_kind 29 = .ok (.istore_n 3, 1) := by decide +kernel
theorem dX3_kind_30 : decode cX3_kind 30 = .ok (.bipush 100, 2) := by decide +kernel
theorem dX3_kind_32 : decode cX3_kind 32 = .ok (.istore 4, 2) := by decide +kernel
theorem dX3_kind_34 : decode cX3_kind 34 = .ok (.iconst 0, 1) := by decide +kernel
theorem dX3_kind_35 : decode cX3_kind 35 = .ok (.istore 5, 2) := by decide +kernel
theorem dX3_kind_37 : decode cX3_kind 37 = .ok (.iload 5, 2) := by decide +kernel
theorem dX3_kind_39 : decode cX3_kind 39 = .ok (.iconst 5, 1) := by decide +kernel
theorem dX3_kind_40 : decode cX3_kind 40 = .ok (.if_icmp .gt 67, 3) := by decide +kernel
theorem dX3_kind_43 : decode cX3_kind 43 = .ok (.aload_n 0, 1) := by decide +kernel
theorem dX3_kind_44 : decode cX3_kind 44 = .ok (.getfield 16, 3) := by decide +kernel
theorem dX3_kind_47 : decode cX3_kind 47 = .ok (.aload_n 0, 1) := by decide +kernel
theorem dX3_kind_48 : decode cX3_kind 48 = .ok (.getfield 10, 3) := by decide +kernel
theorem dX3_kind_51 : decode cX3_kind 51 = .ok (.invokevirtual 151, 3) := by decide +kernel
theorem dX3_kind_54 : decode cX3_kind 54 = .ok (.aload_n 0, 1) := by decide +kernel
theorem dX3_kind_55 : decode cX3_kind 55 = .ok (.getfield 16, 3) := by decide +kernel
theorem dX3_kind_58 : decode cX3_kind 58 = .ok (.getfield 94, 3) := by decide +kernel
theorem dX3_kind_61 : decode cX3_kind 61 = .ok (.iload_n 1, 1) := by decide +kernel
theorem dX3_kind_62 : decode cX3_kind 62 = .ok (.iload 5, 2) := by decide +kernel
theorem dX3_kind_64 : decode cX3_kind 64 = .ok (.iastore, 1) := by decide +kernel
theorem dX3_kind_65 : decode cX3_kind 65 = .ok (.aload_n 0, 1) := by decide +kernel
theorem dX3_kind_66 : decode cX3_kind 66 = .ok (.getfield 16, 3) := by decide +kernel
theorem dX3_kind_69 : decode cX3_kind 69 = .ok (.iload_n 2, 1) := by decide +kernel
theorem dX3_kind_70 : decode cX3_kind 70 = .ok (.invokevirtual 148, 3) := by decide +kernel
theorem dX3_kind_73 : decode cX3_kind 73 = .ok (.aload_n 0, 1) := by decide +kernel
theorem dX3_kind_74 : decode cX3_kind 74 = .ok (.getfield 16, 3) := by decide +kernel
theorem dX3_kind_77 : decode cX3_kind 77 = .ok (.getfield 106, 3) := by decide +kernel
theorem dX3_kind_80 : decode cX3_kind 80 = .ok (.iload_n 1, 1) := by decide +kernel
theorem dX3_kind_81 : decode cX3_kind 81 = .ok (.iaload, 1) := by decide +kernel
theorem dX3_kind_82 : decode cX3_kind 82 = .ok (.iload 4, 2) := by decide +kernel
theorem dX3_kind_84 : decode cX3_kind 84 = .ok (.if_icmp .ge 17, 3) := by decide +kernel
theorem dX3_kind_87 : decode cX3_kind 87 = .ok (.aload_n 0, 1) := by decide +kernel
theorem dX3_kind_88 : decode cX3_kind 88 = .ok (.getfield 16, 3) := by decide +kernel
theorem dX3_kind_91 : decode cX3_kind 91 = .ok (.getfield 106, 3) := by decide +kernel
theorem dX3_kind_94 : decode cX3_kind 94 = .ok (.iload_n 1, 1) := by decide +kernel
theorem dX3_kind_95 : decode cX3_kind 95 = .ok (.iaload, 1) := by decide +kernel
theorem dX3_kind_96 : decode cX3_kind 96 = .ok (.istore 4, 2) := by decide +kernel
theorem dX3_kind_98 : decode cX3_kind 98 = .ok (.iload 5, 2) := by decide +kernel
theorem dX3_kind_100 : decode cX3_kind 100 = .ok (.istore_n 3, 1) := by decide +kernel
theorem dX3_kind_101 : decode cX3_kind 101 = .ok (.iinc 5 1, 3) := by decide +kernel
theorem dX3_kind_104 : decode cX3_kind 104 = .ok (.goto (-67), 3) := by decide +kernel
theorem dX3_kind_107 : decode cX3_kind 107 = .ok (.iload_n 3, 1) := by decide +kernel
theorem dX3_kind_108 : decode cX3_kind 108 = .ok (.ireturn, 1) := by decide +kernel
set_option maxRecDepth 20000 in
theorem ggX3_thick_X3_within : GoodIn wsX3_thick wsX3_within := goodIn_r _ [10] (by decide +kernel) (by decide +kernel)
set_option maxRecDepth 20000 in
theorem gX3_thick_X3_within : GoodIn wsX3_thick (va_wsS RX3 44 yX3_within wsX3_within) := goodIn_app (goodIn_of _ (by decide +kernel)) ggX3_thick_X3_within
set_option maxRecDepth 20000 in
theorem ggX3_thick_X3_found : GoodIn wsX3_thick wsX3_found := goodIn_r _ [14, 1, 15, 7, 8, 9, 10, 105, 106, 107, 108, 109, 110, 111] (by decide +kernel) (by decide +kernel)
set_option maxRecDepth 20000 in
theorem gX3_thick_X3_found : GoodIn wsX3_thick (wsV RX3 59 RX3 yX3_found wsX3_found) := goodIn_app (goodIn_of _ (by decide +kernel)) ggX3_thick_X3_found
set_option maxRecDepth 20000 in
theorem ggX3_thick_X0_becomes : GoodIn wsX3_thick wsX0_becomes := goodIn_r _ [20, 21, 22, 23, 24, 25, 26, 27, 28, 29, 30, 31, 32, 33, 112, 113, 114, 115, 116, 117, 118, 119, 120, 121, 122, 123, 124] (by decide +kernel) (by decide +kernel)
set_option maxRecDepth 20000 in
theorem gX3_thick_X0_becomes : GoodIn wsX3_thick (wsV RX3 151 RX0 yX0_becomes wsX0_becomes) := goodIn_app (goodIn_of _ (by decide +kernel)) ggX3_thick_X0_becomes
set_option maxRecDepth 20000 in
theorem ggX3_thick_X0_goSeconds : GoodIn wsX3_thick wsX0_goSeconds := goodIn_r _ [37, 26, 23, 22, 21, 38, 39, 40, 19, 41, 25, 29, 27, 42, 43, 44, 45, 46, 47, 48, 49, 28, 31, 32, 50, 51, 52, 53, 54, 55, 56, 57, 58, 59, 60, 61, 62, 63, 64, 65, 66, 67, 68, 30, 69, 70, 71, 72, 73, 74, 75, 76, 77, 78, 79, 80, 81, 82, 83, 84, 24, 85, 86, 87, 88, 89, 90, 91, 92, 33, 93, 94, 95, 96, 97, 98, 99, 100, 101, 102, 103, 112, 113, 114, 115, 116, 117, 118, 119, 120, 121, 122, 123, 124] (by decide +kernel) (by decide +kernel)
set_option maxRecDepth 20000 in
theorem gX3_thick_X0_goSeconds : GoodIn wsX3_thick (wsV RX3 148 RX0 yX0_goSeconds wsX0_goSeconds) := goodIn_app (goodIn_of _ (by decide +kernel)) ggX3_thick_X0_goSeconds
set_option maxRecDepth 20000 in
theorem ggX3_thick_J6_bitCount_0f7a4 : GoodIn wsX3_thick wsJ6_bitCount_0f7a4 := goodIn_r _ [61, 62, 63, 64] (by decide +kernel) (by decide +kernel)
set_option maxRecDepth 20000 in
theorem gX3_thick_J6_bitCount_0f7a4 : GoodIn wsX3_thick (va_wsS RX3 155 yJ6_bitCount_0f7a4 wsJ6_bitCount_0f7a4) := goodIn_app (goodIn_of _ (by decide +kernel)) ggX3_thick_J6_bitCount_0f7a4
theorem dX3_thick_0 : decode cX3_thick 0 = .ok (.iload_n 1, 1) := by decide +kernel
theorem dX3_thick_1 : decode cX3_thick 1 = .ok (.iconst 0, 1) := by decide +kernel
theorem dX3_thick_2 : decode cX3_thick 2 = .ok (.bipush 120, 2) := by decide +kernel
theorem dX3_thick_4 : decode cX3_thick 4 = .ok (.invokestatic 44, 3) := by decide +kernel
theorem dX3_thick_7 : decode cX3_thick 7 = .ok (.ifCond .eq 13, 3) := by decide +kernel
theorem dX3_thick_10 : decode cX3_thick 10 = .ok (.iload_n 2, 1) := by decide +kernel
theorem dX3_thick_11 : decode cX3_thick 11 = .ok (.iconst 0, 1) := by decide +kernel
theorem dX3_thick_12 : decode cX3_thick 12 = .ok (.bipush 8, 2) := by decide +kernel
theorem dX3_thick_14 : decode cX3_thick 14 = .ok (.invokestatic 44, 3) := by decide +kernel
theorem dX3_thick_17 : decode cX3_thick 17 = .ok (.ifCond .ne 10, 3) := by decide +kernel
theorem dX3_thick_20 : decode cX3_thick 20 = .ok (.aload_n 0, 1) := by decide +kernel
theorem dX3_thick_21 : decode cX3_thick 21 = .ok (.ldc 58, 2) := by decide +kernel
theorem dX3_thick_23 : decode cX3_thick 23 = .ok (.invokevirtual 59, 3) := by decide +kernel
theorem dX3_thick_26 : decode cX3_thick 26 = .ok (.ireturn, 1) := by decide +kernel
theorem dX3_thick_27 : decode cX3_thick 27 = .ok (.iconst 1, 1) := by decide +kernel
theorem dX3_thick_28 : decode cX3_thick 28 = .ok (.istore_n 3, 1) := by decide +kernel
theorem dX3_thick_29 : decode cX3_thick 29 = .ok (.iload_n 3, 1) := by decide +kernel
theorem dX3_thick_30 : decode cX3_thick 30 = .ok (.bipush 40, 2) := by decide +kernel
theorem dX3_thick_32 : decode cX3_thick 32 = .ok (.if_icmp .gt 52, 3) := by decide +kernel
theorem dX3_thick_35 : decode cX3_thick 35 = .ok (.aload_n 0, 1) := by decide +kernel
theorem dX3_thick_36 : decode cX3_thick 36 = .ok (.getfield 16, 3) := by decide +kernel
theorem dX3_thick_39 : decode cX3_thick 39 = .ok (.aload_n 0, 1) := by decide +kernel
theorem dX3_thick_40 : decode cX3_thick 40 = .ok (.getfield 10, 3) := by decide +kernel
theorem dX3_thick_43 : decode cX3_thick 43 = .ok (.invokevirtual 151, 3) := by decide +kernel
theorem dX3_thick_46 : decode cX3_thick 46 = .ok (.aload_n 0, 1) := by decide +kernel
theorem dX3_thick_47 : decode cX3_thick 47 = .ok (.getfield 16, 3) := by decide +kernel
theorem dX3_thick_50 : decode cX3_thick 50 = .ok (.iload_n 3, 1) := by decide +kernel
theorem dX3_thick_51 : decode cX3_thick 51 = .ok (.putfield 55, 3) := by decide +kernel
theorem dX3_thick_54 : decode cX3_thick 54 = .ok (.aload_n 0, 1) := by decide +kernel
theorem dX3_thick_55 : decode cX3_thick 55 = .ok (.getfield 16, 3) := by decide +kernel
theorem dX3_thick_58 : decode cX3_thick 58 = .ok (.iload_n 1, 1) := by decide +kernel
theorem dX3_thick_59 : decode cX3_thick 59 = .ok (.invokevirtual 148, 3) := by decide +kernel
theorem dX3_thick_62 : decode cX3_thick 62 = .ok (.aload_n 0, 1) := by decide +kernel
theorem dX3_thick_63 : decode cX3_thick 63 = .ok (.getfield 16, 3) := by decide +kernel
theorem dX3_thick_66 : decode cX3_thick 66 = .ok (.getfield 66, 3) := by decide +kernel
theorem dX3_thick_69 : decode cX3_thick 69 = .ok (.invokestatic 155, 3) := by decide +kernel
theorem dX3_thick_72 : decode cX3_thick 72 = .ok (.iload_n 2, 1) := by decide +kernel
theorem dX3_thick_73 : decode cX3_thick 73 = .ok (.if_icmp .lt 5, 3) := by decide +kernel
theorem dX3_thick_76 : decode cX3_thick 76 = .ok (.iload_n 3, 1) := by decide +kernel
theorem dX3_thick_77 : decode cX3_thick 77 = .ok (.ireturn, 1) := by decide +kernel
theorem dX3_thick_78 : decode cX3_thick 78 = .ok (.iinc 3 1, 3) := by decide +kernel
theorem dX3_thick_81 : decode cX3_thick 81 = .ok (.goto (-52), 3) := by decide +kernel
theorem dX3_thick_84 : decode cX3_thick 84 = .ok (.aload_n 0, 1) := by decide +kernel
theorem dX3_thick_85 : decode cX3_thick 85 = .ok (.ldc 167, 2) := by decide +kernel
theorem dX3_thick_87 : decode cX3_thick 87 = .ok (.invokevirtual 59, 3) := by decide +kernel
theorem dX3_thick_90 : decode cX3_thick 90 = .ok (.ireturn, 1) := by decide +kernel
set_option maxRecDepth 20000 in
theorem ggX3_save_X3_within : GoodIn wsX3_save wsX3_within := goodIn_r _ [8] (by decide +kernel) (by decide +kernel)
set_option maxRecDepth 20000 in
theorem gX3_save_X3_within : GoodIn wsX3_save (va_wsS RX3 44 yX3_within wsX3_within) := goodIn_app (goodIn_of _ (by decide +kernel)) ggX3_save_X3_within
set_option maxRecDepth 20000 in
theorem ggX3_save_X3_found : GoodIn wsX3_save wsX3_found := goodIn_r _ [12, 1, 13, 5, 6, 7, 8, 115, 116, 117, 118, 119, 120, 121] (by decide +kernel) (by decide +kernel)
set_option maxRecDepth 20000 in
theorem gX3_save_X3_found : GoodIn wsX3_save (wsV RX3 59 RX3 yX3_found wsX3_found) := goodIn_app (goodIn_of _ (by decide +kernel)) ggX3_save_X3_found
set_option maxRecDepth 20000 in
theorem ggX3_save_X0_isOn : GoodIn wsX3_save wsX0_isOn := goodIn_r _ [18, 19, 122, 123, 124, 125, 126, 127, 128, 129, 130, 131, 132, 133, 134] (by decide +kernel) (by decide +kernel)
set_option maxRecDepth 20000 in
theorem gX3_save_X0_isOn : GoodIn wsX3_save (wsV RX3 103 RX0 yX0_isOn wsX0_isOn) := goodIn_app (goodIn_of _ (by decide +kernel)) ggX3_save_X0_isOn
set_option maxRecDepth 20000 in
theorem ggX3_save_X3_lostWithout : GoodIn wsX3_save wsX3_lostWithout := goodIn_r _ [23, 24, 3, 25, 26, 27, 28, 17, 29, 30, 31, 32, 33, 34, 19, 35, 36, 37, 38, 39, 40, 41, 42, 43, 44, 45, 46, 47, 48, 49, 50, 51, 52, 53, 54, 55, 56, 57, 58, 59, 60, 61, 62, 63, 64, 65, 66, 67, 68, 69, 70, 71, 72, 73, 74, 75, 76, 77, 78, 79, 80, 81, 82, 15, 16, 18, 83, 84, 85, 86, 87, 88, 89, 90, 91, 92, 93, 94, 95, 96, 97, 98, 99, 100, 101, 102, 103, 104, 105, 106, 107, 108, 109, 110, 115, 116, 117, 118, 119, 120, 121, 122, 123, 124, 125, 126, 127, 128, 129, 130, 131, 132, 133, 134] (by decide +kernel) (by decide +kernel)
set_option maxRecDepth 20000 in
theorem gX3_save_X3_lostWithout : GoodIn wsX3_save (wsV RX3 168 RX3 yX3_lostWithout wsX3_lostWithout) := goodIn_app (goodIn_of _ (by decide +kernel)) ggX3_save_X3_lostWithout
set_option maxRecDepth 20000 in
theorem ggX3_save_X3_orNone : GoodIn wsX3_save wsX3_orNone := goodIn_r _ [114, 2, 9, 10, 11, 7, 12, 1, 13, 5, 6, 8, 115, 116, 117, 118, 119, 120, 121] (by decide +kernel) (by decide +kernel)
set_option maxRecDepth 20000 in
theorem gX3_save_X3_orNone : GoodIn wsX3_save (wsV RX3 164 RX3 yX3_orNone wsX3_orNone) := goodIn_app (goodIn_of _ (by decide +kernel)) ggX3_save_X3_orNone
theorem dX3_save_0 : decode cX3_save 0 = .ok (.iload_n 1, 1) := by decide +kernel
theorem dX3_save_1 : decode cX3_save 1 = .ok (.iconst 1, 1) := by decide +kernel
theorem dX3_save_2 : decode cX3_save 2 = .ok (.bipush 120, 2) := by decide +kernel
theorem dX3_save_4 : decode cX3_save 4 = .ok (.invokestatic 44, 3) := by decide +kernel
theorem dX3_save_7 : decode cX3_save 7 = .ok (.ifCond .ne 10, 3) := by decide +kernel
theorem dX3_save_10 : decode cX3_save 10 = .ok (.aload_n 0, 1) := by decide +kernel
theorem dX3_save_11 : decode cX3_save 11 = .ok (.ldc 58, 2) := by decide +kernel
theorem dX3_save_13 : decode cX3_save 13 = .ok (.invokevirtual 59, 3) := by decide +kernel
theorem dX3_save_16 : decode cX3_save 16 = .ok (.ireturn, 1) := by decide +kernel
theorem dX3_save_17 : decode cX3_save 17 = .ok (.ldc 167, 2) := by decide +kernel
theorem dX3_save_19 : decode cX3_save 19 = .ok (.istore_n 2, 1) := by decide +kernel
theorem dX3_save_20 : decode cX3_save 20 = .ok (.bipush 9, 2) := by decide +kernel
theorem dX3_save_22 : decode cX3_save 22 = .ok (.istore_n 3, 1) := by decide +kernel
theorem dX3_save_23 : decode cX3_save 23 = .ok (.iconst 0, 1) := by decide +kernel
theorem dX3_save_24 : decode cX3_save 24 = .ok (.istore 4, 2) := by decide +kernel
theorem dX3_save_26 : decode cX3_save 26 = .ok (.iload 4, 2) := by decide +kernel
theorem dX3_save_28 : decode cX3_save 28 = .ok (.aload_n 0, 1) := by decide +kernel
theorem dX3_save_29 : decode cX3_save 29 = .ok (.getfield 10, 3) := by decide +kernel
theorem dX3_save_32 : decode cX3_save 32 = .ok (.getfield 82, 3) := by decide +kernel
theorem dX3_save_35 : decode cX3_save 35 = .ok (.if_icmp .ge 47, 3) := by decide +kernel
theorem dX3_save_38 : decode cX3_save 38 = .ok (.aload_n 0, 1) := by decide +kernel
theorem dX3_save_39 : decode cX3_save 39 = .ok (.getfield 10, 3) := by decide +kernel
theorem dX3_save_42 : decode cX3_save 42 = .ok (.iload 4, 2) := by decide +kernel
theorem dX3_save_44 : decode cX3_save 44 = .ok (.invokevirtual 103, 3) := by decide +kernel
theorem dX3_save_47 : decode cX3_save 47 = .ok (.ifCond .eq 13, 3) := by decide +kernel
theorem dX3_save_50 : decode cX3_save 50 = .ok (.aload_n 0, 1) := by decide +kernel
theorem dX3_save_51 : decode cX3_save 51 = .ok (.iload 4, 2) := by decide +kernel
theorem dX3_save_53 : decode cX3_save 53 = .ok (.iload_n 1, 1) := by decide +kernel
theorem dX3_save_54 : decode cX3_save 54 = .ok (.invokevirtual 168, 3) := by decide +kernel
theorem dX3_save_57 : decode cX3_save 57 = .ok (.goto 5, 3) := by decide +kernel
theorem dX3_save_60 : decode cX3_save 60 = .ok (.bipush 9, 2) := by decide +kernel
theorem dX3_save_62 : decode cX3_save 62 = .ok (.istore 5, 2) := by decide +kernel
theorem dX3_save_64 : decode cX3_save 64 = .ok (.iload 5, 2) := by decide +kernel
theorem dX3_save_66 : decode cX3_save 66 = .ok (.iload_n 3, 1) := by decide +kernel
theorem dX3_save_67 : decode cX3_save 67 = .ok (.if_icmp .ge 9, 3) := by decide +kernel
theorem dX3_save_70 : decode cX3_save 70 = .ok (.iload 5, 2) := by decide +kernel
theorem dX3_save_72 : decode cX3_save 72 = .ok (.istore_n 3, 1) := by decide +kernel
theorem dX3_save_73 : decode cX3_save 73 = .ok (.iload 4, 2) := by decide +kernel
theorem dX3_save_75 : decode cX3_save 75 = .ok (.istore_n 2, 1) := by decide +kernel
theorem dX3_save_76 : decode cX3_save 76 = .ok (.iinc 4 1, 3) := by decide +kernel
theorem dX3_save_79 : decode cX3_save 79 = .ok (.goto (-53), 3) := by decide +kernel
theorem dX3_save_82 : decode cX3_save 82 = .ok (.aload_n 0, 1) := by decide +kernel
theorem dX3_save_83 : decode cX3_save 83 = .ok (.iload_n 2, 1) := by decide +kernel
theorem dX3_save_84 : decode cX3_save 84 = .ok (.invokevirtual 164, 3) := by decide +kernel
theorem dX3_save_87 : decode cX3_save 87 = .ok (.ireturn, 1) := by decide +kernel
set_option maxRecDepth 20000 in
theorem ggX3_goal_X0_has : GoodIn wsX3_goal wsX0_has := goodIn_r _ [10, 11, 130, 131, 132, 133, 134, 135, 136, 137, 138, 139, 140, 141, 142] (by decide +kernel) (by decide +kernel)
set_option maxRecDepth 20000 in
theorem gX3_goal_X0_has : GoodIn wsX3_goal (wsV RX3 90 RX0 yX0_has wsX0_has) := goodIn_app (goodIn_of _ (by decide +kernel)) ggX3_goal_X0_has
set_option maxRecDepth 20000 in
theorem ggX3_goal_X3_found : GoodIn wsX3_goal wsX3_found := goodIn_r _ [16, 2, 17, 18, 19, 15, 20, 123, 124, 125, 126, 127, 128, 129] (by decide +kernel) (by decide +kernel)
set_option maxRecDepth 20000 in
theorem gX3_goal_X3_found : GoodIn wsX3_goal (wsV RX3 59 RX3 yX3_found wsX3_found) := goodIn_app (goodIn_of _ (by decide +kernel)) ggX3_goal_X3_found
set_option maxRecDepth 20000 in
theorem ggX3_goal_X0_becomes : GoodIn wsX3_goal wsX0_becomes := goodIn_r _ [24, 25, 26, 27, 28, 11, 29, 30, 31, 32, 33, 34, 35, 36, 130, 131, 132, 133, 134, 135, 136, 137, 138, 139, 140, 141, 142] (by decide +kernel) (by decide +kernel)
set_option maxRecDepth 20000 in
theorem gX3_goal_X0_becomes : GoodIn wsX3_goal (wsV RX3 151 RX0 yX0_becomes wsX0_becomes) := goodIn_app (goodIn_of _ (by decide +kernel)) ggX3_goal_X0_becomes
set_option maxRecDepth 20000 in
theorem ggX3_goal_X3_secondsUntil : GoodIn wsX3_goal wsX3_secondsUntil := goodIn_r _ [40, 4, 3, 41, 42, 43, 9, 44, 34, 32, 35, 45, 46, 47, 48, 29, 49, 50, 51, 52, 30, 53, 54, 55, 56, 27, 26, 25, 57, 58, 59, 60, 11, 61, 62, 63, 64, 65, 66, 67, 68, 31, 69, 70, 71, 72, 73, 74, 75, 76, 77, 78, 79, 80, 81, 82, 83, 84, 85, 86, 87, 33, 88, 89, 90, 91, 92, 93, 94, 95, 96, 97, 98, 99, 28, 100, 101, 102, 103, 104, 105, 106, 107, 36, 108, 109, 110, 111, 112, 113, 114, 115, 116, 117, 118, 123, 124, 125, 126, 127, 128, 129, 130, 131, 132, 133, 134, 135, 136, 137, 138, 139, 140, 141, 142] (by decide +kernel) (by decide +kernel)
set_option maxRecDepth 20000 in
theorem gX3_goal_X3_secondsUntil : GoodIn wsX3_goal (wsV RX3 160 RX3 yX3_secondsUntil wsX3_secondsUntil) := goodIn_app (goodIn_of _ (by decide +kernel)) ggX3_goal_X3_secondsUntil
set_option maxRecDepth 20000 in
theorem ggX3_goal_X3_orNone : GoodIn wsX3_goal wsX3_orNone := goodIn_r _ [122, 3, 12, 13, 14, 15, 16, 2, 17, 18, 19, 20, 123, 124, 125, 126, 127, 128, 129] (by decide +kernel) (by decide +kernel)
set_option maxRecDepth 20000 in
theorem gX3_goal_X3_orNone : GoodIn wsX3_goal (wsV RX3 164 RX3 yX3_orNone wsX3_orNone) := goodIn_app (goodIn_of _ (by decide +kernel)) ggX3_goal_X3_orNone
theorem dX3_goal_0 : decode cX3_goal 0 = .ok (.aload_n 0, 1) := by decide +kernel
theorem dX3_goal_1 : decode cX3_goal 1 = .ok (.getfield 10, 3) := by decide +kernel
theorem dX3_goal_4 : decode cX3_goal 4 = .ok (.iload_n 1, 1) := by decide +kernel
theorem dX3_goal_5 : decode cX3_goal 5 = .ok (.invokevirtual 90, 3) := by decide +kernel
theorem dX3_goal_8 : decode cX3_goal 8 = .ok (.ifCond .ne 10, 3) := by decide +kernel
theorem dX3_goal_11 : decode cX3_goal 11 = .ok (.aload_n 0, 1) := by decide +kernel
theorem dX3_goal_12 : decode cX3_goal 12 = .ok (.ldc 58, 2) := by decide +kernel
theorem dX3_goal_14 : decode cX3_goal 14 = .ok (.invokevirtual 59, 3) := by decide +kernel
theorem dX3_goal_17 : decode cX3_goal 17 = .ok (.ireturn, 1) := by decide +kernel
theorem dX3_goal_18 : decode cX3_goal 18 = .ok (.ldc 167, 2) := by decide +kernel
theorem dX3_goal_20 : decode cX3_goal 20 = .ok (.istore_n 2, 1) := by decide +kernel
theorem dX3_goal_21 : decode cX3_goal 21 = .ok (.bipush 120, 2) := by decide +kernel
theorem dX3_goal_23 : decode cX3_goal 23 = .ok (.istore_n 3, 1) := by decide +kernel
theorem dX3_goal_24 : decode cX3_goal 24 = .ok (.iconst 0, 1) := by decide +kernel
theorem dX3_goal_25 : decode cX3_goal 25 = .ok (.istore 4, 2) := by decide +kernel
theorem dX3_goal_27 : decode cX3_goal 27 = .ok (.iload 4, 2) := by decide +kernel
theorem dX3_goal_29 : decode cX3_goal 29 = .ok (.bipush 59, 2) := by decide +kernel
theorem dX3_goal_31 : decode cX3_goal 31 = .ok (.if_icmp .gt 53, 3) := by decide +kernel
theorem dX3_goal_34 : decode cX3_goal 34 = .ok (.aload_n 0, 1) := by decide +kernel
theorem dX3_goal_35 : decode cX3_goal 35 = .ok (.getfield 16, 3) := by decide +kernel
theorem dX3_goal_38 : decode cX3_goal 38 = .ok (.aload_n 0, 1) := by decide +kernel
theorem dX3_goal_39 : decode cX3_goal 39 = .ok (.getfield 10, 3) := by decide +kernel
theorem dX3_goal_42 : decode cX3_goal 42 = .ok (.invokevirtual 151, 3) := by decide +kernel
theorem dX3_goal_45 : decode cX3_goal 45 = .ok (.aload_n 0, 1) := by decide +kernel
theorem dX3_goal_46 : decode cX3_goal 46 = .ok (.getfield 16, 3) := by decide +kernel
theorem dX3_goal_49 : decode cX3_goal 49 = .ok (.getfield 109, 3) := by decide +kernel
theorem dX3_goal_52 : decode cX3_goal 52 = .ok (.iload_n 1, 1) := by decide +kernel
theorem dX3_goal_53 : decode cX3_goal 53 = .ok (.iload 4, 2) := by decide +kernel
theorem dX3_goal_55 : decode cX3_goal 55 = .ok (.iastore, 1) := by decide +kernel
theorem dX3_goal_56 : decode cX3_goal 56 = .ok (.aload_n 0, 1) := by decide +kernel
theorem dX3_goal_57 : decode cX3_goal 57 = .ok (.iload_n 1, 1) := by decide +kernel
theorem dX3_goal_58 : decode cX3_goal 58 = .ok (.iconst 3, 1) := by decide +kernel
theorem dX3_goal_59 : decode cX3_goal 59 = .ok (.iload_n 3, 1) := by decide +kernel
theorem dX3_goal_60 : decode cX3_goal 60 = .ok (.invokevirtual 160, 3) := by decide +kernel
theorem dX3_goal_63 : decode cX3_goal 63 = .ok (.istore 5, 2) := by decide +kernel
theorem dX3_goal_65 : decode cX3_goal 65 = .ok (.iload 5, 2) := by decide +kernel
theorem dX3_goal_67 : decode cX3_goal 67 = .ok (.ifCond .le 11, 3) := by decide +kernel
theorem dX3_goal_70 : decode cX3_goal 70 = .ok (.iload 4, 2) := by decide +kernel
theorem dX3_goal_72 : decode cX3_goal 72 = .ok (.istore_n 2, 1) := by decide +kernel
theorem dX3_goal_73 : decode cX3_goal 73 = .ok (.iload 5, 2) := by decide +kernel
theorem dX3_goal_75 : decode cX3_goal 75 = .ok (.iconst 1, 1) := by decide +kernel
theorem dX3_goal_76 : decode cX3_goal 76 = .ok (.isub, 1) := by decide +kernel
theorem dX3_goal_77 : decode cX3_goal 77 = .ok (.istore_n 3, 1) := by decide +kernel
theorem dX3_goal_78 : decode cX3_goal 78 = .ok (.iinc 4 1, 3) := by decide +kernel
theorem dX3_goal_81 : decode cX3_goal 81 = .ok (.goto (-54), 3) := by decide +kernel
theorem dX3_goal_84 : decode cX3_goal 84 = .ok (.aload_n 0, 1) := by decide +kernel
theorem dX3_goal_85 : decode cX3_goal 85 = .ok (.iload_n 2, 1) := by decide +kernel
theorem dX3_goal_86 : decode cX3_goal 86 = .ok (.invokevirtual 164, 3) := by decide +kernel
theorem dX3_goal_89 : decode cX3_goal 89 = .ok (.ireturn, 1) := by decide +kernel
set_option maxRecDepth 20000 in
theorem ggX3_feed_X3_within : GoodIn wsX3_feed wsX3_within := goodIn_r _ [8] (by decide +kernel) (by decide +kernel)
set_option maxRecDepth 20000 in
theorem gX3_feed_X3_within : GoodIn wsX3_feed (va_wsS RX3 44 yX3_within wsX3_within) := goodIn_app (goodIn_of _ (by decide +kernel)) ggX3_feed_X3_within
set_option maxRecDepth 20000 in
theorem ggX3_feed_X3_found : GoodIn wsX3_feed wsX3_found := goodIn_r _ [12, 1, 13, 5, 6, 7, 8, 21, 22, 23, 24, 25, 26, 27] (by decide +kernel) (by decide +kernel)
set_option maxRecDepth 20000 in
theorem gX3_feed_X3_found : GoodIn wsX3_feed (wsV RX3 59 RX3 yX3_found wsX3_found) := goodIn_app (goodIn_of _ (by decide +kernel)) ggX3_feed_X3_found
set_option maxRecDepth 20000 in
theorem ggX3_feed_X2_append : GoodIn wsX3_feed wsX2_append := goodIn_r _ [18, 19, 20, 28, 29, 30, 31, 32, 33, 34] (by decide +kernel) (by decide +kernel)
set_option maxRecDepth 20000 in
theorem gX3_feed_X2_append : GoodIn wsX3_feed (wsV RX3 172 RX2 yX2_append wsX2_append) := goodIn_app (goodIn_of _ (by decide +kernel)) ggX3_feed_X2_append
theorem dX3_feed_0 : decode cX3_feed 0 = .ok (.iload_n 2, 1) := by decide +kernel
theorem dX3_feed_1 : decode cX3_feed 1 = .ok (.iconst 1, 1) := by decide +kernel
theorem dX3_feed_2 : decode cX3_feed 2 = .ok (.iconst 4, 1) := by decide +kernel
theorem dX3_feed_3 : decode cX3_feed 3 = .ok (.invokestatic 44, 3) := by decide +kernel
theorem dX3_feed_6 : decode cX3_feed 6 = .ok (.ifCond .ne 10, 3) := by decide +kernel
theorem dX3_feed_9 : decode cX3_feed 9 = .ok (.aload_n 0, 1) := by decide +kernel
theorem dX3_feed_10 : decode cX3_feed 10 = .ok (.ldc 58, 2) := by decide +kernel
theorem dX3_feed_12 : decode cX3_feed 12 = .ok (.invokevirtual 59, 3) := by decide +kernel
theorem dX3_feed_15 : decode cX3_feed 15 = .ok (.ireturn, 1) := by decide +kernel
theorem dX3_feed_16 : decode cX3_feed 16 = .ok (.aload_n 0, 1) := by decide +kernel
theorem dX3_feed_17 : decode cX3_feed 17 = .ok (.getfield 29, 3) := by decide +kernel
theorem dX3_feed_20 : decode cX3_feed 20 = .ok (.getfield 171, 3) := by decide +kernel
theorem dX3_feed_23 : decode cX3_feed 23 = .ok (.iload_n 2, 1) := by decide +kernel
theorem dX3_feed_24 : decode cX3_feed 24 = .ok (.iadd, 1) := by decide +kernel
theorem dX3_feed_25 : decode cX3_feed 25 = .ok (.bipush 120, 2) := by decide +kernel
theorem dX3_feed_27 : decode cX3_feed 27 = .ok (.if_icmp .le 10, 3) := by decide +kernel
theorem dX3_feed_30 : decode cX3_feed 30 = .ok (.aload_n 0, 1) := by decide +kernel
theorem dX3_feed_31 : decode cX3_feed 31 = .ok (.ldc 85, 2) := by decide +kernel
theorem dX3_feed_33 : decode cX3_feed 33 = .ok (.invokevirtual 59, 3) := by decide +kernel
theorem dX3_feed_36 : decode cX3_feed 36 = .ok (.ireturn, 1) := by decide +kernel
theorem dX3_feed_37 : decode cX3_feed 37 = .ok (.iload_n 2, 1) := by decide +kernel
theorem dX3_feed_38 : decode cX3_feed 38 = .ok (.iconst 1, 1) := by decide +kernel
theorem dX3_feed_39 : decode cX3_feed 39 = .ok (.isub, 1) := by decide +kernel
theorem dX3_feed_40 : decode cX3_feed 40 = .ok (.istore_n 3, 1) := by decide +kernel
theorem dX3_feed_41 : decode cX3_feed 41 = .ok (.iload_n 3, 1) := by decide +kernel
theorem dX3_feed_42 : decode cX3_feed 42 = .ok (.ifCond .lt 23, 3) := by decide +kernel
theorem dX3_feed_45 : decode cX3_feed 45 = .ok (.aload_n 0, 1) := by decide +kernel
theorem dX3_feed_46 : decode cX3_feed 46 = .ok (.getfield 29, 3) := by decide +kernel
theorem dX3_feed_49 : decode cX3_feed 49 = .ok (.iload_n 1, 1) := by decide +kernel
theorem dX3_feed_50 : decode cX3_feed 50 = .ok (.bipush 8, 2) := by decide +kernel
theorem dX3_feed_52 : decode cX3_feed 52 = .ok (.iload_n 3, 1) := by decide +kernel
theorem dX3_feed_53 : decode cX3_feed 53 = .ok (.imul, 1) := by decide +kernel
theorem dX3_feed_54 : decode cX3_feed 54 = .ok (.iushr, 1) := by decide +kernel
theorem dX3_feed_55 : decode cX3_feed 55 = .ok (.i2b, 1) := by decide +kernel
theorem dX3_feed_56 : decode cX3_feed 56 = .ok (.invokevirtual 172, 3) := by decide +kernel
theorem dX3_feed_59 : decode cX3_feed 59 = .ok (.iinc 3 (-1), 3) := by decide +kernel
theorem dX3_feed_62 : decode cX3_feed 62 = .ok (.goto (-21), 3) := by decide +kernel
theorem dX3_feed_65 : decode cX3_feed 65 = .ok (.aload_n 0, 1) := by decide +kernel
theorem dX3_feed_66 : decode cX3_feed 66 = .ok (.getfield 29, 3) := by decide +kernel
theorem dX3_feed_69 : decode cX3_feed 69 = .ok (.getfield 171, 3) := by decide +kernel
theorem dX3_feed_72 : decode cX3_feed 72 = .ok (.ireturn, 1) := by decide +kernel
theorem dX3_wipe_0 : decode cX3_wipe 0 = .ok (.aload_n 0, 1) := by decide +kernel
theorem dX3_wipe_1 : decode cX3_wipe 1 = .ok (.getfield 29, 3) := by decide +kernel
theorem dX3_wipe_4 : decode cX3_wipe 4 = .ok (.getfield 171, 3) := by decide +kernel
theorem dX3_wipe_7 : decode cX3_wipe 7 = .ok (.istore_n 1, 1) := by decide +kernel
theorem dX3_wipe_8 : decode cX3_wipe 8 = .ok (.aload_n 0, 1) := by decide +kernel
theorem dX3_wipe_9 : decode cX3_wipe 9 = .ok (.getfield 29, 3) := by decide +kernel
theorem dX3_wipe_12 : decode cX3_wipe 12 = .ok (.iconst 0, 1) := by decide +kernel
theorem dX3_wipe_13 : decode cX3_wipe 13 = .ok (.putfield 171, 3) := by decide +kernel
theorem dX3_wipe_16 : decode cX3_wipe 16 = .ok (.iload_n 1, 1) := by decide +kernel
theorem dX3_wipe_17 : decode cX3_wipe 17 = .ok (.ireturn, 1) := by decide +kernel
set_option maxRecDepth 20000 in
theorem ggX3_island_X0_becomes : GoodIn wsX3_island wsX0_becomes := goodIn_r _ [9, 10, 11, 12, 13, 14, 15, 16, 17, 18, 19, 20, 21, 22, 161, 162, 163, 164, 165, 166, 167, 168, 169, 170, 171, 172, 173] (by decide +kernel) (by decide +kernel)
set_option maxRecDepth 20000 in
theorem gX3_island_X0_becomes : GoodIn wsX3_island (wsV RX3 151 RX0 yX0_becomes wsX0_becomes) := goodIn_app (goodIn_of _ (by decide +kernel)) ggX3_island_X0_becomes
set_option maxRecDepth 20000 in
theorem ggX3_island_X2_tell : GoodIn wsX3_island wsX2_tell := goodIn_r _ [27, 28, 29, 30, 31, 32, 33, 26, 34, 35, 36, 37, 38, 39, 40, 41, 42, 43, 44, 45, 46, 47, 48, 49, 50, 51, 52, 53, 54, 55, 56, 57, 58, 59, 60, 61, 62, 63, 64, 65, 66, 67, 68, 69, 70, 71, 72, 73, 74, 75, 76, 77, 78, 79, 80, 81, 82, 83, 84, 85, 86, 87, 88, 89, 90, 91, 92, 93, 94, 95, 96, 97, 98, 99, 100, 101, 102, 103, 104, 105, 106, 107, 108, 109, 110, 111, 112, 113, 114, 115, 116, 117, 118, 119, 120, 121, 122, 123, 124, 125, 126, 127, 128, 129, 130, 131, 132, 133, 134, 135, 136, 137, 138, 139, 140, 141, 8, 142, 14, 17, 18, 19, 20, 21, 22, 143, 144, 145, 146, 154, 155, 156, 157, 158, 159, 160, 161, 162, 163, 164, 165, 166, 167, 168, 169, 170, 171, 172, 173] (by decide +kernel) (by decide +kernel)
set_option maxRecDepth 20000 in
theorem gX3_island_X2_tell : GoodIn wsX3_island (wsV RX3 176 RX2 yX2_tell wsX2_tell) := goodIn_app (goodIn_of _ (by decide +kernel)) ggX3_island_X2_tell
theorem dX3_island_0 : decode cX3_island 0 = .ok (.aload_n 0, 1) := by decide +kernel
theorem dX3_island_1 : decode cX3_island 1 = .ok (.getfield 16, 3) := by decide +kernel
theorem dX3_island_4 : decode cX3_island 4 = .ok (.aload_n 0, 1) := by decide +kernel
theorem dX3_island_5 : decode cX3_island 5 = .ok (.getfield 10, 3) := by decide +kernel
theorem dX3_island_8 : decode cX3_island 8 = .ok (.invokevirtual 151, 3) := by decide +kernel
theorem dX3_island_11 : decode cX3_island 11 = .ok (.aload_n 0, 1) := by decide +kernel
theorem dX3_island_12 : decode cX3_island 12 = .ok (.getfield 29, 3) := by decide +kernel
theorem dX3_island_15 : decode cX3_island 15 = .ok (.aload_n 0, 1) := by decide +kernel
theorem dX3_island_16 : decode cX3_island 16 = .ok (.getfield 16, 3) := by decide +kernel
theorem dX3_island_19 : decode cX3_island 19 = .ok (.invokevirtual 176, 3) := by decide +kernel
theorem dX3_island_22 : decode cX3_island 22 = .ok (.istore_n 1, 1) := by decide +kernel
theorem dX3_island_23 : decode cX3_island 23 = .ok (.aload_n 0, 1) := by decide +kernel
theorem dX3_island_24 : decode cX3_island 24 = .ok (.getfield 29, 3) := by decide +kernel
theorem dX3_island_27 : decode cX3_island 27 = .ok (.iconst 0, 1) := by decide +kernel
theorem dX3_island_28 : decode cX3_island 28 = .ok (.putfield 171, 3) := by decide +kernel
theorem dX3_island_31 : decode cX3_island 31 = .ok (.iload_n 1, 1) := by decide +kernel
theorem dX3_island_32 : decode cX3_island 32 = .ok (.ifCond .lt 14, 3) := by decide +kernel
theorem dX3_island_35 : decode cX3_island 35 = .ok (.aload_n 0, 1) := by decide +kernel
theorem dX3_island_36 : decode cX3_island 36 = .ok (.getfield 10, 3) := by decide +kernel
theorem dX3_island_39 : decode cX3_island 39 = .ok (.aload_n 0, 1) := by decide +kernel
theorem dX3_island_40 : decode cX3_island 40 = .ok (.getfield 16, 3) := by decide +kernel
theorem dX3_island_43 : decode cX3_island 43 = .ok (.invokevirtual 151, 3) := by decide +kernel
theorem dX3_island_46 : decode cX3_island 46 = .ok (.iload_n 1, 1) := by decide +kernel
theorem dX3_island_47 : decode cX3_island 47 = .ok (.ireturn, 1) := by decide +kernel
set_option maxRecDepth 20000 in
theorem ggX3_sheet_X3_within : GoodIn wsX3_sheet wsX3_within := goodIn_r _ [8] (by decide +kernel) (by decide +kernel)
set_option maxRecDepth 20000 in
theorem gX3_sheet_X3_within : GoodIn wsX3_sheet (va_wsS RX3 44 yX3_within wsX3_within) := goodIn_app (goodIn_of _ (by decide +kernel)) ggX3_sheet_X3_within
set_option maxRecDepth 20000 in
theorem ggX3_sheet_X3_found : GoodIn wsX3_sheet wsX3_found := goodIn_r _ [12, 1, 13, 5, 6, 7, 8, 22, 23, 24, 25, 26, 27, 28] (by decide +kernel) (by decide +kernel)
set_option maxRecDepth 20000 in
theorem gX3_sheet_X3_found : GoodIn wsX3_sheet (wsV RX3 59 RX3 yX3_found wsX3_found) := goodIn_app (goodIn_of _ (by decide +kernel)) ggX3_sheet_X3_found
set_option maxRecDepth 20000 in
theorem ggX3_sheet_X1_renew : GoodIn wsX3_sheet wsX1_renew := goodIn_r _ [18, 19, 20, 21, 29, 30, 31] (by decide +kernel) (by decide +kernel)
set_option maxRecDepth 20000 in
theorem gX3_sheet_X1_renew : GoodIn wsX3_sheet (wsV RX3 181 RX1 yX1_renew wsX1_renew) := goodIn_app (goodIn_of _ (by decide +kernel)) ggX3_sheet_X1_renew
theorem dX3_sheet_0 : decode cX3_sheet 0 = .ok (.iload_n 1, 1) := by decide +kernel
theorem dX3_sheet_1 : decode cX3_sheet 1 = .ok (.iconst 0, 1) := by decide +kernel
theorem dX3_sheet_2 : decode cX3_sheet 2 = .ok (.iconst 3, 1) := by decide +kernel
theorem dX3_sheet_3 : decode cX3_sheet 3 = .ok (.invokestatic 44, 3) := by decide +kernel
theorem dX3_sheet_6 : decode cX3_sheet 6 = .ok (.ifCond .eq 25, 3) := by decide +kernel
theorem dX3_sheet_9 : decode cX3_sheet 9 = .ok (.iload_n 2, 1) := by decide +kernel
theorem dX3_sheet_10 : decode cX3_sheet 10 = .ok (.ifCond .eq 28, 3) := by decide +kernel
theorem dX3_sheet_13 : decode cX3_sheet 13 = .ok (.iload_n 2, 1) := by decide +kernel
theorem dX3_sheet_14 : decode cX3_sheet 14 = .ok (.bipush 8, 2) := by decide +kernel
theorem dX3_sheet_16 : decode cX3_sheet 16 = .ok (.if_icmp .eq 22, 3) := by decide +kernel
theorem dX3_sheet_19 : decode cX3_sheet 19 = .ok (.iload_n 2, 1) := by decide +kernel
theorem dX3_sheet_20 : decode cX3_sheet 20 = .ok (.bipush 16, 2) := by decide +kernel
theorem dX3_sheet_22 : decode cX3_sheet 22 = .ok (.if_icmp .eq 16, 3) := by decide +kernel
theorem dX3_sheet_25 : decode cX3_sheet 25 = .ok (.iload_n 2, 1) := by decide +kernel
theorem dX3_sheet_26 : decode cX3_sheet 26 = .ok (.bipush 64, 2) := by decide +kernel
theorem dX3_sheet_28 : decode cX3_sheet 28 = .ok (.if_icmp .eq 10, 3) := by decide +kernel
theorem dX3_sheet_31 : decode cX3_sheet 31 = .ok (.aload_n 0, 1) := by decide +kernel
theorem dX3_sheet_32 : decode cX3_sheet 32 = .ok (.ldc 58, 2) := by decide +kernel
theorem dX3_sheet_34 : decode cX3_sheet 34 = .ok (.invokevirtual 59, 3) := by decide +kernel
theorem dX3_sheet_37 : decode cX3_sheet 37 = .ok (.ireturn, 1) := by decide +kernel
theorem dX3_sheet_38 : decode cX3_sheet 38 = .ok (.iload_n 3, 1) := by decide +kernel
theorem dX3_sheet_39 : decode cX3_sheet 39 = .ok (.ifCond .ge 10, 3) := by decide +kernel
theorem dX3_sheet_42 : decode cX3_sheet 42 = .ok (.aload_n 0, 1) := by decide +kernel
theorem dX3_sheet_43 : decode cX3_sheet 43 = .ok (.ldc 180, 2) := by decide +kernel
theorem dX3_sheet_45 : decode cX3_sheet 45 = .ok (.invokevirtual 59, 3) := by decide +kernel
theorem dX3_sheet_48 : decode cX3_sheet 48 = .ok (.ireturn, 1) := by decide +kernel
theorem dX3_sheet_49 : decode cX3_sheet 49 = .ok (.iload_n 3, 1) := by decide +kernel
theorem dX3_sheet_50 : decode cX3_sheet 50 = .ok (.bipush 40, 2) := by decide +kernel
theorem dX3_sheet_52 : decode cX3_sheet 52 = .ok (.if_icmp .le 10, 3) := by decide +kernel
theorem dX3_sheet_55 : decode cX3_sheet 55 = .ok (.aload_n 0, 1) := by decide +kernel
theorem dX3_sheet_56 : decode cX3_sheet 56 = .ok (.ldc 58, 2) := by decide +kernel
theorem dX3_sheet_58 : decode cX3_sheet 58 = .ok (.invokevirtual 59, 3) := by decide +kernel
theorem dX3_sheet_61 : decode cX3_sheet 61 = .ok (.ireturn, 1) := by decide +kernel
theorem dX3_sheet_62 : decode cX3_sheet 62 = .ok (.aload_n 0, 1) := by decide +kernel
theorem dX3_sheet_63 : decode cX3_sheet 63 = .ok (.getfield 35, 3) := by decide +kernel
theorem dX3_sheet_66 : decode cX3_sheet 66 = .ok (.iload_n 1, 1) := by decide +kernel
theorem dX3_sheet_67 : decode cX3_sheet 67 = .ok (.aaload, 1) := by decide +kernel
theorem dX3_sheet_68 : decode cX3_sheet 68 = .ok (.iload_n 2, 1) := by decide +kernel
theorem dX3_sheet_69 : decode cX3_sheet 69 = .ok (.iload_n 3, 1) := by decide +kernel
theorem dX3_sheet_70 : decode cX3_sheet 70 = .ok (.invokevirtual 181, 3) := by decide +kernel
theorem dX3_sheet_73 : decode cX3_sheet 73 = .ok (.aload_n 0, 1) := by decide +kernel
theorem dX3_sheet_74 : decode cX3_sheet 74 = .ok (.getfield 35, 3) := by decide +kernel
theorem dX3_sheet_77 : decode cX3_sheet 77 = .ok (.iload_n 1, 1) := by decide +kernel
theorem dX3_sheet_78 : decode cX3_sheet 78 = .ok (.aaload, 1) := by decide +kernel
theorem dX3_sheet_79 : decode cX3_sheet 79 = .ok (.getfield 185, 3) := by decide +kernel
theorem dX3_sheet_82 : decode cX3_sheet 82 = .ok (.ireturn, 1) := by decide +kernel
set_option maxRecDepth 20000 in
theorem ggX3_write_X3_findingOfSheet : GoodIn wsX3_write wsX3_findingOfSheet := goodIn_r _ [9, 3, 1, 10, 11, 12, 13, 8, 14, 27, 28, 29, 30, 31, 32, 33, 34, 35, 36] (by decide +kernel) (by decide +kernel)
set_option maxRecDepth 20000 in
theorem gX3_write_X3_findingOfSheet : GoodIn wsX3_write (wsV RX3 186 RX3 yX3_findingOfSheet wsX3_findingOfSheet) := goodIn_app (goodIn_of _ (by decide +kernel)) ggX3_write_X3_findingOfSheet
set_option maxRecDepth 20000 in
theorem ggX3_write_X3_found : GoodIn wsX3_write wsX3_found := goodIn_r _ [18, 3, 19, 12, 13, 8, 14, 27, 28, 29, 30, 31, 32, 33] (by decide +kernel) (by decide +kernel)
set_option maxRecDepth 20000 in
theorem gX3_write_X3_found : GoodIn wsX3_write (wsV RX3 59 RX3 yX3_found wsX3_found) := goodIn_app (goodIn_of _ (by decide +kernel)) ggX3_write_X3_found
set_option maxRecDepth 20000 in
theorem ggX3_write_X3_within : GoodIn wsX3_write wsX3_within := goodIn_r _ [14] (by decide +kernel) (by decide +kernel)
set_option maxRecDepth 20000 in
theorem gX3_write_X3_within : GoodIn wsX3_write (va_wsS RX3 44 yX3_within wsX3_within) := goodIn_app (goodIn_of _ (by decide +kernel)) ggX3_write_X3_within
set_option maxRecDepth 20000 in
theorem ggX3_write_X1_put : GoodIn wsX3_write wsX1_put := goodIn_r _ [24, 25, 26, 34, 35, 36] (by decide +kernel) (by decide +kernel)
set_option maxRecDepth 20000 in
theorem gX3_write_X1_put : GoodIn wsX3_write (wsV RX3 193 RX1 yX1_put wsX1_put) := goodIn_app (goodIn_of _ (by decide +kernel)) ggX3_write_X1_put
theorem dX3_write_0 : decode cX3_write 0 = .ok (.aload_n 0, 1) := by decide +kernel
theorem dX3_write_1 : decode cX3_write 1 = .ok (.iload_n 1, 1) := by decide +kernel
theorem dX3_write_2 : decode cX3_write 2 = .ok (.invokevirtual 186, 3) := by decide +kernel
theorem dX3_write_5 : decode cX3_write 5 = .ok (.istore 5, 2) := by decide +kernel
theorem dX3_write_7 : decode cX3_write 7 = .ok (.iload 5, 2) := by decide +kernel
theorem dX3_write_9 : decode cX3_write 9 = .ok (.ifCond .eq 11, 3) := by decide +kernel
theorem dX3_write_12 : decode cX3_write 12 = .ok (.aload_n 0, 1) := by decide +kernel
theorem dX3_write_13 : decode cX3_write 13 = .ok (.iload 5, 2) := by decide +kernel
theorem dX3_write_15 : decode cX3_write 15 = .ok (.invokevirtual 59, 3) := by decide +kernel
theorem dX3_write_18 : decode cX3_write 18 = .ok (.i2l, 1) := by decide +kernel
theorem dX3_write_19 : decode cX3_write 19 = .ok (.lreturn, 1) := by decide +kernel
theorem dX3_write_20 : decode cX3_write 20 = .ok (.iload_n 2, 1) := by decide +kernel
theorem dX3_write_21 : decode cX3_write 21 = .ok (.iconst 0, 1) := by decide +kernel
theorem dX3_write_22 : decode cX3_write 22 = .ok (.aload_n 0, 1) := by decide +kernel
theorem dX3_write_23 : decode cX3_write 23 = .ok (.getfield 35, 3) := by decide +kernel
theorem dX3_write_26 : decode cX3_write 26 = .ok (.iload_n 1, 1) := by decide +kernel
theorem dX3_write_27 : decode cX3_write 27 = .ok (.aaload, 1) := by decide +kernel
theorem dX3_write_28 : decode cX3_write 28 = .ok (.getfield 185, 3) := by decide +kernel
theorem dX3_write_31 : decode cX3_write 31 = .ok (.iconst 1, 1) := by decide +kernel
theorem dX3_write_32 : decode cX3_write 32 = .ok (.isub, 1) := by decide +kernel
theorem dX3_write_33 : decode cX3_write 33 = .ok (.invokestatic 44, 3) := by decide +kernel
theorem dX3_write_36 : decode cX3_write 36 = .ok (.ifCond .ne 11, 3) := by decide +kernel
theorem dX3_write_39 : decode cX3_write 39 = .ok (.aload_n 0, 1) := by decide +kernel
theorem dX3_write_40 : decode cX3_write 40 = .ok (.ldc 58, 2) := by decide +kernel
theorem dX3_write_42 : decode cX3_write 42 = .ok (.invokevirtual 59, 3) := by decide +kernel
theorem dX3_write_45 : decode cX3_write 45 = .ok (.i2l, 1) := by decide +kernel
theorem dX3_write_46 : decode cX3_write 46 = .ok (.lreturn, 1) := by decide +kernel
theorem dX3_write_47 : decode cX3_write 47 = .ok (.aload_n 0, 1) := by decide +kernel
theorem dX3_write_48 : decode cX3_write 48 = .ok (.getfield 35, 3) := by decide +kernel
theorem dX3_write_51 : decode cX3_write 51 = .ok (.iload_n 1, 1) := by decide +kernel
theorem dX3_write_52 : decode cX3_write 52 = .ok (.aaload, 1) := by decide +kernel
theorem dX3_write_53 : decode cX3_write 53 = .ok (.getfield 189, 3) := by decide +kernel
theorem dX3_write_56 : decode cX3_write 56 = .ok (.iload_n 2, 1) := by decide +kernel
theorem dX3_write_57 : decode cX3_write 57 = .ok (.laload, 1) := by decide +kernel
theorem dX3_write_58 : decode cX3_write 58 = .ok (.lstore 6, 2) := by decide +kernel
theorem dX3_write_60 : decode cX3_write 60 = .ok (.aload_n 0, 1) := by decide +kernel
theorem dX3_write_61 : decode cX3_write 61 = .ok (.getfield 35, 3) := by decide +kernel
theorem dX3_write_64 : decode cX3_write 64 = .ok (.iload_n 1, 1) := by decide +kernel
theorem dX3_write_65 : decode cX3_write 65 = .ok (.aaload, 1) := by decide +kernel
theorem dX3_write_66 : decode cX3_write 66 = .ok (.iload_n 2, 1) := by decide +kernel
theorem dX3_write_67 : decode cX3_write 67 = .ok (.lload_n 3, 1) := by decide +kernel
theorem dX3_write_68 : decode cX3_write 68 = .ok (.invokevirtual 193, 3) := by decide +kernel
theorem dX3_write_71 : decode cX3_write 71 = .ok (.lload 6, 2) := by decide +kernel
theorem dX3_write_73 : decode cX3_write 73 = .ok (.lreturn, 1) := by decide +kernel
set_option maxRecDepth 20000 in
theorem ggX3_copy_X3_within : GoodIn wsX3_copy wsX3_within := goodIn_r _ [14] (by decide +kernel) (by decide +kernel)
set_option maxRecDepth 20000 in
theorem gX3_copy_X3_within : GoodIn wsX3_copy (va_wsS RX3 44 yX3_within wsX3_within) := goodIn_app (goodIn_of _ (by decide +kernel)) ggX3_copy_X3_within
set_option maxRecDepth 20000 in
theorem ggX3_copy_X3_found : GoodIn wsX3_copy wsX3_found := goodIn_r _ [18, 1, 19, 11, 12, 13, 14, 26, 27, 28, 29, 30, 31, 32] (by decide +kernel) (by decide +kernel)
set_option maxRecDepth 20000 in
theorem gX3_copy_X3_found : GoodIn wsX3_copy (wsV RX3 59 RX3 yX3_found wsX3_found) := goodIn_app (goodIn_of _ (by decide +kernel)) ggX3_copy_X3_found
set_option maxRecDepth 20000 in
theorem ggX3_copy_X1_hasNumbers : GoodIn wsX3_copy wsX1_hasNumbers := goodIn_r _ [24, 25, 33, 34, 35] (by decide +kernel) (by decide +kernel)
set_option maxRecDepth 20000 in
theorem gX3_copy_X1_hasNumbers : GoodIn wsX3_copy (wsV RX3 201 RX1 yX1_hasNumbers wsX1_hasNumbers) := goodIn_app (goodIn_of _ (by decide +kernel)) ggX3_copy_X1_hasNumbers
theorem dX3_copy_0 : decode cX3_copy 0 = .ok (.iload_n 1, 1) := by decide +kernel
theorem dX3_copy_1 : decode cX3_copy 1 = .ok (.iconst 0, 1) := by decide +kernel
theorem dX3_copy_2 : decode cX3_copy 2 = .ok (.iconst 3, 1) := by decide +kernel
theorem dX3_copy_3 : decode cX3_copy 3 = .ok (.invokestatic 44, 3) := by decide +kernel
theorem dX3_copy_6 : decode cX3_copy 6 = .ok (.ifCond .eq 12, 3) := by decide +kernel
theorem dX3_copy_9 : decode cX3_copy 9 = .ok (.iload_n 3, 1) := by decide +kernel
theorem dX3_copy_10 : decode cX3_copy 10 = .ok (.iconst 0, 1) := by decide +kernel
theorem dX3_copy_11 : decode cX3_copy 11 = .ok (.iconst 3, 1) := by decide +kernel
theorem dX3_copy_12 : decode cX3_copy 12 = .ok (.invokestatic 44, 3) := by decide +kernel
theorem dX3_copy_15 : decode cX3_copy 15 = .ok (.ifCond .ne 10, 3) := by decide +kernel
theorem dX3_copy_18 : decode cX3_copy 18 = .ok (.aload_n 0, 1) := by decide +kernel
theorem dX3_copy_19 : decode cX3_copy 19 = .ok (.ldc 58, 2) := by decide +kernel
theorem dX3_copy_21 : decode cX3_copy 21 = .ok (.invokevirtual 59, 3) := by decide +kernel
theorem dX3_copy_24 : decode cX3_copy 24 = .ok (.ireturn, 1) := by decide +kernel
theorem dX3_copy_25 : decode cX3_copy 25 = .ok (.aload_n 0, 1) := by decide +kernel
theorem dX3_copy_26 : decode cX3_copy 26 = .ok (.getfield 35, 3) := by decide +kernel
theorem dX3_copy_29 : decode cX3_copy 29 = .ok (.iload_n 1, 1) := by decide +kernel
theorem dX3_copy_30 : decode cX3_copy 30 = .ok (.aaload, 1) := by decide +kernel
theorem dX3_copy_31 : decode cX3_copy 31 = .ok (.getfield 197, 3) := by decide +kernel
theorem dX3_copy_34 : decode cX3_copy 34 = .ok (.ifCond .eq 15, 3) := by decide +kernel
theorem dX3_copy_37 : decode cX3_copy 37 = .ok (.aload_n 0, 1) := by decide +kernel
theorem dX3_copy_38 : decode cX3_copy 38 = .ok (.getfield 35, 3) := by decide +kernel
theorem dX3_copy_41 : decode cX3_copy 41 = .ok (.iload_n 3, 1) := by decide +kernel
theorem dX3_copy_42 : decode cX3_copy 42 = .ok (.aaload, 1) := by decide +kernel
theorem dX3_copy_43 : decode cX3_copy 43 = .ok (.getfield 197, 3) := by decide +kernel
theorem dX3_copy_46 : decode cX3_copy 46 = .ok (.ifCond .ne 10, 3) := by decide +kernel
theorem dX3_copy_49 : decode cX3_copy 49 = .ok (.aload_n 0, 1) := by decide +kernel
theorem dX3_copy_50 : decode cX3_copy 50 = .ok (.ldc 200, 2) := by decide +kernel
theorem dX3_copy_52 : decode cX3_copy 52 = .ok (.invokevirtual 59, 3) := by decide +kernel
theorem dX3_copy_55 : decode cX3_copy 55 = .ok (.ireturn, 1) := by decide +kernel
theorem dX3_copy_56 : decode cX3_copy 56 = .ok (.aload_n 0, 1) := by decide +kernel
theorem dX3_copy_57 : decode cX3_copy 57 = .ok (.getfield 35, 3) := by decide +kernel
theorem dX3_copy_60 : decode cX3_copy 60 = .ok (.iload_n 1, 1) := by decide +kernel
theorem dX3_copy_61 : decode cX3_copy 61 = .ok (.aaload, 1) := by decide +kernel
theorem dX3_copy_62 : decode cX3_copy 62 = .ok (.getfield 197, 3) := by decide +kernel
theorem dX3_copy_65 : decode cX3_copy 65 = .ok (.aload_n 0, 1) := by decide +kernel
theorem dX3_copy_66 : decode cX3_copy 66 = .ok (.getfield 35, 3) := by decide +kernel
theorem dX3_copy_69 : decode cX3_copy 69 = .ok (.iload_n 3, 1) := by decide +kernel
theorem dX3_copy_70 : decode cX3_copy 70 = .ok (.aaload, 1) := by decide +kernel
theorem dX3_copy_71 : decode cX3_copy 71 = .ok (.getfield 197, 3) := by decide +kernel
theorem dX3_copy_74 : decode cX3_copy 74 = .ok (.if_icmp .eq 10, 3) := by decide +kernel
theorem dX3_copy_77 : decode cX3_copy 77 = .ok (.aload_n 0, 1) := by decide +kernel
theorem dX3_copy_78 : decode cX3_copy 78 = .ok (.ldc 136, 2) := by decide +kernel
theorem dX3_copy_80 : decode cX3_copy 80 = .ok (.invokevirtual 59, 3) := by decide +kernel
theorem dX3_copy_83 : decode cX3_copy 83 = .ok (.ireturn, 1) := by decide +kernel
theorem dX3_copy_84 : decode cX3_copy 84 = .ok (.aload_n 0, 1) := by decide +kernel
theorem dX3_copy_85 : decode cX3_copy 85 = .ok (.getfield 35, 3) := by decide +kernel
theorem dX3_copy_88 : decode cX3_copy 88 = .ok (.iload_n 1, 1) := by decide +kernel
theorem dX3_copy_89 : decode cX3_copy 89 = .ok (.aaload, 1) := by decide +kernel
theorem dX3_copy_90 : decode cX3_copy 90 = .ok (.iload_n 2, 1) := by decide +kernel
theorem dX3_copy_91 : decode cX3_copy 91 = .ok (.iload 5, 2) := by decide +kernel
theorem dX3_copy_93 : decode cX3_copy 93 = .ok (.invokevirtual 201, 3) := by decide +kernel
theorem dX3_copy_96 : decode cX3_copy 96 = .ok (.ifCond .eq 19, 3) := by decide +kernel
theorem dX3_copy_99 : decode cX3_copy 99 = .ok (.aload_n 0, 1) := by decide +kernel
theorem dX3_copy_100 : decode cX3_copy 100 = .ok (.getfield 35, 3) := by decide +kernel
theorem dX3_copy_103 : decode cX3_copy 103 = .ok (.iload_n 3, 1) := by decide +kernel
theorem dX3_copy_104 : decode cX3_copy 104 = .ok (.aaload, 1) := by decide +kernel
theorem dX3_copy_105 : decode cX3_copy 105 = .ok (.iload 4, 2) := by decide +kernel
theorem dX3_copy_107 : decode cX3_copy 107 = .ok (.iload 5, 2) := by decide +kernel
theorem dX3_copy_109 : decode cX3_copy 109 = .ok (.invokevirtual 201, 3) := by decide +kernel
theorem dX3_copy_112 : decode cX3_copy 112 = .ok (.ifCond .ne 10, 3) := by decide +kernel
theorem dX3_copy_115 : decode cX3_copy 115 = .ok (.aload_n 0, 1) := by decide +kernel
theorem dX3_copy_116 : decode cX3_copy 116 = .ok (.ldc 58, 2) := by decide +kernel
theorem dX3_copy_118 : decode cX3_copy 118 = .ok (.invokevirtual 59, 3) := by decide +kernel
theorem dX3_copy_121 : decode cX3_copy 121 = .ok (.ireturn, 1) := by decide +kernel
theorem dX3_copy_122 : decode cX3_copy 122 = .ok (.aload_n 0, 1) := by decide +kernel
theorem dX3_copy_123 : decode cX3_copy 123 = .ok (.getfield 35, 3) := by decide +kernel
theorem dX3_copy_126 : decode cX3_copy 126 = .ok (.iload_n 1, 1) := by decide +kernel
theorem dX3_copy_127 : decode cX3_copy 127 = .ok (.aaload, 1) := by decide +kernel
theorem dX3_copy_128 : decode cX3_copy 128 = .ok (.getfield 189, 3) := by decide +kernel
theorem dX3_copy_131 : decode cX3_copy 131 = .ok (.iload_n 2, 1) := by decide +kernel
theorem dX3_copy_132 : decode cX3_copy 132 = .ok (.aload_n 0, 1) := by decide +kernel
theorem dX3_copy_133 : decode cX3_copy 133 = .ok (.getfield 35, 3) := by decide +kernel
theorem dX3_copy_136 : decode cX3_copy 136 = .ok (.iload_n 3, 1) := by decide +kernel
theorem dX3_copy_137 : decode cX3_copy 137 = .ok (.aaload, 1) := by decide +kernel
theorem dX3_copy_138 : decode cX3_copy 138 = .ok (.getfield 189, 3) := by decide +kernel
theorem dX3_copy_141 : decode cX3_copy 141 = .ok (.iload 4, 2) := by decide +kernel
theorem dX3_copy_143 : decode cX3_copy 143 = .ok (.iload 5, 2) := by decide +kernel
theorem dX3_copy_145 : decode cX3_copy 145 = .ok (.invokestatic 204, 3) := by decide +kernel
theorem dX3_copy_148 : decode cX3_copy 148 = .ok (.iload 5, 2) := by decide +kernel
theorem dX3_copy_150 : decode cX3_copy 150 = .ok (.ireturn, 1) := by decide +kernel
set_option maxRecDepth 20000 in
theorem ggX3_lays_X3_findingOfSheet : GoodIn wsX3_lays wsX3_findingOfSheet := goodIn_r _ [12, 13, 1, 14, 15, 16, 17, 11, 18, 24, 25, 26, 27, 28, 29, 30, 31, 32, 33] (by decide +kernel) (by decide +kernel)
set_option maxRecDepth 20000 in
theorem gX3_lays_X3_findingOfSheet : GoodIn wsX3_lays (wsV RX3 186 RX3 yX3_findingOfSheet wsX3_findingOfSheet) := goodIn_app (goodIn_of _ (by decide +kernel)) ggX3_lays_X3_findingOfSheet
set_option maxRecDepth 20000 in
theorem ggX3_lays_X3_found : GoodIn wsX3_lays wsX3_found := goodIn_r _ [22, 13, 23, 16, 17, 11, 18, 24, 25, 26, 27, 28, 29, 30] (by decide +kernel) (by decide +kernel)
set_option maxRecDepth 20000 in
theorem gX3_lays_X3_found : GoodIn wsX3_lays (wsV RX3 59 RX3 yX3_found wsX3_found) := goodIn_app (goodIn_of _ (by decide +kernel)) ggX3_lays_X3_found
theorem dX3_lays_0 : decode cX3_lays 0 = .ok (.aload_n 0, 1) := by decide +kernel
theorem dX3_lays_1 : decode cX3_lays 1 = .ok (.iload_n 1, 1) := by decide +kernel
theorem dX3_lays_2 : decode cX3_lays 2 = .ok (.invokevirtual 186, 3) := by decide +kernel
theorem dX3_lays_5 : decode cX3_lays 5 = .ok (.istore_n 2, 1) := by decide +kernel
theorem dX3_lays_6 : decode cX3_lays 6 = .ok (.iload_n 2, 1) := by decide +kernel
theorem dX3_lays_7 : decode cX3_lays 7 = .ok (.ifCond .eq 9, 3) := by decide +kernel
theorem dX3_lays_10 : decode cX3_lays 10 = .ok (.aload_n 0, 1) := by decide +kernel
theorem dX3_lays_11 : decode cX3_lays 11 = .ok (.iload_n 2, 1) := by decide +kernel
theorem dX3_lays_12 : decode cX3_lays 12 = .ok (.invokevirtual 59, 3) := by decide +kernel
theorem dX3_lays_15 : decode cX3_lays 15 = .ok (.ireturn, 1) := by decide +kernel
theorem dX3_lays_16 : decode cX3_lays 16 = .ok (.iconst 0, 1) := by decide +kernel
theorem dX3_lays_17 : decode cX3_lays 17 = .ok (.istore_n 3, 1) := by decide +kernel
theorem dX3_lays_18 : decode cX3_lays 18 = .ok (.iconst 0, 1) := by decide +kernel
theorem dX3_lays_19 : decode cX3_lays 19 = .ok (.istore 4, 2) := by decide +kernel
theorem dX3_lays_21 : decode cX3_lays 21 = .ok (.iload 4, 2) := by decide +kernel
theorem dX3_lays_23 : decode cX3_lays 23 = .ok (.aload_n 0, 1) := by decide +kernel
theorem dX3_lays_24 : decode cX3_lays 24 = .ok (.getfield 35, 3) := by decide +kernel
theorem dX3_lays_27 : decode cX3_lays 27 = .ok (.iload_n 1, 1) := by decide +kernel
theorem dX3_lays_28 : decode cX3_lays 28 = .ok (.aaload, 1) := by decide +kernel
theorem dX3_lays_29 : decode cX3_lays 29 = .ok (.getfield 185, 3) := by decide +kernel
theorem dX3_lays_32 : decode cX3_lays 32 = .ok (.if_icmp .ge 67, 3) := by decide +kernel
theorem dX3_lays_35 : decode cX3_lays 35 = .ok (.iload 4, 2) := by decide +kernel
theorem dX3_lays_37 : decode cX3_lays 37 = .ok (.aload_n 0, 1) := by decide +kernel
theorem dX3_lays_38 : decode cX3_lays 38 = .ok (.getfield 10, 3) := by decide +kernel
theorem dX3_lays_41 : decode cX3_lays 41 = .ok (.getfield 82, 3) := by decide +kernel
theorem dX3_lays_44 : decode cX3_lays 44 = .ok (.if_icmp .ge 55, 3) := by decide +kernel
theorem dX3_lays_47 : decode cX3_lays 47 = .ok (.aload_n 0, 1) := by decide +kernel
theorem dX3_lays_48 : decode cX3_lays 48 = .ok (.getfield 35, 3) := by decide +kernel
theorem dX3_lays_51 : decode cX3_lays 51 = .ok (.iload_n 1, 1) := by decide +kernel
theorem dX3_lays_52 : decode cX3_lays 52 = .ok (.aaload, 1) := by decide +kernel
theorem dX3_lays_53 : decode cX3_lays 53 = .ok (.getfield 189, 3) := by decide +kernel
theorem dX3_lays_56 : decode cX3_lays 56 = .ok (.iload 4, 2) := by decide +kernel
theorem dX3_lays_58 : decode cX3_lays 58 = .ok (.laload, 1) := by decide +kernel
theorem dX3_lays_59 : decode cX3_lays 59 = .ok (.lstore 5, 2) := by decide +kernel
theorem dX3_lays_61 : decode cX3_lays 61 = .ok (.lload 5, 2) := by decide +kernel
theorem dX3_lays_63 : decode cX3_lays 63 = .ok (.lconst 0, 1) := by decide +kernel
theorem dX3_lays_64 : decode cX3_lays 64 = .ok (.lcmp, 1) := by decide +kernel
theorem dX3_lays_65 : decode cX3_lays 65 = .ok (.ifCond .lt 28, 3) := by decide +kernel
theorem dX3_lays_68 : decode cX3_lays 68 = .ok (.lload 5, 2) := by decide +kernel
theorem dX3_lays_70 : decode cX3_lays 70 = .ok (.ldc2_w 210, 3) := by decide +kernel
theorem dX3_lays_73 : decode cX3_lays 73 = .ok (.lcmp, 1) := by decide +kernel
theorem dX3_lays_74 : decode cX3_lays 74 = .ok (.ifCond .gt 19, 3) := by decide +kernel
theorem dX3_lays_77 : decode cX3_lays 77 = .ok (.aload_n 0, 1) := by decide +kernel
theorem dX3_lays_78 : decode cX3_lays 78 = .ok (.getfield 10, 3) := by decide +kernel
theorem dX3_lays_81 : decode cX3_lays 81 = .ok (.getfield 106, 3) := by decide +kernel
theorem dX3_lays_84 : decode cX3_lays 84 = .ok (.iload 4, 2) := by decide +kernel
theorem dX3_lays_86 : decode cX3_lays 86 = .ok (.lload 5, 2) := by decide +kernel
theorem dX3_lays_88 : decode cX3_lays 88 = .ok (.l2i, 1) := by decide +kernel
theorem dX3_lays_89 : decode cX3_lays 89 = .ok (.iastore, 1) := by decide +kernel
theorem dX3_lays_90 : decode cX3_lays 90 = .ok (.iinc 3 1, 3) := by decide +kernel
theorem dX3_lays_93 : decode cX3_lays 93 = .ok (.iinc 4 1, 3) := by decide +kernel
theorem dX3_lays_96 : decode cX3_lays 96 = .ok (.goto (-75), 3) := by decide +kernel
theorem dX3_lays_99 : decode cX3_lays 99 = .ok (.iload_n 3, 1) := by decide +kernel
theorem dX3_lays_100 : decode cX3_lays 100 = .ok (.ireturn, 1) := by decide +kernel
set_option maxRecDepth 20000 in
theorem ggX3_book_X3_findingOfSheet : GoodIn wsX3_book wsX3_findingOfSheet := goodIn_r _ [11, 2, 4, 12, 13, 14, 15, 10, 16, 121, 122, 123, 124, 125, 126, 127, 128, 129, 130] (by decide +kernel) (by decide +kernel)
set_option maxRecDepth 20000 in
theorem gX3_book_X3_findingOfSheet : GoodIn wsX3_book (wsV RX3 186 RX3 yX3_findingOfSheet wsX3_findingOfSheet) := goodIn_app (goodIn_of _ (by decide +kernel)) ggX3_book_X3_findingOfSheet
set_option maxRecDepth 20000 in
theorem ggX3_book_X0_has : GoodIn wsX3_book wsX0_has := goodIn_r _ [21, 22, 131, 132, 133, 134, 135, 136, 137, 138, 139, 140, 141, 142, 143] (by decide +kernel) (by decide +kernel)
set_option maxRecDepth 20000 in
theorem gX3_book_X0_has : GoodIn wsX3_book (wsV RX3 90 RX0 yX0_has wsX0_has) := goodIn_app (goodIn_of _ (by decide +kernel)) ggX3_book_X0_has
set_option maxRecDepth 20000 in
theorem ggX3_book_X3_found : GoodIn wsX3_book wsX3_found := goodIn_r _ [26, 2, 27, 14, 15, 10, 16, 121, 122, 123, 124, 125, 126, 127] (by decide +kernel) (by decide +kernel)
set_option maxRecDepth 20000 in
theorem gX3_book_X3_found : GoodIn wsX3_book (wsV RX3 59 RX3 yX3_found wsX3_found) := goodIn_app (goodIn_of _ (by decide +kernel)) ggX3_book_X3_found
set_option maxRecDepth 20000 in
theorem ggX3_book_X0_becomes : GoodIn wsX3_book wsX0_becomes := goodIn_r _ [31, 32, 33, 34, 35, 22, 36, 37, 38, 39, 40, 41, 42, 43, 131, 132, 133, 134, 135, 136, 137, 138, 139, 140, 141, 142, 143] (by decide +kernel) (by decide +kernel)
set_option maxRecDepth 20000 in
theorem gX3_book_X0_becomes : GoodIn wsX3_book (wsV RX3 151 RX0 yX0_becomes wsX0_becomes) := goodIn_app (goodIn_of _ (by decide +kernel)) ggX3_book_X0_becomes
set_option maxRecDepth 20000 in
theorem ggX3_book_X1_put : GoodIn wsX3_book wsX1_put := goodIn_r _ [48, 49, 50, 128, 129, 130] (by decide +kernel) (by decide +kernel)
set_option maxRecDepth 20000 in
theorem gX3_book_X1_put : GoodIn wsX3_book (wsV RX3 193 RX1 yX1_put wsX1_put) := goodIn_app (goodIn_of _ (by decide +kernel)) ggX3_book_X1_put
set_option maxRecDepth 20000 in
theorem ggX3_book_X0_goSeconds : GoodIn wsX3_book wsX0_goSeconds := goodIn_r _ [54, 36, 34, 33, 32, 55, 56, 57, 20, 58, 22, 39, 37, 59, 60, 61, 62, 63, 64, 65, 66, 38, 41, 42, 67, 68, 69, 70, 71, 72, 73, 74, 75, 76, 77, 78, 79, 80, 81, 82, 83, 84, 85, 40, 86, 87, 88, 89, 90, 91, 92, 93, 94, 95, 96, 97, 98, 99, 100, 101, 35, 102, 103, 104, 105, 106, 107, 108, 109, 43, 110, 111, 112, 113, 114, 115, 116, 117, 118, 119, 120, 131, 132, 133, 134, 135, 136, 137, 138, 139, 140, 141, 142, 143] (by decide +kernel) (by decide +kernel)
set_option maxRecDepth 20000 in
theorem gX3_book_X0_goSeconds : GoodIn wsX3_book (wsV RX3 148 RX0 yX0_goSeconds wsX0_goSeconds) := goodIn_app (goodIn_of _ (by decide +kernel)) ggX3_book_X0_goSeconds
theorem dX3_book_0 : decode cX3_book 0 = .ok (.aload_n 0, 1) := by decide +kernel
theorem dX3_book_1 : decode cX3_book 1 = .ok (.iload_n 1, 1) := by decide +kernel
theorem dX3_book_2 : decode cX3_book 2 = .ok (.invokevirtual 186, 3) := by decide +kernel
theorem dX3_book_5 : decode cX3_book 5 = .ok (.istore_n 3, 1) := by decide +kernel
theorem dX3_book_6 : decode cX3_book 6 = .ok (.iload_n 3, 1) := by decide +kernel
theorem dX3_book_7 : decode cX3_book 7 = .ok (.ifCond .ne 17, 3) := by decide +kernel
theorem dX3_book_10 : decode cX3_book 10 = .ok (.aload_n 0, 1) := by decide +kernel
theorem dX3_book_11 : decode cX3_book 11 = .ok (.getfield 10, 3) := by decide +kernel
theorem dX3_book_14 : decode cX3_book 14 = .ok (.iload_n 2, 1) := by decide +kernel
theorem dX3_book_15 : decode cX3_book 15 = .ok (.invokevirtual 90, 3) := by decide +kernel
theorem dX3_book_18 : decode cX3_book 18 = .ok (.ifCond .ne 6, 3) := by decide +kernel
theorem dX3_book_21 : decode cX3_book 21 = .ok (.ldc 58, 2) := by decide +kernel
theorem dX3_book_23 : decode cX3_book 23 = .ok (.istore_n 3, 1) := by decide +kernel
theorem dX3_book_24 : decode cX3_book 24 = .ok (.iload_n 3, 1) := by decide +kernel
theorem dX3_book_25 : decode cX3_book 25 = .ok (.ifCond .eq 9, 3) := by decide +kernel
theorem dX3_book_28 : decode cX3_book 28 = .ok (.aload_n 0, 1) := by decide +kernel
theorem dX3_book_29 : decode cX3_book 29 = .ok (.iload_n 3, 1) := by decide +kernel
theorem dX3_book_30 : decode cX3_book 30 = .ok (.invokevirtual 59, 3) := by decide +kernel
theorem dX3_book_33 : decode cX3_book 33 = .ok (.ireturn, 1) := by decide +kernel
theorem dX3_book_34 : decode cX3_book 34 = .ok (.aload_n 0, 1) := by decide +kernel
theorem dX3_book_35 : decode cX3_book 35 = .ok (.getfield 16, 3) := by decide +kernel
theorem dX3_book_38 : decode cX3_book 38 = .ok (.aload_n 0, 1) := by decide +kernel
theorem dX3_book_39 : decode cX3_book 39 = .ok (.getfield 10, 3) := by decide +kernel
theorem dX3_book_42 : decode cX3_book 42 = .ok (.invokevirtual 151, 3) := by decide +kernel
theorem dX3_book_45 : decode cX3_book 45 = .ok (.iconst 0, 1) := by decide +kernel
theorem dX3_book_46 : decode cX3_book 46 = .ok (.istore 4, 2) := by decide +kernel
theorem dX3_book_48 : decode cX3_book 48 = .ok (.iload 4, 2) := by decide +kernel
theorem dX3_book_50 : decode cX3_book 50 = .ok (.aload_n 0, 1) := by decide +kernel
theorem dX3_book_51 : decode cX3_book 51 = .ok (.getfield 35, 3) := by decide +kernel
theorem dX3_book_54 : decode cX3_book 54 = .ok (.iload_n 1, 1) := by decide +kernel
theorem dX3_book_55 : decode cX3_book 55 = .ok (.aaload, 1) := by decide +kernel
theorem dX3_book_56 : decode cX3_book 56 = .ok (.getfield 185, 3) := by decide +kernel
theorem dX3_book_59 : decode cX3_book 59 = .ok (.if_icmp .ge 38, 3) := by decide +kernel
theorem dX3_book_62 : decode cX3_book 62 = .ok (.aload_n 0, 1) := by decide +kernel
theorem dX3_book_63 : decode cX3_book 63 = .ok (.getfield 35, 3) := by decide +kernel
theorem dX3_book_66 : decode cX3_book 66 = .ok (.iload_n 1, 1) := by decide +kernel
theorem dX3_book_67 : decode cX3_book 67 = .ok (.aaload, 1) := by decide +kernel
theorem dX3_book_68 : decode cX3_book 68 = .ok (.iload 4, 2) := by decide +kernel
theorem dX3_book_70 : decode cX3_book 70 = .ok (.aload_n 0, 1) := by decide +kernel
theorem dX3_book_71 : decode cX3_book 71 = .ok (.getfield 16, 3) := by decide +kernel
theorem dX3_book_74 : decode cX3_book 74 = .ok (.getfield 97, 3) := by decide +kernel
theorem dX3_book_77 : decode cX3_book 77 = .ok (.iload_n 2, 1) := by decide +kernel
theorem dX3_book_78 : decode cX3_book 78 = .ok (.iaload, 1) := by decide +kernel
theorem dX3_book_79 : decode cX3_book 79 = .ok (.i2l, 1) := by decide +kernel
theorem dX3_book_80 : decode cX3_book 80 = .ok (.invokevirtual 193, 3) := by decide +kernel
theorem dX3_book_83 : decode cX3_book 83 = .ok (.aload_n 0, 1) := by decide +kernel
theorem dX3_book_84 : decode cX3_book 84 = .ok (.getfield 16, 3) := by decide +kernel
theorem dX3_book_87 : decode cX3_book 87 = .ok (.iconst 1, 1) := by decide +kernel
theorem dX3_book_88 : decode cX3_book 88 = .ok (.invokevirtual 148, 3) := by decide +kernel
theorem dX3_book_91 : decode cX3_book 91 = .ok (.iinc 4 1, 3) := by decide +kernel
theorem dX3_book_94 : decode cX3_book 94 = .ok (.goto (-46), 3) := by decide +kernel
theorem dX3_book_97 : decode cX3_book 97 = .ok (.aload_n 0, 1) := by decide +kernel
theorem dX3_book_98 : decode cX3_book 98 = .ok (.getfield 35, 3) := by decide +kernel
theorem dX3_book_101 : decode cX3_book 101 = .ok (.iload_n 1, 1) := by decide +kernel
theorem dX3_book_102 : decode cX3_book 102 = .ok (.aaload, 1) := by decide +kernel
theorem dX3_book_103 : decode cX3_book 103 = .ok (.getfield 185, 3) := by decide +kernel
theorem dX3_book_106 : decode cX3_book 106 = .ok (.ireturn, 1) := by decide +kernel
set_option maxRecDepth 20000 in
theorem ggX3_read_X3_findingOfSheet : GoodIn wsX3_read wsX3_findingOfSheet := goodIn_r _ [11, 2, 6, 12, 13, 14, 15, 10, 16, 121, 122, 123, 124, 125, 126, 127, 141, 142, 143] (by decide +kernel) (by decide +kernel)
set_option maxRecDepth 20000 in
theorem gX3_read_X3_findingOfSheet : GoodIn wsX3_read (wsV RX3 186 RX3 yX3_findingOfSheet wsX3_findingOfSheet) := goodIn_app (goodIn_of _ (by decide +kernel)) ggX3_read_X3_findingOfSheet
set_option maxRecDepth 20000 in
theorem ggX3_read_X0_has : GoodIn wsX3_read wsX0_has := goodIn_r _ [21, 22, 128, 129, 130, 131, 132, 133, 134, 135, 136, 137, 138, 139, 140] (by decide +kernel) (by decide +kernel)
set_option maxRecDepth 20000 in
theorem gX3_read_X0_has : GoodIn wsX3_read (wsV RX3 90 RX0 yX0_has wsX0_has) := goodIn_app (goodIn_of _ (by decide +kernel)) ggX3_read_X0_has
set_option maxRecDepth 20000 in
theorem ggX3_read_X3_found : GoodIn wsX3_read wsX3_found := goodIn_r _ [26, 2, 27, 14, 15, 10, 16, 121, 122, 123, 124, 125, 126, 127] (by decide +kernel) (by decide +kernel)
set_option maxRecDepth 20000 in
theorem gX3_read_X3_found : GoodIn wsX3_read (wsV RX3 59 RX3 yX3_found wsX3_found) := goodIn_app (goodIn_of _ (by decide +kernel)) ggX3_read_X3_found
set_option maxRecDepth 20000 in
theorem ggX3_read_X0_becomes : GoodIn wsX3_read wsX0_becomes := goodIn_r _ [31, 32, 33, 34, 35, 22, 36, 37, 38, 39, 40, 41, 42, 43, 128, 129, 130, 131, 132, 133, 134, 135, 136, 137, 138, 139, 140] (by decide +kernel) (by decide +kernel)
set_option maxRecDepth 20000 in
theorem gX3_read_X0_becomes : GoodIn wsX3_read (wsV RX3 151 RX0 yX0_becomes wsX0_becomes) := goodIn_app (goodIn_of _ (by decide +kernel)) ggX3_read_X0_becomes
set_option maxRecDepth 20000 in
theorem ggX3_read_X3_goesAsBooked : GoodIn wsX3_read wsX3_goesAsBooked := goodIn_r _ [47, 48, 49, 3, 50, 51, 52, 53, 20, 54, 36, 34, 33, 32, 55, 56, 57, 58, 22, 39, 37, 59, 60, 61, 62, 63, 64, 65, 66, 38, 41, 42, 67, 68, 69, 70, 71, 72, 73, 74, 75, 76, 77, 78, 79, 80, 81, 82, 83, 84, 85, 40, 86, 87, 88, 89, 90, 91, 92, 93, 94, 95, 96, 97, 98, 99, 100, 101, 35, 102, 103, 104, 105, 106, 107, 108, 109, 43, 110, 111, 112, 113, 114, 115, 116, 117, 118, 119, 120, 141, 142, 143, 121, 122, 123, 124, 125, 126, 127, 128, 129, 130, 131, 132, 133, 134, 135, 136, 137, 138, 139, 140] (by decide +kernel) (by decide +kernel)
set_option maxRecDepth 20000 in
theorem gX3_read_X3_goesAsBooked : GoodIn wsX3_read (wsV RX3 212 RX3 yX3_goesAsBooked wsX3_goesAsBooked) := goodIn_app (goodIn_of _ (by decide +kernel)) ggX3_read_X3_goesAsBooked
theorem dX3_read_0 : decode cX3_read 0 = .ok (.aload_n 0, 1) := by decide +kernel
theorem dX3_read_1 : decode cX3_read 1 = .ok (.iload_n 1, 1) := by decide +kernel
theorem dX3_read_2 : decode cX3_read 2 = .ok (.invokevirtual 186, 3) := by decide +kernel
theorem dX3_read_5 : decode cX3_read 5 = .ok (.istore_n 3, 1) := by decide +kernel
theorem dX3_read_6 : decode cX3_read 6 = .ok (.iload_n 3, 1) := by decide +kernel
theorem dX3_read_7 : decode cX3_read 7 = .ok (.ifCond .ne 17, 3) := by decide +kernel
theorem dX3_read_10 : decode cX3_read 10 = .ok (.aload_n 0, 1) := by decide +kernel
theorem dX3_read_11 : decode cX3_read 11 = .ok (.getfield 10, 3) := by decide +kernel
theorem dX3_read_14 : decode cX3_read 14 = .ok (.iload_n 2, 1) := by decide +kernel
theorem dX3_read_15 : decode cX3_read 15 = .ok (.invokevirtual 90, 3) := by decide +kernel
theorem dX3_read_18 : decode cX3_read 18 = .ok (.ifCond .ne 6, 3) := by decide +kernel
theorem dX3_read_21 : decode cX3_read 21 = .ok (.ldc 58, 2) := by decide +kernel
theorem dX3_read_23 : decode cX3_read 23 = .ok (.istore_n 3, 1) := by decide +kernel
theorem dX3_read_24 : decode cX3_read 24 = .ok (.iload_n 3, 1) := by decide +kernel
theorem dX3_read_25 : decode cX3_read 25 = .ok (.ifCond .eq 9, 3) := by decide +kernel
theorem dX3_read_28 : decode cX3_read 28 = .ok (.aload_n 0, 1) := by decide +kernel
theorem dX3_read_29 : decode cX3_read 29 = .ok (.iload_n 3, 1) := by decide +kernel
theorem dX3_read_30 : decode cX3_read 30 = .ok (.invokevirtual 59, 3) := by decide +kernel
theorem dX3_read_33 : decode cX3_read 33 = .ok (.ireturn, 1) := by decide +kernel
theorem dX3_read_34 : decode cX3_read 34 = .ok (.iconst 0, 1) := by decide +kernel
theorem dX3_read_35 : decode cX3_read 35 = .ok (.istore 4, 2) := by decide +kernel
theorem dX3_read_37 : decode cX3_read 37 = .ok (.iconst 0, 1) := by decide +kernel
theorem dX3_read_38 : decode cX3_read 38 = .ok (.istore 5, 2) := by decide +kernel
theorem dX3_read_40 : decode cX3_read 40 = .ok (.iload 5, 2) := by decide +kernel
theorem dX3_read_42 : decode cX3_read 42 = .ok (.iconst 5, 1) := by decide +kernel
theorem dX3_read_43 : decode cX3_read 43 = .ok (.if_icmp .gt 73, 3) := by decide +kernel
theorem dX3_read_46 : decode cX3_read 46 = .ok (.iconst 1, 1) := by decide +kernel
theorem dX3_read_47 : decode cX3_read 47 = .ok (.istore 6, 2) := by decide +kernel
theorem dX3_read_49 : decode cX3_read 49 = .ok (.iload 6, 2) := by decide +kernel
theorem dX3_read_51 : decode cX3_read 51 = .ok (.bipush 10, 2) := by decide +kernel
theorem dX3_read_53 : decode cX3_read 53 = .ok (.if_icmp .gt 57, 3) := by decide +kernel
theorem dX3_read_56 : decode cX3_read 56 = .ok (.aload_n 0, 1) := by decide +kernel
theorem dX3_read_57 : decode cX3_read 57 = .ok (.getfield 16, 3) := by decide +kernel
theorem dX3_read_60 : decode cX3_read 60 = .ok (.aload_n 0, 1) := by decide +kernel
theorem dX3_read_61 : decode cX3_read 61 = .ok (.getfield 10, 3) := by decide +kernel
theorem dX3_read_64 : decode cX3_read 64 = .ok (.invokevirtual 151, 3) := by decide +kernel
theorem dX3_read_67 : decode cX3_read 67 = .ok (.aload_n 0, 1) := by decide +kernel
theorem dX3_read_68 : decode cX3_read 68 = .ok (.getfield 16, 3) := by decide +kernel
theorem dX3_read_71 : decode cX3_read 71 = .ok (.getfield 94, 3) := by decide +kernel
theorem dX3_read_74 : decode cX3_read 74 = .ok (.iload_n 2, 1) := by decide +kernel
theorem dX3_read_75 : decode cX3_read 75 = .ok (.iload 5, 2) := by decide +kernel
theorem dX3_read_77 : decode cX3_read 77 = .ok (.iastore, 1) := by decide +kernel
theorem dX3_read_78 : decode cX3_read 78 = .ok (.aload_n 0, 1) := by decide +kernel
theorem dX3_read_79 : decode cX3_read 79 = .ok (.getfield 16, 3) := by decide +kernel
theorem dX3_read_82 : decode cX3_read 82 = .ok (.iload 6, 2) := by decide +kernel
theorem dX3_read_84 : decode cX3_read 84 = .ok (.putfield 52, 3) := by decide +kernel
theorem dX3_read_87 : decode cX3_read 87 = .ok (.aload_n 0, 1) := by decide +kernel
theorem dX3_read_88 : decode cX3_read 88 = .ok (.aload_n 0, 1) := by decide +kernel
theorem dX3_read_89 : decode cX3_read 89 = .ok (.getfield 35, 3) := by decide +kernel
theorem dX3_read_92 : decode cX3_read 92 = .ok (.iload_n 1, 1) := by decide +kernel
theorem dX3_read_93 : decode cX3_read 93 = .ok (.aaload, 1) := by decide +kernel
theorem dX3_read_94 : decode cX3_read 94 = .ok (.iload_n 2, 1) := by decide +kernel
theorem dX3_read_95 : decode cX3_read 95 = .ok (.invokevirtual 212, 3) := by decide +kernel
theorem dX3_read_98 : decode cX3_read 98 = .ok (.ifCond .eq 6, 3) := by decide +kernel
theorem dX3_read_101 : decode cX3_read 101 = .ok (.iinc 4 1, 3) := by decide +kernel
theorem dX3_read_104 : decode cX3_read 104 = .ok (.iinc 6 1, 3) := by decide +kernel
theorem dX3_read_107 : decode cX3_read 107 = .ok (.goto (-58), 3) := by decide +kernel
theorem dX3_read_110 : decode cX3_read 110 = .ok (.iinc 5 1, 3) := by decide +kernel
theorem dX3_read_113 : decode cX3_read 113 = .ok (.goto (-73), 3) := by decide +kernel
theorem dX3_read_116 : decode cX3_read 116 = .ok (.iload 4, 2) := by decide +kernel
theorem dX3_read_118 : decode cX3_read 118 = .ok (.ireturn, 1) := by decide +kernel
set_option maxRecDepth 20000 in
theorem ggX3_image_X0_becomes : GoodIn wsX3_image wsX0_becomes := goodIn_r _ [8, 9, 10, 11, 12, 13, 14, 15, 16, 17, 18, 19, 20, 21, 29, 30, 31, 32, 33, 34, 35, 36, 37, 38, 39, 40, 41] (by decide +kernel) (by decide +kernel)
set_option maxRecDepth 20000 in
theorem gX3_image_X0_becomes : GoodIn wsX3_image (wsV RX3 151 RX0 yX0_becomes wsX0_becomes) := goodIn_app (goodIn_of _ (by decide +kernel)) ggX3_image_X0_becomes
theorem dX3_image_0 : decode cX3_image 0 = .ok (.aload_n 0, 1) := by decide +kernel
theorem dX3_image_1 : decode cX3_image 1 = .ok (.getfield 19, 3) := by decide +kernel
theorem dX3_image_4 : decode cX3_image 4 = .ok (.aload_n 0, 1) := by decide +kernel
theorem dX3_image_5 : decode cX3_image 5 = .ok (.getfield 10, 3) := by decide +kernel
theorem dX3_image_8 : decode cX3_image 8 = .ok (.invokevirtual 151, 3) := by decide +kernel
theorem dX3_image_11 : decode cX3_image 11 = .ok (.aload_n 0, 1) := by decide +kernel
theorem dX3_image_12 : decode cX3_image 12 = .ok (.iconst 1, 1) := by decide +kernel
theorem dX3_image_13 : decode cX3_image 13 = .ok (.putfield 22, 3) := by decide +kernel
theorem dX3_image_16 : decode cX3_image 16 = .ok (.iconst 1, 1) := by decide +kernel
theorem dX3_image_17 : decode cX3_image 17 = .ok (.ireturn, 1) := by decide +kernel
set_option maxRecDepth 20000 in
theorem ggX3_undo_X3_found : GoodIn wsX3_undo wsX3_found := goodIn_r _ [10, 11, 12, 13, 14, 9, 15, 34, 35, 36, 37, 38, 39, 40] (by decide +kernel) (by decide +kernel)
set_option maxRecDepth 20000 in
theorem gX3_undo_X3_found : GoodIn wsX3_undo (wsV RX3 59 RX3 yX3_found wsX3_found) := goodIn_app (goodIn_of _ (by decide +kernel)) ggX3_undo_X3_found
set_option maxRecDepth 20000 in
theorem ggX3_undo_X0_becomes : GoodIn wsX3_undo wsX0_becomes := goodIn_r _ [20, 21, 22, 23, 24, 25, 26, 27, 28, 29, 30, 31, 32, 33, 41, 42, 43, 44, 45, 46, 47, 48, 49, 50, 51, 52, 53] (by decide +kernel) (by decide +kernel)
set_option maxRecDepth 20000 in
theorem gX3_undo_X0_becomes : GoodIn wsX3_undo (wsV RX3 151 RX0 yX0_becomes wsX0_becomes) := goodIn_app (goodIn_of _ (by decide +kernel)) ggX3_undo_X0_becomes
theorem dX3_undo_0 : decode cX3_undo 0 = .ok (.aload_n 0, 1) := by decide +kernel
theorem dX3_undo_1 : decode cX3_undo 1 = .ok (.getfield 22, 3) := by decide +kernel
theorem dX3_undo_4 : decode cX3_undo 4 = .ok (.ifCond .ne 10, 3) := by decide +kernel
theorem dX3_undo_7 : decode cX3_undo 7 = .ok (.aload_n 0, 1) := by decide +kernel
theorem dX3_undo_8 : decode cX3_undo 8 = .ok (.ldc 167, 2) := by decide +kernel
theorem dX3_undo_10 : decode cX3_undo 10 = .ok (.invokevirtual 59, 3) := by decide +kernel
theorem dX3_undo_13 : decode cX3_undo 13 = .ok (.ireturn, 1) := by decide +kernel
theorem dX3_undo_14 : decode cX3_undo 14 = .ok (.aload_n 0, 1) := by decide +kernel
theorem dX3_undo_15 : decode cX3_undo 15 = .ok (.getfield 10, 3) := by decide +kernel
theorem dX3_undo_18 : decode cX3_undo 18 = .ok (.aload_n 0, 1) := by decide +kernel
theorem dX3_undo_19 : decode cX3_undo 19 = .ok (.getfield 19, 3) := by decide +kernel
theorem dX3_undo_22 : decode cX3_undo 22 = .ok (.invokevirtual 151, 3) := by decide +kernel
theorem dX3_undo_25 : decode cX3_undo 25 = .ok (.aload_n 0, 1) := by decide +kernel
theorem dX3_undo_26 : decode cX3_undo 26 = .ok (.getfield 10, 3) := by decide +kernel
theorem dX3_undo_29 : decode cX3_undo 29 = .ok (.getfield 82, 3) := by decide +kernel
theorem dX3_undo_32 : decode cX3_undo 32 = .ok (.ireturn, 1) := by decide +kernel
theorem dX3_tear_0 : decode cX3_tear 0 = .ok (.aload_n 0, 1) := by decide +kernel
theorem dX3_tear_1 : decode cX3_tear 1 = .ok (.getfield 22, 3) := by decide +kernel
theorem dX3_tear_4 : decode cX3_tear 4 = .ok (.ifCond .eq 7, 3) := by decide +kernel
theorem dX3_tear_7 : decode cX3_tear 7 = .ok (.iconst 1, 1) := by decide +kernel
theorem dX3_tear_8 : decode cX3_tear 8 = .ok (.goto 4, 3) := by decide +kernel
theorem dX3_tear_11 : decode cX3_tear 11 = .ok (.iconst 0, 1) := by decide +kernel
theorem dX3_tear_12 : decode cX3_tear 12 = .ok (.istore_n 1, 1) := by decide +kernel
theorem dX3_tear_13 : decode cX3_tear 13 = .ok (.aload_n 0, 1) := by decide +kernel
theorem dX3_tear_14 : decode cX3_tear 14 = .ok (.iconst 0, 1) := by decide +kernel
theorem dX3_tear_15 : decode cX3_tear 15 = .ok (.putfield 22, 3) := by decide +kernel
theorem dX3_tear_18 : decode cX3_tear 18 = .ok (.iload_n 1, 1) := by decide +kernel
theorem dX3_tear_19 : decode cX3_tear 19 = .ok (.ireturn, 1) := by decide +kernel
set_option maxRecDepth 20000 in
theorem ggX3_count_X3_sum : GoodIn wsX3_count wsX3_sum := goodIn_r _ [11] (by decide +kernel) (by decide +kernel)
set_option maxRecDepth 20000 in
theorem gX3_count_X3_sum : GoodIn wsX3_count (va_wsS RX3 216 yX3_sum wsX3_sum) := goodIn_app (goodIn_of _ (by decide +kernel)) ggX3_count_X3_sum
set_option maxRecDepth 20000 in
theorem ggX3_count_X3_found : GoodIn wsX3_count wsX3_found := goodIn_r _ [15, 7, 16, 17, 18, 10, 19, 20, 21, 22, 23, 24, 25, 26] (by decide +kernel) (by decide +kernel)
set_option maxRecDepth 20000 in
theorem gX3_count_X3_found : GoodIn wsX3_count (wsV RX3 59 RX3 yX3_found wsX3_found) := goodIn_app (goodIn_of _ (by decide +kernel)) ggX3_count_X3_found
theorem dX3_count_0 : decode cX3_count 0 = .ok (.iload_n 1, 1) := by decide +kernel
theorem dX3_count_1 : decode cX3_count 1 = .ok (.tableswitch 83 0 3 #[31, 39, 47, 65], 31) := by decide +kernel
theorem dX3_count_32 : decode cX3_count 32 = .ok (.aload_n 0, 1) := by decide +kernel
theorem dX3_count_33 : decode cX3_count 33 = .ok (.getfield 10, 3) := by decide +kernel
theorem dX3_count_36 : decode cX3_count 36 = .ok (.getfield 82, 3) := by decide +kernel
theorem dX3_count_39 : decode cX3_count 39 = .ok (.ireturn, 1) := by decide +kernel
theorem dX3_count_40 : decode cX3_count 40 = .ok (.aload_n 0, 1) := by decide +kernel
theorem dX3_count_41 : decode cX3_count 41 = .ok (.getfield 29, 3) := by decide +kernel
theorem dX3_count_44 : decode cX3_count 44 = .ok (.getfield 171, 3) := by decide +kernel
theorem dX3_count_47 : decode cX3_count 47 = .ok (.ireturn, 1) := by decide +kernel
theorem dX3_count_48 : decode cX3_count 48 = .ok (.aload_n 0, 1) := by decide +kernel
theorem dX3_count_49 : decode cX3_count 49 = .ok (.getfield 10, 3) := by decide +kernel
theorem dX3_count_52 : decode cX3_count 52 = .ok (.getfield 106, 3) := by decide +kernel
theorem dX3_count_55 : decode cX3_count 55 = .ok (.aload_n 0, 1) := by decide +kernel
theorem dX3_count_56 : decode cX3_count 56 = .ok (.getfield 10, 3) := by decide +kernel
theorem dX3_count_59 : decode cX3_count 59 = .ok (.getfield 82, 3) := by decide +kernel
theorem dX3_count_62 : decode cX3_count 62 = .ok (.invokestatic 216, 3) := by decide +kernel
theorem dX3_count_65 : decode cX3_count 65 = .ok (.ireturn, 1) := by decide +kernel
theorem dX3_count_66 : decode cX3_count 66 = .ok (.aload_n 0, 1) := by decide +kernel
theorem dX3_count_67 : decode cX3_count 67 = .ok (.getfield 10, 3) := by decide +kernel
theorem dX3_count_70 : decode cX3_count 70 = .ok (.getfield 115, 3) := by decide +kernel
theorem dX3_count_73 : decode cX3_count 73 = .ok (.aload_n 0, 1) := by decide +kernel
theorem dX3_count_74 : decode cX3_count 74 = .ok (.getfield 10, 3) := by decide +kernel
theorem dX3_count_77 : decode cX3_count 77 = .ok (.getfield 82, 3) := by decide +kernel
theorem dX3_count_80 : decode cX3_count 80 = .ok (.invokestatic 216, 3) := by decide +kernel
theorem dX3_count_83 : decode cX3_count 83 = .ok (.ireturn, 1) := by decide +kernel
theorem dX3_count_84 : decode cX3_count 84 = .ok (.aload_n 0, 1) := by decide +kernel
theorem dX3_count_85 : decode cX3_count 85 = .ok (.ldc 58, 2) := by decide +kernel
theorem dX3_count_87 : decode cX3_count 87 = .ok (.invokevirtual 59, 3) := by decide +kernel
theorem dX3_count_90 : decode cX3_count 90 = .ok (.ireturn, 1) := by decide +kernel
set_option maxRecDepth 20000 in
theorem ggX3_status_X3_within : GoodIn wsX3_status wsX3_within := goodIn_r _ [6] (by decide +kernel) (by decide +kernel)
set_option maxRecDepth 20000 in
theorem gX3_status_X3_within : GoodIn wsX3_status (va_wsS RX3 44 yX3_within wsX3_within) := goodIn_app (goodIn_of _ (by decide +kernel)) ggX3_status_X3_within
set_option maxRecDepth 20000 in
theorem ggX3_status_X3_found : GoodIn wsX3_status wsX3_found := goodIn_r _ [10, 1, 2, 3, 4, 5, 6, 14, 15, 16, 17, 18, 19, 20] (by decide +kernel) (by decide +kernel)
set_option maxRecDepth 20000 in
theorem gX3_status_X3_found : GoodIn wsX3_status (wsV RX3 59 RX3 yX3_found wsX3_found) := goodIn_app (goodIn_of _ (by decide +kernel)) ggX3_status_X3_found
set_option maxRecDepth 20000 in
theorem ggX3_status_X3_sum : GoodIn wsX3_status wsX3_sum := goodIn_r _ [13] (by decide +kernel) (by decide +kernel)
set_option maxRecDepth 20000 in
theorem gX3_status_X3_sum : GoodIn wsX3_status (va_wsS RX3 216 yX3_sum wsX3_sum) := goodIn_app (goodIn_of _ (by decide +kernel)) ggX3_status_X3_sum
theorem dX3_status_0 : decode cX3_status 0 = .ok (.iload_n 1, 1) := by decide +kernel
theorem dX3_status_1 : decode cX3_status 1 = .ok (.iconst (-1), 1) := by decide +kernel
theorem dX3_status_2 : decode cX3_status 2 = .ok (.bipush 6, 2) := by decide +kernel
theorem dX3_status_4 : decode cX3_status 4 = .ok (.invokestatic 44, 3) := by decide +kernel
theorem dX3_status_7 : decode cX3_status 7 = .ok (.ifCond .ne 10, 3) := by decide +kernel
theorem dX3_status_10 : decode cX3_status 10 = .ok (.aload_n 0, 1) := by decide +kernel
theorem dX3_status_11 : decode cX3_status 11 = .ok (.ldc 58, 2) := by decide +kernel
theorem dX3_status_13 : decode cX3_status 13 = .ok (.invokevirtual 59, 3) := by decide +kernel
theorem dX3_status_16 : decode cX3_status 16 = .ok (.ireturn, 1) := by decide +kernel
theorem dX3_status_17 : decode cX3_status 17 = .ok (.iload_n 1, 1) := by decide +kernel
theorem dX3_status_18 : decode cX3_status 18 = .ok (.iconst (-1), 1) := by decide +kernel
theorem dX3_status_19 : decode cX3_status 19 = .ok (.if_icmp .ne 15, 3) := by decide +kernel
theorem dX3_status_22 : decode cX3_status 22 = .ok (.aload_n 0, 1) := by decide +kernel
theorem dX3_status_23 : decode cX3_status 23 = .ok (.getfield 39, 3) := by decide +kernel
theorem dX3_status_26 : decode cX3_status 26 = .ok (.bipush 7, 2) := by decide +kernel
theorem dX3_status_28 : decode cX3_status 28 = .ok (.invokestatic 216, 3) := by decide +kernel
theorem dX3_status_31 : decode cX3_status 31 = .ok (.goto 9, 3) := by decide +kernel
theorem dX3_status_34 : decode cX3_status 34 = .ok (.aload_n 0, 1) := by decide +kernel
theorem dX3_status_35 : decode cX3_status 35 = .ok (.getfield 39, 3) := by decide +kernel
theorem dX3_status_38 : decode cX3_status 38 = .ok (.iload_n 1, 1) := by decide +kernel
theorem dX3_status_39 : decode cX3_status 39 = .ok (.iaload, 1) := by decide +kernel
theorem dX3_status_40 : decode cX3_status 40 = .ok (.ireturn, 1) := by decide +kernel
set_option maxRecDepth 20000 in
theorem ggX3_found_X3_within : GoodIn wsX3_found wsX3_within := goodIn_r _ [6] (by decide +kernel) (by decide +kernel)
set_option maxRecDepth 20000 in
theorem gX3_found_X3_within : GoodIn wsX3_found (va_wsS RX3 44 yX3_within wsX3_within) := goodIn_app (goodIn_of _ (by decide +kernel)) ggX3_found_X3_within
theorem dX3_found_0 : decode cX3_found 0 = .ok (.ldc 58, 2) := by decide +kernel
theorem dX3_found_2 : decode cX3_found 2 = .ok (.iload_n 1, 1) := by decide +kernel
theorem dX3_found_3 : decode cX3_found 3 = .ok (.isub, 1) := by decide +kernel
theorem dX3_found_4 : decode cX3_found 4 = .ok (.istore_n 2, 1) := by decide +kernel
theorem dX3_found_5 : decode cX3_found 5 = .ok (.iload_n 2, 1) := by decide +kernel
theorem dX3_found_6 : decode cX3_found 6 = .ok (.iconst 0, 1) := by decide +kernel
theorem dX3_found_7 : decode cX3_found 7 = .ok (.bipush 6, 2) := by decide +kernel
theorem dX3_found_9 : decode cX3_found 9 = .ok (.invokestatic 44, 3) := by decide +kernel
theorem dX3_found_12 : decode cX3_found 12 = .ok (.ifCond .eq 13, 3) := by decide +kernel
theorem dX3_found_15 : decode cX3_found 15 = .ok (.aload_n 0, 1) := by decide +kernel
theorem dX3_found_16 : decode cX3_found 16 = .ok (.getfield 39, 3) := by decide +kernel
theorem dX3_found_19 : decode cX3_found 19 = .ok (.iload_n 2, 1) := by decide +kernel
theorem dX3_found_20 : decode cX3_found 20 = .ok (.dup2, 1) := by decide +kernel
theorem dX3_found_21 : decode cX3_found 21 = .ok (.iaload, 1) := by decide +kernel
theorem dX3_found_22 : decode cX3_found 22 = .ok (.iconst 1, 1) := by decide +kernel
theorem dX3_found_23 : decode cX3_found 23 = .ok (.iadd, 1) := by decide +kernel
theorem dX3_found_24 : decode cX3_found 24 = .ok (.iastore, 1) := by decide +kernel
theorem dX3_found_25 : decode cX3_found 25 = .ok (.iload_n 1, 1) := by decide +kernel
theorem dX3_found_26 : decode cX3_found 26 = .ok (.ireturn, 1) := by decide +kernel
set_option maxRecDepth 20000 in
theorem ggX3_orNone_X3_found : GoodIn wsX3_orNone wsX3_found := goodIn_r _ [6, 7, 8, 9, 10, 5, 11, 12, 13, 14, 15, 16, 17, 18] (by decide +kernel) (by decide +kernel)
set_option maxRecDepth 20000 in
theorem gX3_orNone_X3_found : GoodIn wsX3_orNone (wsV RX3 59 RX3 yX3_found wsX3_found) := goodIn_app (goodIn_of _ (by decide +kernel)) ggX3_orNone_X3_found
theorem dX3_orNone_0 : decode cX3_orNone 0 = .ok (.iload_n 1, 1) := by decide +kernel
theorem dX3_orNone_1 : decode cX3_orNone 1 = .ok (.ldc 167, 2) := by decide +kernel
theorem dX3_orNone_3 : decode cX3_orNone 3 = .ok (.if_icmp .ne 12, 3) := by decide +kernel
theorem dX3_orNone_6 : decode cX3_orNone 6 = .ok (.aload_n 0, 1) := by decide +kernel
theorem dX3_orNone_7 : decode cX3_orNone 7 = .ok (.ldc 167, 2) := by decide +kernel
theorem dX3_orNone_9 : decode cX3_orNone 9 = .ok (.invokevirtual 59, 3) := by decide +kernel
theorem dX3_orNone_12 : decode cX3_orNone 12 = .ok (.goto 4, 3) := by decide +kernel
theorem dX3_orNone_15 : decode cX3_orNone 15 = .ok (.iload_n 1, 1) := by decide +kernel
theorem dX3_orNone_16 : decode cX3_orNone 16 = .ok (.ireturn, 1) := by decide +kernel
theorem dX3_within_0 : decode cX3_within 0 = .ok (.iload_n 0, 1) := by decide +kernel
theorem dX3_within_1 : decode cX3_within 1 = .ok (.iload_n 1, 1) := by decide +kernel
theorem dX3_within_2 : decode cX3_within 2 = .ok (.if_icmp .lt 12, 3) := by decide +kernel
theorem dX3_within_5 : decode cX3_within 5 = .ok (.iload_n 0, 1) := by decide +kernel
theorem dX3_within_6 : decode cX3_within 6 = .ok (.iload_n 2, 1) := by decide +kernel
theorem dX3_within_7 : decode cX3_within 7 = .ok (.if_icmp .gt 7, 3) := by decide +kernel
theorem dX3_within_10 : decode cX3_within 10 = .ok (.iconst 1, 1) := by decide +kernel
theorem dX3_within_11 : decode cX3_within 11 = .ok (.goto 4, 3) := by decide +kernel
theorem dX3_within_14 : decode cX3_within 14 = .ok (.iconst 0, 1) := by decide +kernel
theorem dX3_within_15 : decode cX3_within 15 = .ok (.ireturn, 1) := by decide +kernel
theorem dX3_sum_0 : decode cX3_sum 0 = .ok (.iconst 0, 1) := by decide +kernel
theorem dX3_sum_1 : decode cX3_sum 1 = .ok (.istore_n 2, 1) := by decide +kernel
theorem dX3_sum_2 : decode cX3_sum 2 = .ok (.iconst 0, 1) := by decide +kernel
theorem dX3_sum_3 : decode cX3_sum 3 = .ok (.istore_n 3, 1) := by decide +kernel
theorem dX3_sum_4 : decode cX3_sum 4 = .ok (.iload_n 3, 1) := by decide +kernel
theorem dX3_sum_5 : decode cX3_sum 5 = .ok (.iload_n 1, 1) := by decide +kernel
theorem dX3_sum_6 : decode cX3_sum 6 = .ok (.if_icmp .ge 21, 3) := by decide +kernel
theorem dX3_sum_9 : decode cX3_sum 9 = .ok (.iload_n 3, 1) := by decide +kernel
theorem dX3_sum_10 : decode cX3_sum 10 = .ok (.aload_n 0, 1) := by decide +kernel
theorem dX3_sum_11 : decode cX3_sum 11 = .ok (.arraylength, 1) := by decide +kernel
theorem dX3_sum_12 : decode cX3_sum 12 = .ok (.if_icmp .ge 15, 3) := by decide +kernel
theorem dX3_sum_15 : decode cX3_sum 15 = .ok (.iload_n 2, 1) := by decide +kernel
theorem dX3_sum_16 : decode cX3_sum 16 = .ok (.aload_n 0, 1) := by decide +kernel
theorem dX3_sum_17 : decode cX3_sum 17 = .ok (.iload_n 3, 1) := by decide +kernel
theorem dX3_sum_18 : decode cX3_sum 18 = .ok (.iaload, 1) := by decide +kernel
theorem dX3_sum_19 : decode cX3_sum 19 = .ok (.iadd, 1) := by decide +kernel
theorem dX3_sum_20 : decode cX3_sum 20 = .ok (.istore_n 2, 1) := by decide +kernel
theorem dX3_sum_21 : decode cX3_sum 21 = .ok (.iinc 3 1, 3) := by decide +kernel
theorem dX3_sum_24 : decode cX3_sum 24 = .ok (.goto (-20), 3) := by decide +kernel
theorem dX3_sum_27 : decode cX3_sum 27 = .ok (.iload_n 2, 1) := by decide +kernel
theorem dX3_sum_28 : decode cX3_sum 28 = .ok (.ireturn, 1) := by decide +kernel
set_option maxRecDepth 20000 in
theorem ggX3_isOfKind_X3_within : GoodIn wsX3_isOfKind wsX3_within := goodIn_r _ [5] (by decide +kernel) (by decide +kernel)
set_option maxRecDepth 20000 in
theorem gX3_isOfKind_X3_within : GoodIn wsX3_isOfKind (va_wsS RX3 44 yX3_within wsX3_within) := goodIn_app (goodIn_of _ (by decide +kernel)) ggX3_isOfKind_X3_within
theorem dX3_isOfKind_0 : decode cX3_isOfKind 0 = .ok (.iload_n 0, 1) := by decide +kernel
theorem dX3_isOfKind_1 : decode cX3_isOfKind 1 = .ok (.istore_n 2, 1) := by decide +kernel
theorem dX3_isOfKind_2 : decode cX3_isOfKind 2 = .ok (.iconst 0, 1) := by decide +kernel
theorem dX3_isOfKind_3 : decode cX3_isOfKind 3 = .ok (.istore_n 3, 1) := by decide +kernel
theorem dX3_isOfKind_4 : decode cX3_isOfKind 4 = .ok (.iload_n 3, 1) := by decide +kernel
theorem dX3_isOfKind_5 : decode cX3_isOfKind 5 = .ok (.iconst 5, 1) := by decide +kernel
theorem dX3_isOfKind_6 : decode cX3_isOfKind 6 = .ok (.if_icmp .gt 31, 3) := by decide +kernel
theorem dX3_isOfKind_9 : decode cX3_isOfKind 9 = .ok (.iload_n 2, 1) := by decide +kernel
theorem dX3_isOfKind_10 : decode cX3_isOfKind 10 = .ok (.iconst 0, 1) := by decide +kernel
theorem dX3_isOfKind_11 : decode cX3_isOfKind 11 = .ok (.iconst 5, 1) := by decide +kernel
theorem dX3_isOfKind_12 : decode cX3_isOfKind 12 = .ok (.invokestatic 44, 3) := by decide +kernel
theorem dX3_isOfKind_15 : decode cX3_isOfKind 15 = .ok (.ifCond .eq 22, 3) := by decide +kernel
theorem dX3_isOfKind_18 : decode cX3_isOfKind 18 = .ok (.iload_n 2, 1) := by decide +kernel
theorem dX3_isOfKind_19 : decode cX3_isOfKind 19 = .ok (.iload_n 1, 1) := by decide +kernel
theorem dX3_isOfKind_20 : decode cX3_isOfKind 20 = .ok (.if_icmp .ne 5, 3) := by decide +kernel
theorem dX3_isOfKind_23 : decode cX3_isOfKind 23 = .ok (.iconst 1, 1) := by decide +kernel
theorem dX3_isOfKind_24 : decode cX3_isOfKind 24 = .ok (.ireturn, 1) := by decide +kernel
theorem dX3_isOfKind_25 : decode cX3_isOfKind 25 = .ok (.getstatic 220, 3) := by decide +kernel
theorem dX3_isOfKind_28 : decode cX3_isOfKind 28 = .ok (.iload_n 2, 1) := by decide +kernel
theorem dX3_isOfKind_29 : decode cX3_isOfKind 29 = .ok (.iaload, 1) := by decide +kernel
theorem dX3_isOfKind_30 : decode cX3_isOfKind 30 = .ok (.istore_n 2, 1) := by decide +kernel
theorem dX3_isOfKind_31 : decode cX3_isOfKind 31 = .ok (.iinc 3 1, 3) := by decide +kernel
theorem dX3_isOfKind_34 : decode cX3_isOfKind 34 = .ok (.goto (-30), 3) := by decide +kernel
theorem dX3_isOfKind_37 : decode cX3_isOfKind 37 = .ok (.iconst 0, 1) := by decide +kernel
theorem dX3_isOfKind_38 : decode cX3_isOfKind 38 = .ok (.ireturn, 1) := by decide +kernel
theorem dX3_rowToSet_0 : decode cX3_rowToSet 0 = .ok (.iload_n 1, 1) := by decide +kernel
theorem dX3_rowToSet_1 : decode cX3_rowToSet 1 = .ok (.tableswitch 71 2 7 #[39, 71, 47, 55, 71, 63], 39) := by decide +kernel
theorem dX3_rowToSet_40 : decode cX3_rowToSet 40 = .ok (.aload_n 0, 1) := by decide +kernel
theorem dX3_rowToSet_41 : decode cX3_rowToSet 41 = .ok (.getfield 10, 3) := by decide +kernel
theorem dX3_rowToSet_44 : decode cX3_rowToSet 44 = .ok (.getfield 100, 3) := by decide +kernel
theorem dX3_rowToSet_47 : decode cX3_rowToSet 47 = .ok (.areturn, 1) := by decide +kernel
theorem dX3_rowToSet_48 : decode cX3_rowToSet 48 = .ok (.aload_n 0, 1) := by decide +kernel
theorem dX3_rowToSet_49 : decode cX3_rowToSet 49 = .ok (.getfield 10, 3) := by decide +kernel
theorem dX3_rowToSet_52 : decode cX3_rowToSet 52 = .ok (.getfield 106, 3) := by decide +kernel
theorem dX3_rowToSet_55 : decode cX3_rowToSet 55 = .ok (.areturn, 1) := by decide +kernel
theorem dX3_rowToSet_56 : decode cX3_rowToSet 56 = .ok (.aload_n 0, 1) := by decide +kernel
theorem dX3_rowToSet_57 : decode cX3_rowToSet 57 = .ok (.getfield 10, 3) := by decide +kernel
theorem dX3_rowToSet_60 : decode cX3_rowToSet 60 = .ok (.getfield 109, 3) := by decide +kernel
theorem dX3_rowToSet_63 : decode cX3_rowToSet 63 = .ok (.areturn, 1) := by decide +kernel
theorem dX3_rowToSet_64 : decode cX3_rowToSet 64 = .ok (.aload_n 0, 1) := by decide +kernel
theorem dX3_rowToSet_65 : decode cX3_rowToSet 65 = .ok (.getfield 10, 3) := by decide +kernel
theorem dX3_rowToSet_68 : decode cX3_rowToSet 68 = .ok (.getfield 115, 3) := by decide +kernel
theorem dX3_rowToSet_71 : decode cX3_rowToSet 71 = .ok (.areturn, 1) := by decide +kernel
theorem dX3_rowToSet_72 : decode cX3_rowToSet 72 = .ok (.aconst_null, 1) := by decide +kernel
theorem dX3_rowToSet_73 : decode cX3_rowToSet 73 = .ok (.areturn, 1) := by decide +kernel
theorem dX3_mostToSet_0 : decode cX3_mostToSet 0 = .ok (.iload_n 0, 1) := by decide +kernel
theorem dX3_mostToSet_1 : decode cX3_mostToSet 1 = .ok (.tableswitch 52 2 7 #[39, 52, 42, 45, 52, 48], 39) := by decide +kernel
theorem dX3_mostToSet_40 : decode cX3_mostToSet 40 = .ok (.bipush 9, 2) := by decide +kernel
theorem dX3_mostToSet_42 : decode cX3_mostToSet 42 = .ok (.ireturn, 1) := by decide +kernel
theorem dX3_mostToSet_43 : decode cX3_mostToSet 43 = .ok (.bipush 99, 2) := by decide +kernel
theorem dX3_mostToSet_45 : decode cX3_mostToSet 45 = .ok (.ireturn, 1) := by decide +kernel
theorem dX3_mostToSet_46 : decode cX3_mostToSet 46 = .ok (.bipush 59, 2) := by decide +kernel
theorem dX3_mostToSet_48 : decode cX3_mostToSet 48 = .ok (.ireturn, 1) := by decide +kernel
theorem dX3_mostToSet_49 : decode cX3_mostToSet 49 = .ok (.sipush 9999, 3) := by decide +kernel
theorem dX3_mostToSet_52 : decode cX3_mostToSet 52 = .ok (.ireturn, 1) := by decide +kernel
theorem dX3_mostToSet_53 : decode cX3_mostToSet 53 = .ok (.iconst (-1), 1) := by decide +kernel
theorem dX3_mostToSet_54 : decode cX3_mostToSet 54 = .ok (.ireturn, 1) := by decide +kernel
set_option maxRecDepth 20000 in
theorem ggX3_secondsUntil_X0_isSo : GoodIn wsX3_secondsUntil wsX0_isSo := goodIn_r _ [7, 8, 9, 10, 11, 12, 13, 6, 14, 15, 16, 17, 18, 19, 20, 102, 103, 104, 105, 106, 107, 108, 109, 110, 111, 112, 113, 114] (by decide +kernel) (by decide +kernel)
set_option maxRecDepth 20000 in
theorem gX3_secondsUntil_X0_isSo : GoodIn wsX3_secondsUntil (wsV RX3 223 RX0 yX0_isSo wsX0_isSo) := goodIn_app (goodIn_of _ (by decide +kernel)) ggX3_secondsUntil_X0_isSo
set_option maxRecDepth 20000 in
theorem ggX3_secondsUntil_X0_goSeconds : GoodIn wsX3_secondsUntil wsX0_goSeconds := goodIn_r _ [24, 15, 25, 26, 27, 28, 29, 30, 6, 31, 32, 9, 20, 33, 34, 35, 36, 37, 38, 39, 40, 41, 8, 10, 42, 43, 44, 45, 46, 47, 48, 49, 50, 51, 52, 53, 54, 55, 56, 57, 58, 59, 60, 61, 62, 63, 64, 65, 11, 12, 13, 14, 66, 67, 68, 69, 70, 71, 72, 73, 74, 75, 76, 77, 78, 79, 80, 81, 82, 83, 84, 85, 86, 87, 88, 89, 90, 91, 92, 93, 94, 102, 103, 104, 105, 106, 107, 108, 109, 110, 111, 112, 113, 114] (by decide +kernel) (by decide +kernel)
set_option maxRecDepth 20000 in
theorem gX3_secondsUntil_X0_goSeconds : GoodIn wsX3_secondsUntil (wsV RX3 148 RX0 yX0_goSeconds wsX0_goSeconds) := goodIn_app (goodIn_of _ (by decide +kernel)) ggX3_secondsUntil_X0_goSeconds
theorem dX3_secondsUntil_0 : decode cX3_secondsUntil 0 = .ok (.iconst 0, 1) := by decide +kernel
theorem dX3_secondsUntil_1 : decode cX3_secondsUntil 1 = .ok (.istore 4, 2) := by decide +kernel
theorem dX3_secondsUntil_3 : decode cX3_secondsUntil 3 = .ok (.iload 4, 2) := by decide +kernel
theorem dX3_secondsUntil_5 : decode cX3_secondsUntil 5 = .ok (.iload_n 3, 1) := by decide +kernel
theorem dX3_secondsUntil_6 : decode cX3_secondsUntil 6 = .ok (.if_icmp .gt 32, 3) := by decide +kernel
theorem dX3_secondsUntil_9 : decode cX3_secondsUntil 9 = .ok (.aload_n 0, 1) := by decide +kernel
theorem dX3_secondsUntil_10 : decode cX3_secondsUntil 10 = .ok (.getfield 16, 3) := by decide +kernel
theorem dX3_secondsUntil_13 : decode cX3_secondsUntil 13 = .ok (.iload_n 1, 1) := by decide +kernel
theorem dX3_secondsUntil_14 : decode cX3_secondsUntil 14 = .ok (.iload_n 2, 1) := by decide +kernel
theorem dX3_secondsUntil_15 : decode cX3_secondsUntil 15 = .ok (.invokevirtual 223, 3) := by decide +kernel
theorem dX3_secondsUntil_18 : decode cX3_secondsUntil 18 = .ok (.ifCond .eq 6, 3) := by decide +kernel
theorem dX3_secondsUntil_21 : decode cX3_secondsUntil 21 = .ok (.iload 4, 2) := by decide +kernel
theorem dX3_secondsUntil_23 : decode cX3_secondsUntil 23 = .ok (.ireturn, 1) := by decide +kernel
theorem dX3_secondsUntil_24 : decode cX3_secondsUntil 24 = .ok (.aload_n 0, 1) := by decide +kernel
theorem dX3_secondsUntil_25 : decode cX3_secondsUntil 25 = .ok (.getfield 16, 3) := by decide +kernel
theorem dX3_secondsUntil_28 : decode cX3_secondsUntil 28 = .ok (.iconst 1, 1) := by decide +kernel
theorem dX3_secondsUntil_29 : decode cX3_secondsUntil 29 = .ok (.invokevirtual 148, 3) := by decide +kernel
theorem dX3_secondsUntil_32 : decode cX3_secondsUntil 32 = .ok (.iinc 4 1, 3) := by decide +kernel
theorem dX3_secondsUntil_35 : decode cX3_secondsUntil 35 = .ok (.goto (-32), 3) := by decide +kernel
theorem dX3_secondsUntil_38 : decode cX3_secondsUntil 38 = .ok (.ldc 167, 2) := by decide +kernel
theorem dX3_secondsUntil_40 : decode cX3_secondsUntil 40 = .ok (.ireturn, 1) := by decide +kernel
set_option maxRecDepth 20000 in
theorem ggX3_lostWithout_X0_becomes : GoodIn wsX3_lostWithout wsX0_becomes := goodIn_r _ [8, 9, 10, 11, 12, 13, 14, 15, 16, 17, 18, 19, 20, 21, 101, 102, 103, 104, 105, 106, 107, 108, 109, 110, 111, 112, 113] (by decide +kernel) (by decide +kernel)
set_option maxRecDepth 20000 in
theorem gX3_lostWithout_X0_becomes : GoodIn wsX3_lostWithout (wsV RX3 151 RX0 yX0_becomes wsX0_becomes) := goodIn_app (goodIn_of _ (by decide +kernel)) ggX3_lostWithout_X0_becomes
set_option maxRecDepth 20000 in
theorem ggX3_lostWithout_X0_goOff : GoodIn wsX3_lostWithout wsX0_goOff := goodIn_r _ [25, 14, 17, 10, 101, 102, 103, 104, 105, 106, 107, 108, 109, 110, 111, 112, 113] (by decide +kernel) (by decide +kernel)
set_option maxRecDepth 20000 in
theorem gX3_lostWithout_X0_goOff : GoodIn wsX3_lostWithout (wsV RX3 144 RX0 yX0_goOff wsX0_goOff) := goodIn_app (goodIn_of _ (by decide +kernel)) ggX3_lostWithout_X0_goOff
set_option maxRecDepth 20000 in
theorem ggX3_lostWithout_X0_goSeconds : GoodIn wsX3_lostWithout wsX0_goSeconds := goodIn_r _ [29, 14, 11, 10, 9, 30, 31, 32, 7, 33, 13, 17, 15, 34, 35, 36, 37, 38, 39, 40, 41, 16, 19, 20, 42, 23, 24, 25, 43, 44, 45, 46, 47, 48, 49, 50, 51, 52, 53, 54, 55, 56, 57, 18, 58, 59, 60, 61, 62, 63, 64, 65, 66, 67, 68, 69, 70, 71, 72, 73, 12, 74, 75, 76, 77, 78, 79, 80, 81, 21, 82, 83, 84, 85, 86, 87, 88, 89, 90, 91, 92, 101, 102, 103, 104, 105, 106, 107, 108, 109, 110, 111, 112, 113] (by decide +kernel) (by decide +kernel)
set_option maxRecDepth 20000 in
theorem gX3_lostWithout_X0_goSeconds : GoodIn wsX3_lostWithout (wsV RX3 148 RX0 yX0_goSeconds wsX0_goSeconds) := goodIn_app (goodIn_of _ (by decide +kernel)) ggX3_lostWithout_X0_goSeconds
set_option maxRecDepth 20000 in
theorem ggX3_lostWithout_J6_bitCount_0f7a4 : GoodIn wsX3_lostWithout wsJ6_bitCount_0f7a4 := goodIn_r _ [50, 51, 52, 53] (by decide +kernel) (by decide +kernel)
set_option maxRecDepth 20000 in
theorem gX3_lostWithout_J6_bitCount_0f7a4 : GoodIn wsX3_lostWithout (va_wsS RX3 155 yJ6_bitCount_0f7a4 wsJ6_bitCount_0f7a4) := goodIn_app (goodIn_of _ (by decide +kernel)) ggX3_lostWithout_J6_bitCount_0f7a4
theorem dX3_lostWithout_0 : decode cX3_lostWithout 0 = .ok (.aload_n 0, 1) := by decide +kernel
theorem dX3_lostWithout_1 : decode cX3_lostWithout 1 = .ok (.getfield 16, 3) := by decide +kernel
theorem dX3_lostWithout_4 : decode cX3_lostWithout 4 = .ok (.aload_n 0, 1) := by decide +kernel
theorem dX3_lostWithout_5 : decode cX3_lostWithout 5 = .ok (.getfield 10, 3) := by decide +kernel
theorem dX3_lostWithout_8 : decode cX3_lostWithout 8 = .ok (.invokevirtual 151, 3) := by decide +kernel
theorem dX3_lostWithout_11 : decode cX3_lostWithout 11 = .ok (.aload_n 0, 1) := by decide +kernel
theorem dX3_lostWithout_12 : decode cX3_lostWithout 12 = .ok (.getfield 16, 3) := by decide +kernel
theorem dX3_lostWithout_15 : decode cX3_lostWithout 15 = .ok (.iload_n 1, 1) := by decide +kernel
theorem dX3_lostWithout_16 : decode cX3_lostWithout 16 = .ok (.invokevirtual 144, 3) := by decide +kernel
theorem dX3_lostWithout_19 : decode cX3_lostWithout 19 = .ok (.aload_n 0, 1) := by decide +kernel
theorem dX3_lostWithout_20 : decode cX3_lostWithout 20 = .ok (.getfield 16, 3) := by decide +kernel
theorem dX3_lostWithout_23 : decode cX3_lostWithout 23 = .ok (.iload_n 2, 1) := by decide +kernel
theorem dX3_lostWithout_24 : decode cX3_lostWithout 24 = .ok (.invokevirtual 148, 3) := by decide +kernel
theorem dX3_lostWithout_27 : decode cX3_lostWithout 27 = .ok (.aload_n 0, 1) := by decide +kernel
theorem dX3_lostWithout_28 : decode cX3_lostWithout 28 = .ok (.getfield 16, 3) := by decide +kernel
theorem dX3_lostWithout_31 : decode cX3_lostWithout 31 = .ok (.getfield 69, 3) := by decide +kernel
theorem dX3_lostWithout_34 : decode cX3_lostWithout 34 = .ok (.invokestatic 155, 3) := by decide +kernel
theorem dX3_lostWithout_37 : decode cX3_lostWithout 37 = .ok (.ireturn, 1) := by decide +kernel
set_option maxRecDepth 20000 in
theorem ggX3_findingOfSheet_X3_within : GoodIn wsX3_findingOfSheet wsX3_within := goodIn_r _ [8] (by decide +kernel) (by decide +kernel)
set_option maxRecDepth 20000 in
theorem gX3_findingOfSheet_X3_within : GoodIn wsX3_findingOfSheet (va_wsS RX3 44 yX3_within wsX3_within) := goodIn_app (goodIn_of _ (by decide +kernel)) ggX3_findingOfSheet_X3_within
theorem dX3_findingOfSheet_0 : decode cX3_findingOfSheet 0 = .ok (.iload_n 1, 1) := by decide +kernel
theorem dX3_findingOfSheet_1 : decode cX3_findingOfSheet 1 = .ok (.iconst 0, 1) := by decide +kernel
theorem dX3_findingOfSheet_2 : decode cX3_findingOfSheet 2 = .ok (.iconst 3, 1) := by decide +kernel
theorem dX3_findingOfSheet_3 : decode cX3_findingOfSheet 3 = .ok (.invokestatic 44, 3) := by decide +kernel
theorem dX3_findingOfSheet_6 : decode cX3_findingOfSheet 6 = .ok (.ifCond .ne 6, 3) := by decide +kernel
theorem dX3_findingOfSheet_9 : decode cX3_findingOfSheet 9 = .ok (.ldc 58, 2) := by decide +kernel
theorem dX3_findingOfSheet_11 : decode cX3_findingOfSheet 11 = .ok (.ireturn, 1) := by decide +kernel
theorem dX3_findingOfSheet_12 : decode cX3_findingOfSheet 12 = .ok (.aload_n 0, 1) := by decide +kernel
theorem dX3_findingOfSheet_13 : decode cX3_findingOfSheet 13 = .ok (.getfield 35, 3) := by decide +kernel
theorem dX3_findingOfSheet_16 : decode cX3_findingOfSheet 16 = .ok (.iload_n 1, 1) := by decide +kernel
theorem dX3_findingOfSheet_17 : decode cX3_findingOfSheet 17 = .ok (.aaload, 1) := by decide +kernel
theorem dX3_findingOfSheet_18 : decode cX3_findingOfSheet 18 = .ok (.getfield 197, 3) := by decide +kernel
theorem dX3_findingOfSheet_21 : decode cX3_findingOfSheet 21 = .ok (.ifCond .ne 8, 3) := by decide +kernel
theorem dX3_findingOfSheet_24 : decode cX3_findingOfSheet 24 = .ok (.ldc 200, 2) := by decide +kernel
theorem dX3_findingOfSheet_26 : decode cX3_findingOfSheet 26 = .ok (.goto 4, 3) := by decide +kernel
theorem dX3_findingOfSheet_29 : decode cX3_findingOfSheet 29 = .ok (.iconst 0, 1) := by decide +kernel
theorem dX3_findingOfSheet_30 : decode cX3_findingOfSheet 30 = .ok (.ireturn, 1) := by decide +kernel
set_option maxRecDepth 20000 in
theorem ggX3_goesAsBooked_X0_goSeconds : GoodIn wsX3_goesAsBooked wsX0_goSeconds := goodIn_r _ [9, 10, 11, 12, 13, 14, 15, 16, 8, 17, 18, 19, 20, 21, 22, 23, 24, 25, 26, 27, 28, 29, 30, 31, 32, 33, 34, 35, 36, 37, 38, 39, 40, 41, 42, 43, 44, 45, 46, 47, 48, 49, 50, 51, 52, 53, 54, 55, 56, 57, 58, 59, 60, 61, 62, 63, 64, 65, 66, 67, 68, 69, 70, 71, 72, 73, 74, 75, 76, 77, 78, 79, 80, 81, 82, 83, 84, 85, 86, 87, 88, 99, 100, 101, 102, 103, 104, 105, 106, 107, 108, 109, 110, 111] (by decide +kernel) (by decide +kernel)
set_option maxRecDepth 20000 in
theorem gX3_goesAsBooked_X0_goSeconds : GoodIn wsX3_goesAsBooked (wsV RX3 148 RX0 yX0_goSeconds wsX0_goSeconds) := goodIn_app (goodIn_of _ (by decide +kernel)) ggX3_goesAsBooked_X0_goSeconds
theorem dX3_goesAsBooked_0 : decode cX3_goesAsBooked 0 = .ok (.iconst 0, 1) := by decide +kernel
theorem dX3_goesAsBooked_1 : decode cX3_goesAsBooked 1 = .ok (.istore_n 3, 1) := by decide +kernel
theorem dX3_goesAsBooked_2 : decode cX3_goesAsBooked 2 = .ok (.iload_n 3, 1) := by decide +kernel
theorem dX3_goesAsBooked_3 : decode cX3_goesAsBooked 3 = .ok (.aload_n 1, 1) := by decide +kernel
theorem dX3_goesAsBooked_4 : decode cX3_goesAsBooked 4 = .ok (.getfield 185, 3) := by decide +kernel
theorem dX3_goesAsBooked_7 : decode cX3_goesAsBooked 7 = .ok (.if_icmp .ge 39, 3) := by decide +kernel
theorem dX3_goesAsBooked_10 : decode cX3_goesAsBooked 10 = .ok (.aload_n 1, 1) := by decide +kernel
theorem dX3_goesAsBooked_11 : decode cX3_goesAsBooked 11 = .ok (.getfield 189, 3) := by decide +kernel
theorem dX3_goesAsBooked_14 : decode cX3_goesAsBooked 14 = .ok (.iload_n 3, 1) := by decide +kernel
theorem dX3_goesAsBooked_15 : decode cX3_goesAsBooked 15 = .ok (.laload, 1) := by decide +kernel
theorem dX3_goesAsBooked_16 : decode cX3_goesAsBooked 16 = .ok (.aload_n 0, 1) := by decide +kernel
theorem dX3_goesAsBooked_17 : decode cX3_goesAsBooked 17 = .ok (.getfield 16, 3) := by decide +kernel
theorem dX3_goesAsBooked_20 : decode cX3_goesAsBooked 20 = .ok (.getfield 97, 3) := by decide +kernel
theorem dX3_goesAsBooked_23 : decode cX3_goesAsBooked 23 = .ok (.iload_n 2, 1) := by decide +kernel
theorem dX3_goesAsBooked_24 : decode cX3_goesAsBooked 24 = .ok (.iaload, 1) := by decide +kernel
theorem dX3_goesAsBooked_25 : decode cX3_goesAsBooked 25 = .ok (.i2l, 1) := by decide +kernel
theorem dX3_goesAsBooked_26 : decode cX3_goesAsBooked 26 = .ok (.lcmp, 1) := by decide +kernel
theorem dX3_goesAsBooked_27 : decode cX3_goesAsBooked 27 = .ok (.ifCond .eq 5, 3) := by decide +kernel
theorem dX3_goesAsBooked_30 : decode cX3_goesAsBooked 30 = .ok (.iconst 0, 1) := by decide +kernel
theorem dX3_goesAsBooked_31 : decode cX3_goesAsBooked 31 = .ok (.ireturn, 1) := by decide +kernel
theorem dX3_goesAsBooked_32 : decode cX3_goesAsBooked 32 = .ok (.aload_n 0, 1) := by decide +kernel
theorem dX3_goesAsBooked_33 : decode cX3_goesAsBooked 33 = .ok (.getfield 16, 3) := by decide +kernel
theorem dX3_goesAsBooked_36 : decode cX3_goesAsBooked 36 = .ok (.iconst 1, 1) := by decide +kernel
theorem dX3_goesAsBooked_37 : decode cX3_goesAsBooked 37 = .ok (.invokevirtual 148, 3) := by decide +kernel
theorem dX3_goesAsBooked_40 : decode cX3_goesAsBooked 40 = .ok (.iinc 3 1, 3) := by decide +kernel
theorem dX3_goesAsBooked_43 : decode cX3_goesAsBooked 43 = .ok (.goto (-41), 3) := by decide +kernel
theorem dX3_goesAsBooked_46 : decode cX3_goesAsBooked 46 = .ok (.iconst 1, 1) := by decide +kernel
theorem dX3_goesAsBooked_47 : decode cX3_goesAsBooked 47 = .ok (.ireturn, 1) := by decide +kernel
