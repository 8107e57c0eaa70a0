theorem dX2_init_0 : decode cX2_init 0 = .ok (.aload_n 0, 1) := by decide +kernel
theorem dX2_init_1 : decode cX2_init 1 = .ok (.invokespecial 3, 3) := by decide +kernel
theorem dX2_init_4 : decode cX2_init 4 = .ok (.aload_n 0, 1) := by decide +kernel
theorem dX2_init_5 : decode cX2_init 5 = .ok (.bipush 120, 2) := by decide +kernel
theorem dX2_init_7 : decode cX2_init 7 = .ok (.newarray .byte, 2) := by decide +kernel
theorem dX2_init_9 : decode cX2_init 9 = .ok (.putfield 9, 3) := by decide +kernel
theorem dX2_init_12 : decode cX2_init 12 = .ok (.aload_n 0, 1) := by decide +kernel
theorem dX2_init_13 : decode cX2_init 13 = .ok (.iconst 0, 1) := by decide +kernel
theorem dX2_init_14 : decode cX2_init 14 = .ok (.putfield 15, 3) := by decide +kernel
theorem dX2_init_17 : decode cX2_init 17 = .ok (.aload_n 0, 1) := by decide +kernel
theorem dX2_init_18 : decode cX2_init 18 = .ok (.bipush 121, 2) := by decide +kernel
theorem dX2_init_20 : decode cX2_init 20 = .ok (.newarray .int, 2) := by decide +kernel
theorem dX2_init_22 : decode cX2_init 22 = .ok (.putfield 19, 3) := by decide +kernel
theorem dX2_init_25 : decode cX2_init 25 = .ok (.aload_n 0, 1) := by decide +kernel
theorem dX2_init_26 : decode cX2_init 26 = .ok (.bipush 121, 2) := by decide +kernel
theorem dX2_init_28 : decode cX2_init 28 = .ok (.newarray .int, 2) := by decide +kernel
theorem dX2_init_30 : decode cX2_init 30 = .ok (.putfield 23, 3) := by decide +kernel
theorem dX2_init_33 : decode cX2_init 33 = .ok (.aload_n 0, 1) := by decide +kernel
theorem dX2_init_34 : decode cX2_init 34 = .ok (.bipush 121, 2) := by decide +kernel
theorem dX2_init_36 : decode cX2_init 36 = .ok (.newarray .int, 2) := by decide +kernel
theorem dX2_init_38 : decode cX2_init 38 = .ok (.putfield 26, 3) := by decide +kernel
theorem dX2_init_41 : decode cX2_init 41 = .ok (.aload_n 0, 1) := by decide +kernel
theorem dX2_init_42 : decode cX2_init 42 = .ok (.iconst 0, 1) := by decide +kernel
theorem dX2_init_43 : decode cX2_init 43 = .ok (.putfield 29, 3) := by decide +kernel
theorem dX2_init_46 : decode cX2_init 46 = .ok (.aload_n 0, 1) := by decide +kernel
theorem dX2_init_47 : decode cX2_init 47 = .ok (.iconst 0, 1) := by decide +kernel
theorem dX2_init_48 : decode cX2_init 48 = .ok (.putfield 32, 3) := by decide +kernel
theorem dX2_init_51 : decode cX2_init 51 = .ok (.return_, 1) := by decide +kernel
theorem dX2_append_0 : decode cX2_append 0 = .ok (.aload_n 0, 1) := by decide +kernel
theorem dX2_append_1 : decode cX2_append 1 = .ok (.getfield 9, 3) := by decide +kernel
theorem dX2_append_4 : decode cX2_append 4 = .ok (.aload_n 0, 1) := by decide +kernel
theorem dX2_append_5 : decode cX2_append 5 = .ok (.getfield 15, 3) := by decide +kernel
theorem dX2_append_8 : decode cX2_append 8 = .ok (.iload_n 1, 1) := by decide +kernel
theorem dX2_append_9 : decode cX2_append 9 = .ok (.bastore, 1) := by decide +kernel
theorem dX2_append_10 : decode cX2_append 10 = .ok (.aload_n 0, 1) := by decide +kernel
theorem dX2_append_11 : decode cX2_append 11 = .ok (.dup, 1) := by decide +kernel
theorem dX2_append_12 : decode cX2_append 12 = .ok (.getfield 15, 3) := by decide +kernel
theorem dX2_append_15 : decode cX2_append 15 = .ok (.iconst 1, 1) := by decide +kernel
theorem dX2_append_16 : decode cX2_append 16 = .ok (.iadd, 1) := by decide +kernel
theorem dX2_append_17 : decode cX2_append 17 = .ok (.putfield 15, 3) := by decide +kernel
theorem dX2_append_20 : decode cX2_append 20 = .ok (.return_, 1) := by decide +kernel
set_option maxRecDepth 20000 in
theorem ggX2_tell_X2_cutTokens : GoodIn wsX2_tell wsX2_cutTokens := goodIn_r _ [8, 9, 10, 2, 3, 11, 12, 13, 7, 14, 15, 16, 17, 18, 19, 20, 21, 22, 23, 24, 25, 26, 27, 28, 29, 30, 31, 32, 33, 34, 35, 36, 37, 38, 39, 40, 41, 42, 43, 44, 45, 46, 47, 48, 49, 50, 51, 52, 53, 54, 55, 56, 57, 58, 59, 60, 61, 62, 63, 64, 65, 66, 67, 68, 69, 70, 71, 72, 73, 74, 75, 76, 77, 78, 79, 80, 81, 82, 83, 84, 85, 86, 87, 88, 89, 129, 130, 131, 132, 133, 134, 135] (by decide +kernel) (by decide +kernel)
set_option maxRecDepth 20000 in
theorem gX2_tell_X2_cutTokens : GoodIn wsX2_tell (wsV RX2 35 RX2 yX2_cutTokens wsX2_cutTokens) := goodIn_app (goodIn_of _ (by decide +kernel)) ggX2_tell_X2_cutTokens
set_option maxRecDepth 20000 in
theorem ggX2_tell_X2_tellItem : GoodIn wsX2_tell wsX2_tellItem := goodIn_r _ [93, 2, 1, 15, 94, 95, 96, 97, 98, 99, 100, 7, 101, 102, 103, 104, 105, 106, 107, 108, 109, 110, 111, 112, 113, 114, 115, 116, 117, 118, 119, 120, 121, 122, 123, 124, 125, 126, 127, 128, 129, 130, 131, 132, 133, 134, 135, 136, 137, 138, 139, 140, 141, 142, 143, 144, 145, 146, 147, 148] (by decide +kernel) (by decide +kernel)
set_option maxRecDepth 20000 in
theorem gX2_tell_X2_tellItem : GoodIn wsX2_tell (wsV RX2 38 RX2 yX2_tellItem wsX2_tellItem) := goodIn_app (goodIn_of _ (by decide +kernel)) ggX2_tell_X2_tellItem
theorem dX2_tell_0 : decode cX2_tell 0 = .ok (.aload_n 0, 1) := by decide +kernel
theorem dX2_tell_1 : decode cX2_tell 1 = .ok (.invokevirtual 35, 3) := by decide +kernel
theorem dX2_tell_4 : decode cX2_tell 4 = .ok (.aload_n 0, 1) := by decide +kernel
theorem dX2_tell_5 : decode cX2_tell 5 = .ok (.iconst 0, 1) := by decide +kernel
theorem dX2_tell_6 : decode cX2_tell 6 = .ok (.putfield 29, 3) := by decide +kernel
theorem dX2_tell_9 : decode cX2_tell 9 = .ok (.iconst 1, 1) := by decide +kernel
theorem dX2_tell_10 : decode cX2_tell 10 = .ok (.istore_n 2, 1) := by decide +kernel
theorem dX2_tell_11 : decode cX2_tell 11 = .ok (.iload_n 2, 1) := by decide +kernel
theorem dX2_tell_12 : decode cX2_tell 12 = .ok (.bipush 120, 2) := by decide +kernel
theorem dX2_tell_14 : decode cX2_tell 14 = .ok (.if_icmp .gt 57, 3) := by decide +kernel
theorem dX2_tell_17 : decode cX2_tell 17 = .ok (.aload_n 0, 1) := by decide +kernel
theorem dX2_tell_18 : decode cX2_tell 18 = .ok (.aload_n 1, 1) := by decide +kernel
theorem dX2_tell_19 : decode cX2_tell 19 = .ok (.invokevirtual 38, 3) := by decide +kernel
theorem dX2_tell_22 : decode cX2_tell 22 = .ok (.ifCond .eq 49, 3) := by decide +kernel
theorem dX2_tell_25 : decode cX2_tell 25 = .ok (.aload_n 0, 1) := by decide +kernel
theorem dX2_tell_26 : decode cX2_tell 26 = .ok (.getfield 19, 3) := by decide +kernel
theorem dX2_tell_29 : decode cX2_tell 29 = .ok (.aload_n 0, 1) := by decide +kernel
theorem dX2_tell_30 : decode cX2_tell 30 = .ok (.getfield 29, 3) := by decide +kernel
theorem dX2_tell_33 : decode cX2_tell 33 = .ok (.iaload, 1) := by decide +kernel
theorem dX2_tell_34 : decode cX2_tell 34 = .ok (.ifCond .ne 5, 3) := by decide +kernel
theorem dX2_tell_37 : decode cX2_tell 37 = .ok (.iload_n 2, 1) := by decide +kernel
theorem dX2_tell_38 : decode cX2_tell 38 = .ok (.ireturn, 1) := by decide +kernel
theorem dX2_tell_39 : decode cX2_tell 39 = .ok (.aload_n 0, 1) := by decide +kernel
theorem dX2_tell_40 : decode cX2_tell 40 = .ok (.getfield 19, 3) := by decide +kernel
theorem dX2_tell_43 : decode cX2_tell 43 = .ok (.aload_n 0, 1) := by decide +kernel
theorem dX2_tell_44 : decode cX2_tell 44 = .ok (.getfield 29, 3) := by decide +kernel
theorem dX2_tell_47 : decode cX2_tell 47 = .ok (.iaload, 1) := by decide +kernel
theorem dX2_tell_48 : decode cX2_tell 48 = .ok (.iconst 3, 1) := by decide +kernel
theorem dX2_tell_49 : decode cX2_tell 49 = .ok (.if_icmp .eq 6, 3) := by decide +kernel
theorem dX2_tell_52 : decode cX2_tell 52 = .ok (.goto 19, 3) := by decide +kernel
theorem dX2_tell_55 : decode cX2_tell 55 = .ok (.aload_n 0, 1) := by decide +kernel
theorem dX2_tell_56 : decode cX2_tell 56 = .ok (.dup, 1) := by decide +kernel
theorem dX2_tell_57 : decode cX2_tell 57 = .ok (.getfield 29, 3) := by decide +kernel
theorem dX2_tell_60 : decode cX2_tell 60 = .ok (.iconst 1, 1) := by decide +kernel
theorem dX2_tell_61 : decode cX2_tell 61 = .ok (.iadd, 1) := by decide +kernel
theorem dX2_tell_62 : decode cX2_tell 62 = .ok (.putfield 29, 3) := by decide +kernel
theorem dX2_tell_65 : decode cX2_tell 65 = .ok (.iinc 2 1, 3) := by decide +kernel
theorem dX2_tell_68 : decode cX2_tell 68 = .ok (.goto (-57), 3) := by decide +kernel
theorem dX2_tell_71 : decode cX2_tell 71 = .ok (.iconst (-1), 1) := by decide +kernel
theorem dX2_tell_72 : decode cX2_tell 72 = .ok (.aload_n 0, 1) := by decide +kernel
theorem dX2_tell_73 : decode cX2_tell 73 = .ok (.getfield 23, 3) := by decide +kernel
theorem dX2_tell_76 : decode cX2_tell 76 = .ok (.aload_n 0, 1) := by decide +kernel
theorem dX2_tell_77 : decode cX2_tell 77 = .ok (.getfield 29, 3) := by decide +kernel
theorem dX2_tell_80 : decode cX2_tell 80 = .ok (.iaload, 1) := by decide +kernel
theorem dX2_tell_81 : decode cX2_tell 81 = .ok (.isub, 1) := by decide +kernel
theorem dX2_tell_82 : decode cX2_tell 82 = .ok (.ireturn, 1) := by decide +kernel
set_option maxRecDepth 20000 in
theorem ggX2_tellItem_X2_tellThing : GoodIn wsX2_tellItem wsX2_tellThing := goodIn_r _ [12, 13, 4, 14, 15, 16, 17, 18, 19, 11, 20, 2, 1, 3, 21, 22, 23, 24, 25, 26, 27, 28, 29, 30, 31, 32, 33, 34, 35, 36, 37, 38, 39, 47, 48, 49, 50, 51, 52, 53, 54, 55, 56, 57, 58, 59, 40, 41, 42, 43, 44, 45, 46] (by decide +kernel) (by decide +kernel)
set_option maxRecDepth 20000 in
theorem gX2_tellItem_X2_tellThing : GoodIn wsX2_tellItem (wsV RX2 42 RX2 yX2_tellThing wsX2_tellThing) := goodIn_app (goodIn_of _ (by decide +kernel)) ggX2_tellItem_X2_tellThing
set_option maxRecDepth 20000 in
theorem ggX2_tellItem_X2_numberBehind : GoodIn wsX2_tellItem wsX2_numberBehind := goodIn_r _ [20, 2, 1, 3, 4, 21, 22, 23, 40, 41, 42, 43, 44, 45, 46] (by decide +kernel) (by decide +kernel)
set_option maxRecDepth 20000 in
theorem gX2_tellItem_X2_numberBehind : GoodIn wsX2_tellItem (wsV RX2 46 RX2 yX2_numberBehind wsX2_numberBehind) := goodIn_app (goodIn_of _ (by decide +kernel)) ggX2_tellItem_X2_numberBehind
theorem dX2_tellItem_0 : decode cX2_tellItem 0 = .ok (.aload_n 0, 1) := by decide +kernel
theorem dX2_tellItem_1 : decode cX2_tellItem 1 = .ok (.getfield 19, 3) := by decide +kernel
theorem dX2_tellItem_4 : decode cX2_tellItem 4 = .ok (.aload_n 0, 1) := by decide +kernel
theorem dX2_tellItem_5 : decode cX2_tellItem 5 = .ok (.getfield 29, 3) := by decide +kernel
theorem dX2_tellItem_8 : decode cX2_tellItem 8 = .ok (.iaload, 1) := by decide +kernel
theorem dX2_tellItem_9 : decode cX2_tellItem 9 = .ok (.iconst 1, 1) := by decide +kernel
theorem dX2_tellItem_10 : decode cX2_tellItem 10 = .ok (.if_icmp .eq 5, 3) := by decide +kernel
theorem dX2_tellItem_13 : decode cX2_tellItem 13 = .ok (.iconst 0, 1) := by decide +kernel
theorem dX2_tellItem_14 : decode cX2_tellItem 14 = .ok (.ireturn, 1) := by decide +kernel
theorem dX2_tellItem_15 : decode cX2_tellItem 15 = .ok (.aload_n 0, 1) := by decide +kernel
theorem dX2_tellItem_16 : decode cX2_tellItem 16 = .ok (.getfield 26, 3) := by decide +kernel
theorem dX2_tellItem_19 : decode cX2_tellItem 19 = .ok (.aload_n 0, 1) := by decide +kernel
theorem dX2_tellItem_20 : decode cX2_tellItem 20 = .ok (.getfield 29, 3) := by decide +kernel
theorem dX2_tellItem_23 : decode cX2_tellItem 23 = .ok (.iaload, 1) := by decide +kernel
theorem dX2_tellItem_24 : decode cX2_tellItem 24 = .ok (.istore_n 2, 1) := by decide +kernel
theorem dX2_tellItem_25 : decode cX2_tellItem 25 = .ok (.iload_n 2, 1) := by decide +kernel
theorem dX2_tellItem_26 : decode cX2_tellItem 26 = .ok (.iconst 5, 1) := by decide +kernel
theorem dX2_tellItem_27 : decode cX2_tellItem 27 = .ok (.if_icmp .gt 10, 3) := by decide +kernel
theorem dX2_tellItem_30 : decode cX2_tellItem 30 = .ok (.aload_n 0, 1) := by decide +kernel
theorem dX2_tellItem_31 : decode cX2_tellItem 31 = .ok (.aload_n 1, 1) := by decide +kernel
theorem dX2_tellItem_32 : decode cX2_tellItem 32 = .ok (.iload_n 2, 1) := by decide +kernel
theorem dX2_tellItem_33 : decode cX2_tellItem 33 = .ok (.invokevirtual 42, 3) := by decide +kernel
theorem dX2_tellItem_36 : decode cX2_tellItem 36 = .ok (.ireturn, 1) := by decide +kernel
theorem dX2_tellItem_37 : decode cX2_tellItem 37 = .ok (.iload_n 2, 1) := by decide +kernel
theorem dX2_tellItem_38 : decode cX2_tellItem 38 = .ok (.bipush 6, 2) := by decide +kernel
theorem dX2_tellItem_40 : decode cX2_tellItem 40 = .ok (.if_icmp .ne 23, 3) := by decide +kernel
theorem dX2_tellItem_43 : decode cX2_tellItem 43 = .ok (.aload_n 0, 1) := by decide +kernel
theorem dX2_tellItem_44 : decode cX2_tellItem 44 = .ok (.iconst 0, 1) := by decide +kernel
theorem dX2_tellItem_45 : decode cX2_tellItem 45 = .ok (.bipush 59, 2) := by decide +kernel
theorem dX2_tellItem_47 : decode cX2_tellItem 47 = .ok (.invokevirtual 46, 3) := by decide +kernel
theorem dX2_tellItem_50 : decode cX2_tellItem 50 = .ok (.ifCond .eq 13, 3) := by decide +kernel
theorem dX2_tellItem_53 : decode cX2_tellItem 53 = .ok (.aload_n 1, 1) := by decide +kernel
theorem dX2_tellItem_54 : decode cX2_tellItem 54 = .ok (.aload_n 0, 1) := by decide +kernel
theorem dX2_tellItem_55 : decode cX2_tellItem 55 = .ok (.getfield 32, 3) := by decide +kernel
theorem dX2_tellItem_58 : decode cX2_tellItem 58 = .ok (.putfield 50, 3) := by decide +kernel
theorem dX2_tellItem_61 : decode cX2_tellItem 61 = .ok (.iconst 1, 1) := by decide +kernel
theorem dX2_tellItem_62 : decode cX2_tellItem 62 = .ok (.ireturn, 1) := by decide +kernel
theorem dX2_tellItem_63 : decode cX2_tellItem 63 = .ok (.iload_n 2, 1) := by decide +kernel
theorem dX2_tellItem_64 : decode cX2_tellItem 64 = .ok (.bipush 7, 2) := by decide +kernel
theorem dX2_tellItem_66 : decode cX2_tellItem 66 = .ok (.if_icmp .ne 23, 3) := by decide +kernel
theorem dX2_tellItem_69 : decode cX2_tellItem 69 = .ok (.aload_n 0, 1) := by decide +kernel
theorem dX2_tellItem_70 : decode cX2_tellItem 70 = .ok (.iconst 1, 1) := by decide +kernel
theorem dX2_tellItem_71 : decode cX2_tellItem 71 = .ok (.bipush 10, 2) := by decide +kernel
theorem dX2_tellItem_73 : decode cX2_tellItem 73 = .ok (.invokevirtual 46, 3) := by decide +kernel
theorem dX2_tellItem_76 : decode cX2_tellItem 76 = .ok (.ifCond .eq 13, 3) := by decide +kernel
theorem dX2_tellItem_79 : decode cX2_tellItem 79 = .ok (.aload_n 1, 1) := by decide +kernel
theorem dX2_tellItem_80 : decode cX2_tellItem 80 = .ok (.aload_n 0, 1) := by decide +kernel
theorem dX2_tellItem_81 : decode cX2_tellItem 81 = .ok (.getfield 32, 3) := by decide +kernel
theorem dX2_tellItem_84 : decode cX2_tellItem 84 = .ok (.putfield 55, 3) := by decide +kernel
theorem dX2_tellItem_87 : decode cX2_tellItem 87 = .ok (.iconst 1, 1) := by decide +kernel
theorem dX2_tellItem_88 : decode cX2_tellItem 88 = .ok (.ireturn, 1) := by decide +kernel
theorem dX2_tellItem_89 : decode cX2_tellItem 89 = .ok (.iload_n 2, 1) := by decide +kernel
theorem dX2_tellItem_90 : decode cX2_tellItem 90 = .ok (.bipush 8, 2) := by decide +kernel
theorem dX2_tellItem_92 : decode cX2_tellItem 92 = .ok (.if_icmp .ne 23, 3) := by decide +kernel
theorem dX2_tellItem_95 : decode cX2_tellItem 95 = .ok (.aload_n 0, 1) := by decide +kernel
theorem dX2_tellItem_96 : decode cX2_tellItem 96 = .ok (.iconst 1, 1) := by decide +kernel
theorem dX2_tellItem_97 : decode cX2_tellItem 97 = .ok (.bipush 40, 2) := by decide +kernel
theorem dX2_tellItem_99 : decode cX2_tellItem 99 = .ok (.invokevirtual 46, 3) := by decide +kernel
theorem dX2_tellItem_102 : decode cX2_tellItem 102 = .ok (.ifCond .eq 13, 3) := by decide +kernel
theorem dX2_tellItem_105 : decode cX2_tellItem 105 = .ok (.aload_n 1, 1) := by decide +kernel
theorem dX2_tellItem_106 : decode cX2_tellItem 106 = .ok (.aload_n 0, 1) := by decide +kernel
theorem dX2_tellItem_107 : decode cX2_tellItem 107 = .ok (.getfield 32, 3) := by decide +kernel
theorem dX2_tellItem_110 : decode cX2_tellItem 110 = .ok (.putfield 58, 3) := by decide +kernel
theorem dX2_tellItem_113 : decode cX2_tellItem 113 = .ok (.iconst 1, 1) := by decide +kernel
theorem dX2_tellItem_114 : decode cX2_tellItem 114 = .ok (.ireturn, 1) := by decide +kernel
theorem dX2_tellItem_115 : decode cX2_tellItem 115 = .ok (.iconst 0, 1) := by decide +kernel
theorem dX2_tellItem_116 : decode cX2_tellItem 116 = .ok (.ireturn, 1) := by decide +kernel
set_option maxRecDepth 20000 in
theorem ggX2_tellThing_X2_numberBehind : GoodIn wsX2_tellThing wsX2_numberBehind := goodIn_r _ [10, 11, 12, 13, 2, 14, 15, 16, 46, 47, 48, 49, 50, 51, 52] (by decide +kernel) (by decide +kernel)
set_option maxRecDepth 20000 in
theorem gX2_tellThing_X2_numberBehind : GoodIn wsX2_tellThing (wsV RX2 46 RX2 yX2_numberBehind wsX2_numberBehind) := goodIn_app (goodIn_of _ (by decide +kernel)) ggX2_tellThing_X2_numberBehind
set_option maxRecDepth 20000 in
theorem ggX2_tellThing_X0_add : GoodIn wsX2_tellThing wsX0_add := goodIn_r _ [21, 22, 23, 24, 25, 26, 27, 28, 33, 34, 35, 36, 37, 38, 39, 40, 41, 42, 43, 44, 45] (by decide +kernel) (by decide +kernel)
set_option maxRecDepth 20000 in
theorem gX2_tellThing_X0_add : GoodIn wsX2_tellThing (wsV RX2 62 RX0 yX0_add wsX0_add) := goodIn_app (goodIn_of _ (by decide +kernel)) ggX2_tellThing_X0_add
set_option maxRecDepth 20000 in
theorem ggX2_tellThing_X2_tellPart : GoodIn wsX2_tellThing wsX2_tellPart := goodIn_r _ [32, 12, 11, 13, 2, 6, 7, 8, 9, 10, 14, 15, 16, 46, 47, 48, 49, 50, 51, 52] (by decide +kernel) (by decide +kernel)
set_option maxRecDepth 20000 in
theorem gX2_tellThing_X2_tellPart : GoodIn wsX2_tellThing (wsV RX2 69 RX2 yX2_tellPart wsX2_tellPart) := goodIn_app (goodIn_of _ (by decide +kernel)) ggX2_tellThing_X2_tellPart
theorem dX2_tellThing_0 : decode cX2_tellThing 0 = .ok (.aload_n 1, 1) := by decide +kernel
theorem dX2_tellThing_1 : decode cX2_tellThing 1 = .ok (.getfield 61, 3) := by decide +kernel
theorem dX2_tellThing_4 : decode cX2_tellThing 4 = .ok (.bipush 8, 2) := by decide +kernel
theorem dX2_tellThing_6 : decode cX2_tellThing 6 = .ok (.if_icmp .ge 13, 3) := by decide +kernel
theorem dX2_tellThing_9 : decode cX2_tellThing 9 = .ok (.aload_n 0, 1) := by decide +kernel
theorem dX2_tellThing_10 : decode cX2_tellThing 10 = .ok (.iconst 0, 1) := by decide +kernel
theorem dX2_tellThing_11 : decode cX2_tellThing 11 = .ok (.bipush 59, 2) := by decide +kernel
theorem dX2_tellThing_13 : decode cX2_tellThing 13 = .ok (.invokevirtual 46, 3) := by decide +kernel
theorem dX2_tellThing_16 : decode cX2_tellThing 16 = .ok (.ifCond .ne 5, 3) := by decide +kernel
theorem dX2_tellThing_19 : decode cX2_tellThing 19 = .ok (.iconst 0, 1) := by decide +kernel
theorem dX2_tellThing_20 : decode cX2_tellThing 20 = .ok (.ireturn, 1) := by decide +kernel
theorem dX2_tellThing_21 : decode cX2_tellThing 21 = .ok (.aload_n 1, 1) := by decide +kernel
theorem dX2_tellThing_22 : decode cX2_tellThing 22 = .ok (.iload_n 2, 1) := by decide +kernel
theorem dX2_tellThing_23 : decode cX2_tellThing 23 = .ok (.aload_n 0, 1) := by decide +kernel
theorem dX2_tellThing_24 : decode cX2_tellThing 24 = .ok (.getfield 32, 3) := by decide +kernel
theorem dX2_tellThing_27 : decode cX2_tellThing 27 = .ok (.invokevirtual 62, 3) := by decide +kernel
theorem dX2_tellThing_30 : decode cX2_tellThing 30 = .ok (.istore_n 3, 1) := by decide +kernel
theorem dX2_tellThing_31 : decode cX2_tellThing 31 = .ok (.aload_n 0, 1) := by decide +kernel
theorem dX2_tellThing_32 : decode cX2_tellThing 32 = .ok (.bipush 9, 2) := by decide +kernel
theorem dX2_tellThing_34 : decode cX2_tellThing 34 = .ok (.bipush 9, 2) := by decide +kernel
theorem dX2_tellThing_36 : decode cX2_tellThing 36 = .ok (.aload_n 1, 1) := by decide +kernel
theorem dX2_tellThing_37 : decode cX2_tellThing 37 = .ok (.getfield 66, 3) := by decide +kernel
theorem dX2_tellThing_40 : decode cX2_tellThing 40 = .ok (.iload_n 3, 1) := by decide +kernel
theorem dX2_tellThing_41 : decode cX2_tellThing 41 = .ok (.invokevirtual 69, 3) := by decide +kernel
theorem dX2_tellThing_44 : decode cX2_tellThing 44 = .ok (.ifCond .eq 39, 3) := by decide +kernel
theorem dX2_tellThing_47 : decode cX2_tellThing 47 = .ok (.aload_n 0, 1) := by decide +kernel
theorem dX2_tellThing_48 : decode cX2_tellThing 48 = .ok (.bipush 10, 2) := by decide +kernel
theorem dX2_tellThing_50 : decode cX2_tellThing 50 = .ok (.bipush 99, 2) := by decide +kernel
theorem dX2_tellThing_52 : decode cX2_tellThing 52 = .ok (.aload_n 1, 1) := by decide +kernel
theorem dX2_tellThing_53 : decode cX2_tellThing 53 = .ok (.getfield 73, 3) := by decide +kernel
theorem dX2_tellThing_56 : decode cX2_tellThing 56 = .ok (.iload_n 3, 1) := by decide +kernel
theorem dX2_tellThing_57 : decode cX2_tellThing 57 = .ok (.invokevirtual 69, 3) := by decide +kernel
theorem dX2_tellThing_60 : decode cX2_tellThing 60 = .ok (.ifCond .eq 23, 3) := by decide +kernel
theorem dX2_tellThing_63 : decode cX2_tellThing 63 = .ok (.aload_n 0, 1) := by decide +kernel
theorem dX2_tellThing_64 : decode cX2_tellThing 64 = .ok (.bipush 11, 2) := by decide +kernel
theorem dX2_tellThing_66 : decode cX2_tellThing 66 = .ok (.bipush 59, 2) := by decide +kernel
theorem dX2_tellThing_68 : decode cX2_tellThing 68 = .ok (.aload_n 1, 1) := by decide +kernel
theorem dX2_tellThing_69 : decode cX2_tellThing 69 = .ok (.getfield 76, 3) := by decide +kernel
theorem dX2_tellThing_72 : decode cX2_tellThing 72 = .ok (.iload_n 3, 1) := by decide +kernel
theorem dX2_tellThing_73 : decode cX2_tellThing 73 = .ok (.invokevirtual 69, 3) := by decide +kernel
theorem dX2_tellThing_76 : decode cX2_tellThing 76 = .ok (.ifCond .eq 7, 3) := by decide +kernel
theorem dX2_tellThing_79 : decode cX2_tellThing 79 = .ok (.iconst 1, 1) := by decide +kernel
theorem dX2_tellThing_80 : decode cX2_tellThing 80 = .ok (.goto 4, 3) := by decide +kernel
theorem dX2_tellThing_83 : decode cX2_tellThing 83 = .ok (.iconst 0, 1) := by decide +kernel
theorem dX2_tellThing_84 : decode cX2_tellThing 84 = .ok (.ireturn, 1) := by decide +kernel
set_option maxRecDepth 20000 in
theorem ggX2_tellPart_X2_numberBehind : GoodIn wsX2_tellPart wsX2_numberBehind := goodIn_r _ [9, 2, 1, 3, 4, 10, 11, 12, 13, 14, 15, 16, 17, 18, 19] (by decide +kernel) (by decide +kernel)
set_option maxRecDepth 20000 in
theorem gX2_tellPart_X2_numberBehind : GoodIn wsX2_tellPart (wsV RX2 46 RX2 yX2_numberBehind wsX2_numberBehind) := goodIn_app (goodIn_of _ (by decide +kernel)) ggX2_tellPart_X2_numberBehind
theorem dX2_tellPart_0 : decode cX2_tellPart 0 = .ok (.aload_n 0, 1) := by decide +kernel
theorem dX2_tellPart_1 : decode cX2_tellPart 1 = .ok (.getfield 19, 3) := by decide +kernel
theorem dX2_tellPart_4 : decode cX2_tellPart 4 = .ok (.aload_n 0, 1) := by decide +kernel
theorem dX2_tellPart_5 : decode cX2_tellPart 5 = .ok (.getfield 29, 3) := by decide +kernel
theorem dX2_tellPart_8 : decode cX2_tellPart 8 = .ok (.iaload, 1) := by decide +kernel
theorem dX2_tellPart_9 : decode cX2_tellPart 9 = .ok (.iconst 1, 1) := by decide +kernel
theorem dX2_tellPart_10 : decode cX2_tellPart 10 = .ok (.if_icmp .ne 16, 3) := by decide +kernel
theorem dX2_tellPart_13 : decode cX2_tellPart 13 = .ok (.aload_n 0, 1) := by decide +kernel
theorem dX2_tellPart_14 : decode cX2_tellPart 14 = .ok (.getfield 26, 3) := by decide +kernel
theorem dX2_tellPart_17 : decode cX2_tellPart 17 = .ok (.aload_n 0, 1) := by decide +kernel
theorem dX2_tellPart_18 : decode cX2_tellPart 18 = .ok (.getfield 29, 3) := by decide +kernel
theorem dX2_tellPart_21 : decode cX2_tellPart 21 = .ok (.iaload, 1) := by decide +kernel
theorem dX2_tellPart_22 : decode cX2_tellPart 22 = .ok (.iload_n 1, 1) := by decide +kernel
theorem dX2_tellPart_23 : decode cX2_tellPart 23 = .ok (.if_icmp .eq 5, 3) := by decide +kernel
theorem dX2_tellPart_26 : decode cX2_tellPart 26 = .ok (.iconst 1, 1) := by decide +kernel
theorem dX2_tellPart_27 : decode cX2_tellPart 27 = .ok (.ireturn, 1) := by decide +kernel
theorem dX2_tellPart_28 : decode cX2_tellPart 28 = .ok (.aload_n 0, 1) := by decide +kernel
theorem dX2_tellPart_29 : decode cX2_tellPart 29 = .ok (.iconst 0, 1) := by decide +kernel
theorem dX2_tellPart_30 : decode cX2_tellPart 30 = .ok (.iload_n 2, 1) := by decide +kernel
theorem dX2_tellPart_31 : decode cX2_tellPart 31 = .ok (.invokevirtual 46, 3) := by decide +kernel
theorem dX2_tellPart_34 : decode cX2_tellPart 34 = .ok (.ifCond .ne 5, 3) := by decide +kernel
theorem dX2_tellPart_37 : decode cX2_tellPart 37 = .ok (.iconst 0, 1) := by decide +kernel
theorem dX2_tellPart_38 : decode cX2_tellPart 38 = .ok (.ireturn, 1) := by decide +kernel
theorem dX2_tellPart_39 : decode cX2_tellPart 39 = .ok (.aload_n 3, 1) := by decide +kernel
theorem dX2_tellPart_40 : decode cX2_tellPart 40 = .ok (.iload 4, 2) := by decide +kernel
theorem dX2_tellPart_42 : decode cX2_tellPart 42 = .ok (.aload_n 0, 1) := by decide +kernel
theorem dX2_tellPart_43 : decode cX2_tellPart 43 = .ok (.getfield 32, 3) := by decide +kernel
theorem dX2_tellPart_46 : decode cX2_tellPart 46 = .ok (.iastore, 1) := by decide +kernel
theorem dX2_tellPart_47 : decode cX2_tellPart 47 = .ok (.iconst 1, 1) := by decide +kernel
theorem dX2_tellPart_48 : decode cX2_tellPart 48 = .ok (.ireturn, 1) := by decide +kernel
set_option maxRecDepth 20000 in
theorem ggX2_numberBehind_X3_within : GoodIn wsX2_numberBehind wsX3_within := goodIn_r _ [7] (by decide +kernel) (by decide +kernel)
set_option maxRecDepth 20000 in
theorem gX2_numberBehind_X3_within_n79 : GoodIn wsX2_numberBehind (wsX3_within) := ggX2_numberBehind_X3_within
theorem dX2_numberBehind_0 : decode cX2_numberBehind 0 = .ok (.aload_n 0, 1) := by decide +kernel
theorem dX2_numberBehind_1 : decode cX2_numberBehind 1 = .ok (.dup, 1) := by decide +kernel
theorem dX2_numberBehind_2 : decode cX2_numberBehind 2 = .ok (.getfield 29, 3) := by decide +kernel
theorem dX2_numberBehind_5 : decode cX2_numberBehind 5 = .ok (.iconst 1, 1) := by decide +kernel
theorem dX2_numberBehind_6 : decode cX2_numberBehind 6 = .ok (.iadd, 1) := by decide +kernel
theorem dX2_numberBehind_7 : decode cX2_numberBehind 7 = .ok (.putfield 29, 3) := by decide +kernel
theorem dX2_numberBehind_10 : decode cX2_numberBehind 10 = .ok (.aload_n 0, 1) := by decide +kernel
theorem dX2_numberBehind_11 : decode cX2_numberBehind 11 = .ok (.getfield 19, 3) := by decide +kernel
theorem dX2_numberBehind_14 : decode cX2_numberBehind 14 = .ok (.aload_n 0, 1) := by decide +kernel
theorem dX2_numberBehind_15 : decode cX2_numberBehind 15 = .ok (.getfield 29, 3) := by decide +kernel
theorem dX2_numberBehind_18 : decode cX2_numberBehind 18 = .ok (.iaload, 1) := by decide +kernel
theorem dX2_numberBehind_19 : decode cX2_numberBehind 19 = .ok (.iconst 2, 1) := by decide +kernel
theorem dX2_numberBehind_20 : decode cX2_numberBehind 20 = .ok (.if_icmp .ne 20, 3) := by decide +kernel
theorem dX2_numberBehind_23 : decode cX2_numberBehind 23 = .ok (.aload_n 0, 1) := by decide +kernel
theorem dX2_numberBehind_24 : decode cX2_numberBehind 24 = .ok (.getfield 26, 3) := by decide +kernel
theorem dX2_numberBehind_27 : decode cX2_numberBehind 27 = .ok (.aload_n 0, 1) := by decide +kernel
theorem dX2_numberBehind_28 : decode cX2_numberBehind 28 = .ok (.getfield 29, 3) := by decide +kernel
theorem dX2_numberBehind_31 : decode cX2_numberBehind 31 = .ok (.iaload, 1) := by decide +kernel
theorem dX2_numberBehind_32 : decode cX2_numberBehind 32 = .ok (.iload_n 1, 1) := by decide +kernel
theorem dX2_numberBehind_33 : decode cX2_numberBehind 33 = .ok (.iload_n 2, 1) := by decide +kernel
theorem dX2_numberBehind_34 : decode cX2_numberBehind 34 = .ok (.invokestatic 79, 3) := by decide +kernel
theorem dX2_numberBehind_37 : decode cX2_numberBehind 37 = .ok (.ifCond .ne 5, 3) := by decide +kernel
theorem dX2_numberBehind_40 : decode cX2_numberBehind 40 = .ok (.iconst 0, 1) := by decide +kernel
theorem dX2_numberBehind_41 : decode cX2_numberBehind 41 = .ok (.ireturn, 1) := by decide +kernel
theorem dX2_numberBehind_42 : decode cX2_numberBehind 42 = .ok (.aload_n 0, 1) := by decide +kernel
theorem dX2_numberBehind_43 : decode cX2_numberBehind 43 = .ok (.aload_n 0, 1) := by decide +kernel
theorem dX2_numberBehind_44 : decode cX2_numberBehind 44 = .ok (.getfield 26, 3) := by decide +kernel
theorem dX2_numberBehind_47 : decode cX2_numberBehind 47 = .ok (.aload_n 0, 1) := by decide +kernel
theorem dX2_numberBehind_48 : decode cX2_numberBehind 48 = .ok (.getfield 29, 3) := by decide +kernel
theorem dX2_numberBehind_51 : decode cX2_numberBehind 51 = .ok (.iaload, 1) := by decide +kernel
theorem dX2_numberBehind_52 : decode cX2_numberBehind 52 = .ok (.putfield 32, 3) := by decide +kernel
theorem dX2_numberBehind_55 : decode cX2_numberBehind 55 = .ok (.aload_n 0, 1) := by decide +kernel
theorem dX2_numberBehind_56 : decode cX2_numberBehind 56 = .ok (.dup, 1) := by decide +kernel
theorem dX2_numberBehind_57 : decode cX2_numberBehind 57 = .ok (.getfield 29, 3) := by decide +kernel
theorem dX2_numberBehind_60 : decode cX2_numberBehind 60 = .ok (.iconst 1, 1) := by decide +kernel
theorem dX2_numberBehind_61 : decode cX2_numberBehind 61 = .ok (.iadd, 1) := by decide +kernel
theorem dX2_numberBehind_62 : decode cX2_numberBehind 62 = .ok (.putfield 29, 3) := by decide +kernel
theorem dX2_numberBehind_65 : decode cX2_numberBehind 65 = .ok (.iconst 1, 1) := by decide +kernel
theorem dX2_numberBehind_66 : decode cX2_numberBehind 66 = .ok (.ireturn, 1) := by decide +kernel
set_option maxRecDepth 20000 in
theorem ggX2_cutTokens_X2_cutToken : GoodIn wsX2_cutTokens wsX2_cutToken := goodIn_r _ [9, 4, 2, 1, 3, 10, 11, 12, 8, 13, 14, 15, 16, 17, 18, 19, 20, 21, 22, 23, 24, 25, 26, 27, 28, 29, 30, 31, 32, 33, 34, 35, 36, 37, 38, 39, 40, 41, 42, 43, 44, 45, 46, 47, 48, 49, 50, 51, 52, 53, 54, 55, 56, 57, 58, 59, 60, 61, 62, 63, 64, 65, 66, 67, 68, 69, 70, 71, 72, 73, 74, 75, 76, 77, 78, 79, 80, 81, 82, 83, 84, 85, 86, 87, 88, 89, 90, 91] (by decide +kernel) (by decide +kernel)
set_option maxRecDepth 20000 in
theorem gX2_cutTokens_X2_cutToken : GoodIn wsX2_cutTokens (wsV RX2 83 RX2 yX2_cutToken wsX2_cutToken) := goodIn_app (goodIn_of _ (by decide +kernel)) ggX2_cutTokens_X2_cutToken
theorem dX2_cutTokens_0 : decode cX2_cutTokens 0 = .ok (.iconst 0, 1) := by decide +kernel
theorem dX2_cutTokens_1 : decode cX2_cutTokens 1 = .ok (.istore_n 1, 1) := by decide +kernel
theorem dX2_cutTokens_2 : decode cX2_cutTokens 2 = .ok (.iconst 0, 1) := by decide +kernel
theorem dX2_cutTokens_3 : decode cX2_cutTokens 3 = .ok (.istore_n 2, 1) := by decide +kernel
theorem dX2_cutTokens_4 : decode cX2_cutTokens 4 = .ok (.iconst 0, 1) := by decide +kernel
theorem dX2_cutTokens_5 : decode cX2_cutTokens 5 = .ok (.istore_n 3, 1) := by decide +kernel
theorem dX2_cutTokens_6 : decode cX2_cutTokens 6 = .ok (.iload_n 3, 1) := by decide +kernel
theorem dX2_cutTokens_7 : decode cX2_cutTokens 7 = .ok (.aload_n 0, 1) := by decide +kernel
theorem dX2_cutTokens_8 : decode cX2_cutTokens 8 = .ok (.getfield 15, 3) := by decide +kernel
theorem dX2_cutTokens_11 : decode cX2_cutTokens 11 = .ok (.if_icmp .ge 35, 3) := by decide +kernel
theorem dX2_cutTokens_14 : decode cX2_cutTokens 14 = .ok (.iload_n 3, 1) := by decide +kernel
theorem dX2_cutTokens_15 : decode cX2_cutTokens 15 = .ok (.iload_n 2, 1) := by decide +kernel
theorem dX2_cutTokens_16 : decode cX2_cutTokens 16 = .ok (.if_icmp .lt 24, 3) := by decide +kernel
theorem dX2_cutTokens_19 : decode cX2_cutTokens 19 = .ok (.aload_n 0, 1) := by decide +kernel
theorem dX2_cutTokens_20 : decode cX2_cutTokens 20 = .ok (.getfield 9, 3) := by decide +kernel
theorem dX2_cutTokens_23 : decode cX2_cutTokens 23 = .ok (.iload_n 3, 1) := by decide +kernel
theorem dX2_cutTokens_24 : decode cX2_cutTokens 24 = .ok (.baload, 1) := by decide +kernel
theorem dX2_cutTokens_25 : decode cX2_cutTokens 25 = .ok (.bipush 32, 2) := by decide +kernel
theorem dX2_cutTokens_27 : decode cX2_cutTokens 27 = .ok (.if_icmp .eq 13, 3) := by decide +kernel
theorem dX2_cutTokens_30 : decode cX2_cutTokens 30 = .ok (.aload_n 0, 1) := by decide +kernel
theorem dX2_cutTokens_31 : decode cX2_cutTokens 31 = .ok (.iload_n 1, 1) := by decide +kernel
theorem dX2_cutTokens_32 : decode cX2_cutTokens 32 = .ok (.iload_n 3, 1) := by decide +kernel
theorem dX2_cutTokens_33 : decode cX2_cutTokens 33 = .ok (.invokevirtual 83, 3) := by decide +kernel
theorem dX2_cutTokens_36 : decode cX2_cutTokens 36 = .ok (.istore_n 2, 1) := by decide +kernel
theorem dX2_cutTokens_37 : decode cX2_cutTokens 37 = .ok (.iinc 1 1, 3) := by decide +kernel
theorem dX2_cutTokens_40 : decode cX2_cutTokens 40 = .ok (.iinc 3 1, 3) := by decide +kernel
theorem dX2_cutTokens_43 : decode cX2_cutTokens 43 = .ok (.goto (-37), 3) := by decide +kernel
theorem dX2_cutTokens_46 : decode cX2_cutTokens 46 = .ok (.aload_n 0, 1) := by decide +kernel
theorem dX2_cutTokens_47 : decode cX2_cutTokens 47 = .ok (.getfield 19, 3) := by decide +kernel
theorem dX2_cutTokens_50 : decode cX2_cutTokens 50 = .ok (.iload_n 1, 1) := by decide +kernel
theorem dX2_cutTokens_51 : decode cX2_cutTokens 51 = .ok (.iconst 0, 1) := by decide +kernel
theorem dX2_cutTokens_52 : decode cX2_cutTokens 52 = .ok (.iastore, 1) := by decide +kernel
theorem dX2_cutTokens_53 : decode cX2_cutTokens 53 = .ok (.aload_n 0, 1) := by decide +kernel
theorem dX2_cutTokens_54 : decode cX2_cutTokens 54 = .ok (.getfield 23, 3) := by decide +kernel
theorem dX2_cutTokens_57 : decode cX2_cutTokens 57 = .ok (.iload_n 1, 1) := by decide +kernel
theorem dX2_cutTokens_58 : decode cX2_cutTokens 58 = .ok (.aload_n 0, 1) := by decide +kernel
theorem dX2_cutTokens_59 : decode cX2_cutTokens 59 = .ok (.getfield 15, 3) := by decide +kernel
theorem dX2_cutTokens_62 : decode cX2_cutTokens 62 = .ok (.iastore, 1) := by decide +kernel
theorem dX2_cutTokens_63 : decode cX2_cutTokens 63 = .ok (.return_, 1) := by decide +kernel
set_option maxRecDepth 20000 in
theorem ggX2_cutToken_X2_isLetter : GoodIn wsX2_cutToken wsX2_isLetter := goodIn_r _ [9] (by decide +kernel) (by decide +kernel)
set_option maxRecDepth 20000 in
theorem gX2_cutToken_X2_isLetter : GoodIn wsX2_cutToken (va_wsS RX2 86 yX2_isLetter wsX2_isLetter) := goodIn_app (goodIn_of _ (by decide +kernel)) ggX2_cutToken_X2_isLetter
set_option maxRecDepth 20000 in
theorem ggX2_cutToken_X2_wordAt : GoodIn wsX2_cutToken wsX2_wordAt := goodIn_r _ [13, 14, 15, 8, 16, 17, 18, 19, 20, 2, 21, 22, 23, 24, 25, 26, 27, 28, 29, 30, 31, 32, 33, 34, 35, 36, 37, 38, 39, 40, 41, 42, 43, 44, 45, 46, 47, 48, 49, 50, 51, 52, 53, 54, 55, 56, 57, 58, 59, 60, 61, 62, 63, 64, 65, 66, 67, 68, 69, 81, 82, 83, 84, 85, 86, 87] (by decide +kernel) (by decide +kernel)
set_option maxRecDepth 20000 in
theorem gX2_cutToken_X2_wordAt : GoodIn wsX2_cutToken (wsV RX2 90 RX2 yX2_wordAt wsX2_wordAt) := goodIn_app (goodIn_of _ (by decide +kernel)) ggX2_cutToken_X2_wordAt
set_option maxRecDepth 20000 in
theorem ggX2_cutToken_X2_isDigit : GoodIn wsX2_cutToken wsX2_isDigit := goodIn_r _ [72] (by decide +kernel) (by decide +kernel)
set_option maxRecDepth 20000 in
theorem gX2_cutToken_X2_isDigit : GoodIn wsX2_cutToken (va_wsS RX2 93 yX2_isDigit wsX2_isDigit) := goodIn_app (goodIn_of _ (by decide +kernel)) ggX2_cutToken_X2_isDigit
set_option maxRecDepth 20000 in
theorem ggX2_cutToken_X2_numberAt : GoodIn wsX2_cutToken wsX2_numberAt := goodIn_r _ [76, 2, 77, 78, 79, 80, 81, 82, 83, 84, 85, 86, 87] (by decide +kernel) (by decide +kernel)
set_option maxRecDepth 20000 in
theorem gX2_cutToken_X2_numberAt : GoodIn wsX2_cutToken (wsV RX2 96 RX2 yX2_numberAt wsX2_numberAt) := goodIn_app (goodIn_of _ (by decide +kernel)) ggX2_cutToken_X2_numberAt
theorem dX2_cutToken_0 : decode cX2_cutToken 0 = .ok (.iload_n 2, 1) := by decide +kernel
theorem dX2_cutToken_1 : decode cX2_cutToken 1 = .ok (.iconst 1, 1) := by decide +kernel
theorem dX2_cutToken_2 : decode cX2_cutToken 2 = .ok (.iadd, 1) := by decide +kernel
theorem dX2_cutToken_3 : decode cX2_cutToken 3 = .ok (.istore_n 3, 1) := by decide +kernel
theorem dX2_cutToken_4 : decode cX2_cutToken 4 = .ok (.aload_n 0, 1) := by decide +kernel
theorem dX2_cutToken_5 : decode cX2_cutToken 5 = .ok (.getfield 23, 3) := by decide +kernel
theorem dX2_cutToken_8 : decode cX2_cutToken 8 = .ok (.iload_n 1, 1) := by decide +kernel
theorem dX2_cutToken_9 : decode cX2_cutToken 9 = .ok (.iload_n 2, 1) := by decide +kernel
theorem dX2_cutToken_10 : decode cX2_cutToken 10 = .ok (.iastore, 1) := by decide +kernel
theorem dX2_cutToken_11 : decode cX2_cutToken 11 = .ok (.aload_n 0, 1) := by decide +kernel
theorem dX2_cutToken_12 : decode cX2_cutToken 12 = .ok (.getfield 9, 3) := by decide +kernel
theorem dX2_cutToken_15 : decode cX2_cutToken 15 = .ok (.iload_n 2, 1) := by decide +kernel
theorem dX2_cutToken_16 : decode cX2_cutToken 16 = .ok (.baload, 1) := by decide +kernel
theorem dX2_cutToken_17 : decode cX2_cutToken 17 = .ok (.invokestatic 86, 3) := by decide +kernel
theorem dX2_cutToken_20 : decode cX2_cutToken 20 = .ok (.ifCond .eq 51, 3) := by decide +kernel
theorem dX2_cutToken_23 : decode cX2_cutToken 23 = .ok (.iload_n 3, 1) := by decide +kernel
theorem dX2_cutToken_24 : decode cX2_cutToken 24 = .ok (.aload_n 0, 1) := by decide +kernel
theorem dX2_cutToken_25 : decode cX2_cutToken 25 = .ok (.getfield 15, 3) := by decide +kernel
theorem dX2_cutToken_28 : decode cX2_cutToken 28 = .ok (.if_icmp .ge 21, 3) := by decide +kernel
theorem dX2_cutToken_31 : decode cX2_cutToken 31 = .ok (.aload_n 0, 1) := by decide +kernel
theorem dX2_cutToken_32 : decode cX2_cutToken 32 = .ok (.getfield 9, 3) := by decide +kernel
theorem dX2_cutToken_35 : decode cX2_cutToken 35 = .ok (.iload_n 3, 1) := by decide +kernel
theorem dX2_cutToken_36 : decode cX2_cutToken 36 = .ok (.baload, 1) := by decide +kernel
theorem dX2_cutToken_37 : decode cX2_cutToken 37 = .ok (.invokestatic 86, 3) := by decide +kernel
theorem dX2_cutToken_40 : decode cX2_cutToken 40 = .ok (.ifCond .eq 9, 3) := by decide +kernel
theorem dX2_cutToken_43 : decode cX2_cutToken 43 = .ok (.iinc 3 1, 3) := by decide +kernel
theorem dX2_cutToken_46 : decode cX2_cutToken 46 = .ok (.goto (-23), 3) := by decide +kernel
theorem dX2_cutToken_49 : decode cX2_cutToken 49 = .ok (.aload_n 0, 1) := by decide +kernel
theorem dX2_cutToken_50 : decode cX2_cutToken 50 = .ok (.getfield 19, 3) := by decide +kernel
theorem dX2_cutToken_53 : decode cX2_cutToken 53 = .ok (.iload_n 1, 1) := by decide +kernel
theorem dX2_cutToken_54 : decode cX2_cutToken 54 = .ok (.iconst 1, 1) := by decide +kernel
theorem dX2_cutToken_55 : decode cX2_cutToken 55 = .ok (.iastore, 1) := by decide +kernel
theorem dX2_cutToken_56 : decode cX2_cutToken 56 = .ok (.aload_n 0, 1) := by decide +kernel
theorem dX2_cutToken_57 : decode cX2_cutToken 57 = .ok (.getfield 26, 3) := by decide +kernel
theorem dX2_cutToken_60 : decode cX2_cutToken 60 = .ok (.iload_n 1, 1) := by decide +kernel
theorem dX2_cutToken_61 : decode cX2_cutToken 61 = .ok (.aload_n 0, 1) := by decide +kernel
theorem dX2_cutToken_62 : decode cX2_cutToken 62 = .ok (.iload_n 2, 1) := by decide +kernel
theorem dX2_cutToken_63 : decode cX2_cutToken 63 = .ok (.iload_n 3, 1) := by decide +kernel
theorem dX2_cutToken_64 : decode cX2_cutToken 64 = .ok (.invokevirtual 90, 3) := by decide +kernel
theorem dX2_cutToken_67 : decode cX2_cutToken 67 = .ok (.iastore, 1) := by decide +kernel
theorem dX2_cutToken_68 : decode cX2_cutToken 68 = .ok (.goto 85, 3) := by decide +kernel
theorem dX2_cutToken_71 : decode cX2_cutToken 71 = .ok (.aload_n 0, 1) := by decide +kernel
theorem dX2_cutToken_72 : decode cX2_cutToken 72 = .ok (.getfield 9, 3) := by decide +kernel
theorem dX2_cutToken_75 : decode cX2_cutToken 75 = .ok (.iload_n 2, 1) := by decide +kernel
theorem dX2_cutToken_76 : decode cX2_cutToken 76 = .ok (.baload, 1) := by decide +kernel
theorem dX2_cutToken_77 : decode cX2_cutToken 77 = .ok (.invokestatic 93, 3) := by decide +kernel
theorem dX2_cutToken_80 : decode cX2_cutToken 80 = .ok (.ifCond .eq 51, 3) := by decide +kernel
theorem dX2_cutToken_83 : decode cX2_cutToken 83 = .ok (.iload_n 3, 1) := by decide +kernel
theorem dX2_cutToken_84 : decode cX2_cutToken 84 = .ok (.aload_n 0, 1) := by decide +kernel
theorem dX2_cutToken_85 : decode cX2_cutToken 85 = .ok (.getfield 15, 3) := by decide +kernel
theorem dX2_cutToken_88 : decode cX2_cutToken 88 = .ok (.if_icmp .ge 21, 3) := by decide +kernel
theorem dX2_cutToken_91 : decode cX2_cutToken 91 = .ok (.aload_n 0, 1) := by decide +kernel
theorem dX2_cutToken_92 : decode cX2_cutToken 92 = .ok (.getfield 9, 3) := by decide +kernel
theorem dX2_cutToken_95 : decode cX2_cutToken 95 = .ok (.iload_n 3, 1) := by decide +kernel
theorem dX2_cutToken_96 : decode cX2_cutToken 96 = .ok (.baload, 1) := by decide +kernel
theorem dX2_cutToken_97 : decode cX2_cutToken 97 = .ok (.invokestatic 93, 3) := by decide +kernel
theorem dX2_cutToken_100 : decode cX2_cutToken 100 = .ok (.ifCond .eq 9, 3) := by decide +kernel
theorem dX2_cutToken_103 : decode cX2_cutToken 103 = .ok (.iinc 3 1, 3) := by decide +kernel
theorem dX2_cutToken_106 : decode cX2_cutToken 106 = .ok (.goto (-23), 3) := by decide +kernel
theorem dX2_cutToken_109 : decode cX2_cutToken 109 = .ok (.aload_n 0, 1) := by decide +kernel
theorem dX2_cutToken_110 : decode cX2_cutToken 110 = .ok (.getfield 19, 3) := by decide +kernel
theorem dX2_cutToken_113 : decode cX2_cutToken 113 = .ok (.iload_n 1, 1) := by decide +kernel
theorem dX2_cutToken_114 : decode cX2_cutToken 114 = .ok (.iconst 2, 1) := by decide +kernel
theorem dX2_cutToken_115 : decode cX2_cutToken 115 = .ok (.iastore, 1) := by decide +kernel
theorem dX2_cutToken_116 : decode cX2_cutToken 116 = .ok (.aload_n 0, 1) := by decide +kernel
theorem dX2_cutToken_117 : decode cX2_cutToken 117 = .ok (.getfield 26, 3) := by decide +kernel
theorem dX2_cutToken_120 : decode cX2_cutToken 120 = .ok (.iload_n 1, 1) := by decide +kernel
theorem dX2_cutToken_121 : decode cX2_cutToken 121 = .ok (.aload_n 0, 1) := by decide +kernel
theorem dX2_cutToken_122 : decode cX2_cutToken 122 = .ok (.iload_n 2, 1) := by decide +kernel
theorem dX2_cutToken_123 : decode cX2_cutToken 123 = .ok (.iload_n 3, 1) := by decide +kernel
theorem dX2_cutToken_124 : decode cX2_cutToken 124 = .ok (.invokevirtual 96, 3) := by decide +kernel
theorem dX2_cutToken_127 : decode cX2_cutToken 127 = .ok (.iastore, 1) := by decide +kernel
theorem dX2_cutToken_128 : decode cX2_cutToken 128 = .ok (.goto 25, 3) := by decide +kernel
theorem dX2_cutToken_131 : decode cX2_cutToken 131 = .ok (.aload_n 0, 1) := by decide +kernel
theorem dX2_cutToken_132 : decode cX2_cutToken 132 = .ok (.getfield 19, 3) := by decide +kernel
theorem dX2_cutToken_135 : decode cX2_cutToken 135 = .ok (.iload_n 1, 1) := by decide +kernel
theorem dX2_cutToken_136 : decode cX2_cutToken 136 = .ok (.aload_n 0, 1) := by decide +kernel
theorem dX2_cutToken_137 : decode cX2_cutToken 137 = .ok (.getfield 9, 3) := by decide +kernel
theorem dX2_cutToken_140 : decode cX2_cutToken 140 = .ok (.iload_n 2, 1) := by decide +kernel
theorem dX2_cutToken_141 : decode cX2_cutToken 141 = .ok (.baload, 1) := by decide +kernel
theorem dX2_cutToken_142 : decode cX2_cutToken 142 = .ok (.bipush 59, 2) := by decide +kernel
theorem dX2_cutToken_144 : decode cX2_cutToken 144 = .ok (.if_icmp .ne 7, 3) := by decide +kernel
theorem dX2_cutToken_147 : decode cX2_cutToken 147 = .ok (.iconst 3, 1) := by decide +kernel
theorem dX2_cutToken_148 : decode cX2_cutToken 148 = .ok (.goto 4, 3) := by decide +kernel
theorem dX2_cutToken_151 : decode cX2_cutToken 151 = .ok (.iconst 4, 1) := by decide +kernel
theorem dX2_cutToken_152 : decode cX2_cutToken 152 = .ok (.iastore, 1) := by decide +kernel
theorem dX2_cutToken_153 : decode cX2_cutToken 153 = .ok (.iload_n 3, 1) := by decide +kernel
theorem dX2_cutToken_154 : decode cX2_cutToken 154 = .ok (.ireturn, 1) := by decide +kernel
set_option maxRecDepth 20000 in
theorem ggX2_wordAt_X2_wordOf : GoodIn wsX2_wordAt wsX2_wordOf := goodIn_r _ [4] (by decide +kernel) (by decide +kernel)
set_option maxRecDepth 20000 in
theorem gX2_wordAt_X2_wordOf : GoodIn wsX2_wordAt (va_wsS RX2 99 yX2_wordOf wsX2_wordOf) := goodIn_app (goodIn_of _ (by decide +kernel)) ggX2_wordAt_X2_wordOf
set_option maxRecDepth 20000 in
theorem ggX2_wordAt_X2_isSpelt : GoodIn wsX2_wordAt wsX2_isSpelt := goodIn_r _ [8, 9, 10, 11, 12, 13, 14, 15, 16, 17, 18, 19, 20, 21, 22, 23, 24, 25, 26, 27, 28, 29, 30, 31, 32, 33, 34, 35, 36, 37, 38, 39, 40, 41, 42, 43, 44, 45, 46, 47, 48, 49, 50, 51, 52, 53, 54, 55, 56, 57, 58, 59, 60, 61, 62, 63, 64, 65] (by decide +kernel) (by decide +kernel)
set_option maxRecDepth 20000 in
theorem gX2_wordAt_X2_isSpelt : GoodIn wsX2_wordAt (wsV RX2 103 RX2 yX2_isSpelt wsX2_isSpelt) := goodIn_app (goodIn_of _ (by decide +kernel)) ggX2_wordAt_X2_isSpelt
theorem dX2_wordAt_0 : decode cX2_wordAt 0 = .ok (.iconst 0, 1) := by decide +kernel
theorem dX2_wordAt_1 : decode cX2_wordAt 1 = .ok (.istore_n 3, 1) := by decide +kernel
theorem dX2_wordAt_2 : decode cX2_wordAt 2 = .ok (.iload_n 3, 1) := by decide +kernel
theorem dX2_wordAt_3 : decode cX2_wordAt 3 = .ok (.bipush 12, 2) := by decide +kernel
theorem dX2_wordAt_5 : decode cX2_wordAt 5 = .ok (.if_icmp .ge 22, 3) := by decide +kernel
theorem dX2_wordAt_8 : decode cX2_wordAt 8 = .ok (.aload_n 0, 1) := by decide +kernel
theorem dX2_wordAt_9 : decode cX2_wordAt 9 = .ok (.iload_n 3, 1) := by decide +kernel
theorem dX2_wordAt_10 : decode cX2_wordAt 10 = .ok (.invokestatic 99, 3) := by decide +kernel
theorem dX2_wordAt_13 : decode cX2_wordAt 13 = .ok (.iload_n 1, 1) := by decide +kernel
theorem dX2_wordAt_14 : decode cX2_wordAt 14 = .ok (.iload_n 2, 1) := by decide +kernel
theorem dX2_wordAt_15 : decode cX2_wordAt 15 = .ok (.invokevirtual 103, 3) := by decide +kernel
theorem dX2_wordAt_18 : decode cX2_wordAt 18 = .ok (.ifCond .ne 9, 3) := by decide +kernel
theorem dX2_wordAt_21 : decode cX2_wordAt 21 = .ok (.iinc 3 1, 3) := by decide +kernel
theorem dX2_wordAt_24 : decode cX2_wordAt 24 = .ok (.goto (-22), 3) := by decide +kernel
theorem dX2_wordAt_27 : decode cX2_wordAt 27 = .ok (.iload_n 3, 1) := by decide +kernel
theorem dX2_wordAt_28 : decode cX2_wordAt 28 = .ok (.ireturn, 1) := by decide +kernel
theorem dX2_numberAt_0 : decode cX2_numberAt 0 = .ok (.iconst 0, 1) := by decide +kernel
theorem dX2_numberAt_1 : decode cX2_numberAt 1 = .ok (.istore_n 3, 1) := by decide +kernel
theorem dX2_numberAt_2 : decode cX2_numberAt 2 = .ok (.iload_n 1, 1) := by decide +kernel
theorem dX2_numberAt_3 : decode cX2_numberAt 3 = .ok (.istore 4, 2) := by decide +kernel
theorem dX2_numberAt_5 : decode cX2_numberAt 5 = .ok (.iload 4, 2) := by decide +kernel
theorem dX2_numberAt_7 : decode cX2_numberAt 7 = .ok (.iload_n 2, 1) := by decide +kernel
theorem dX2_numberAt_8 : decode cX2_numberAt 8 = .ok (.if_icmp .ge 31, 3) := by decide +kernel
theorem dX2_numberAt_11 : decode cX2_numberAt 11 = .ok (.iload_n 3, 1) := by decide +kernel
theorem dX2_numberAt_12 : decode cX2_numberAt 12 = .ok (.bipush 10, 2) := by decide +kernel
theorem dX2_numberAt_14 : decode cX2_numberAt 14 = .ok (.imul, 1) := by decide +kernel
theorem dX2_numberAt_15 : decode cX2_numberAt 15 = .ok (.aload_n 0, 1) := by decide +kernel
theorem dX2_numberAt_16 : decode cX2_numberAt 16 = .ok (.getfield 9, 3) := by decide +kernel
theorem dX2_numberAt_19 : decode cX2_numberAt 19 = .ok (.iload 4, 2) := by decide +kernel
theorem dX2_numberAt_21 : decode cX2_numberAt 21 = .ok (.baload, 1) := by decide +kernel
theorem dX2_numberAt_22 : decode cX2_numberAt 22 = .ok (.bipush 48, 2) := by decide +kernel
theorem dX2_numberAt_24 : decode cX2_numberAt 24 = .ok (.isub, 1) := by decide +kernel
theorem dX2_numberAt_25 : decode cX2_numberAt 25 = .ok (.iadd, 1) := by decide +kernel
theorem dX2_numberAt_26 : decode cX2_numberAt 26 = .ok (.sipush 1000, 3) := by decide +kernel
theorem dX2_numberAt_29 : decode cX2_numberAt 29 = .ok (.invokestatic 107, 3) := by decide +kernel
theorem dX2_numberAt_32 : decode cX2_numberAt 32 = .ok (.istore_n 3, 1) := by decide +kernel
theorem dX2_numberAt_33 : decode cX2_numberAt 33 = .ok (.iinc 4 1, 3) := by decide +kernel
theorem dX2_numberAt_36 : decode cX2_numberAt 36 = .ok (.goto (-31), 3) := by decide +kernel
theorem dX2_numberAt_39 : decode cX2_numberAt 39 = .ok (.iload_n 3, 1) := by decide +kernel
theorem dX2_numberAt_40 : decode cX2_numberAt 40 = .ok (.ireturn, 1) := by decide +kernel
set_option maxRecDepth 20000 in
theorem ggX2_isSpelt_J0_length_8abf5 : GoodIn wsX2_isSpelt wsJ0_length_8abf5 := goodIn_r _ [6, 7, 8, 9, 10, 5, 11, 12, 13] (by decide +kernel) (by decide +kernel)
set_option maxRecDepth 20000 in
theorem gX2_isSpelt_J0_length_8abf5 : GoodIn wsX2_isSpelt (wsV RX2 112 RJ0 yJ0_length_8abf5 wsJ0_length_8abf5) := goodIn_app (goodIn_of _ (by decide +kernel)) ggX2_isSpelt_J0_length_8abf5
set_option maxRecDepth 20000 in
theorem ggX2_isSpelt_J0_charAt_5068e : GoodIn wsX2_isSpelt wsJ0_charAt_5068e := goodIn_r _ [17, 7, 18, 19, 20, 5, 21, 12, 13, 22, 23, 24, 25, 26, 27, 28, 29, 30, 31, 32, 33, 34, 35, 36, 37, 38, 39, 40, 41, 42, 43, 44, 45, 46, 47, 48, 49, 50] (by decide +kernel) (by decide +kernel)
set_option maxRecDepth 20000 in
theorem gX2_isSpelt_J0_charAt_5068e : GoodIn wsX2_isSpelt (wsV RX2 118 RJ0 yJ0_charAt_5068e wsJ0_charAt_5068e) := goodIn_app (goodIn_of _ (by decide +kernel)) ggX2_isSpelt_J0_charAt_5068e
theorem dX2_isSpelt_0 : decode cX2_isSpelt 0 = .ok (.iload_n 3, 1) := by decide +kernel
theorem dX2_isSpelt_1 : decode cX2_isSpelt 1 = .ok (.iload_n 2, 1) := by decide +kernel
theorem dX2_isSpelt_2 : decode cX2_isSpelt 2 = .ok (.isub, 1) := by decide +kernel
theorem dX2_isSpelt_3 : decode cX2_isSpelt 3 = .ok (.aload_n 1, 1) := by decide +kernel
theorem dX2_isSpelt_4 : decode cX2_isSpelt 4 = .ok (.invokevirtual 112, 3) := by decide +kernel
theorem dX2_isSpelt_7 : decode cX2_isSpelt 7 = .ok (.if_icmp .eq 5, 3) := by decide +kernel
theorem dX2_isSpelt_10 : decode cX2_isSpelt 10 = .ok (.iconst 0, 1) := by decide +kernel
theorem dX2_isSpelt_11 : decode cX2_isSpelt 11 = .ok (.ireturn, 1) := by decide +kernel
theorem dX2_isSpelt_12 : decode cX2_isSpelt 12 = .ok (.iload_n 2, 1) := by decide +kernel
theorem dX2_isSpelt_13 : decode cX2_isSpelt 13 = .ok (.istore 4, 2) := by decide +kernel
theorem dX2_isSpelt_15 : decode cX2_isSpelt 15 = .ok (.iload 4, 2) := by decide +kernel
theorem dX2_isSpelt_17 : decode cX2_isSpelt 17 = .ok (.iload_n 3, 1) := by decide +kernel
theorem dX2_isSpelt_18 : decode cX2_isSpelt 18 = .ok (.if_icmp .ge 29, 3) := by decide +kernel
theorem dX2_isSpelt_21 : decode cX2_isSpelt 21 = .ok (.aload_n 0, 1) := by decide +kernel
theorem dX2_isSpelt_22 : decode cX2_isSpelt 22 = .ok (.getfield 9, 3) := by decide +kernel
theorem dX2_isSpelt_25 : decode cX2_isSpelt 25 = .ok (.iload 4, 2) := by decide +kernel
theorem dX2_isSpelt_27 : decode cX2_isSpelt 27 = .ok (.baload, 1) := by decide +kernel
theorem dX2_isSpelt_28 : decode cX2_isSpelt 28 = .ok (.aload_n 1, 1) := by decide +kernel
theorem dX2_isSpelt_29 : decode cX2_isSpelt 29 = .ok (.iload 4, 2) := by decide +kernel
theorem dX2_isSpelt_31 : decode cX2_isSpelt 31 = .ok (.iload_n 2, 1) := by decide +kernel
theorem dX2_isSpelt_32 : decode cX2_isSpelt 32 = .ok (.isub, 1) := by decide +kernel
theorem dX2_isSpelt_33 : decode cX2_isSpelt 33 = .ok (.invokevirtual 118, 3) := by decide +kernel
theorem dX2_isSpelt_36 : decode cX2_isSpelt 36 = .ok (.if_icmp .eq 5, 3) := by decide +kernel
theorem dX2_isSpelt_39 : decode cX2_isSpelt 39 = .ok (.iconst 0, 1) := by decide +kernel
theorem dX2_isSpelt_40 : decode cX2_isSpelt 40 = .ok (.ireturn, 1) := by decide +kernel
theorem dX2_isSpelt_41 : decode cX2_isSpelt 41 = .ok (.iinc 4 1, 3) := by decide +kernel
theorem dX2_isSpelt_44 : decode cX2_isSpelt 44 = .ok (.goto (-29), 3) := by decide +kernel
theorem dX2_isSpelt_47 : decode cX2_isSpelt 47 = .ok (.iconst 1, 1) := by decide +kernel
theorem dX2_isSpelt_48 : decode cX2_isSpelt 48 = .ok (.ireturn, 1) := by decide +kernel
theorem dX2_wordOf_0 : decode cX2_wordOf 0 = .ok (.iload_n 0, 1) := by decide +kernel
theorem dX2_wordOf_1 : decode cX2_wordOf 1 = .ok (.tableswitch 99 0 11 #[63, 66, 69, 72, 75, 78, 81, 84, 87, 90, 93, 96], 63) := by decide +kernel
theorem dX2_wordOf_64 : decode cX2_wordOf 64 = .ok (.ldc 122, 2) := by decide +kernel
theorem dX2_wordOf_66 : decode cX2_wordOf 66 = .ok (.areturn, 1) := by decide +kernel
theorem dX2_wordOf_67 : decode cX2_wordOf 67 = .ok (.ldc 124, 2) := by decide +kernel
theorem dX2_wordOf_69 : decode cX2_wordOf 69 = .ok (.areturn, 1) := by decide +kernel
theorem dX2_wordOf_70 : decode cX2_wordOf 70 = .ok (.ldc 126, 2) := by decide +kernel
theorem dX2_wordOf_72 : decode cX2_wordOf 72 = .ok (.areturn, 1) := by decide +kernel
theorem dX2_wordOf_73 : decode cX2_wordOf 73 = .ok (.ldc 128, 2) := by decide +kernel
theorem dX2_wordOf_75 : decode cX2_wordOf 75 = .ok (.areturn, 1) := by decide +kernel
theorem dX2_wordOf_76 : decode cX2_wordOf 76 = .ok (.ldc 130, 2) := by decide +kernel
theorem dX2_wordOf_78 : decode cX2_wordOf 78 = .ok (.areturn, 1) := by decide +kernel
theorem dX2_wordOf_79 : decode cX2_wordOf 79 = .ok (.ldc 132, 2) := by decide +kernel
theorem dX2_wordOf_81 : decode cX2_wordOf 81 = .ok (.areturn, 1) := by decide +kernel
theorem dX2_wordOf_82 : decode cX2_wordOf 82 = .ok (.ldc 134, 2) := by decide +kernel
theorem dX2_wordOf_84 : decode cX2_wordOf 84 = .ok (.areturn, 1) := by decide +kernel
theorem dX2_wordOf_85 : decode cX2_wordOf 85 = .ok (.ldc 136, 2) := by decide +kernel
theorem dX2_wordOf_87 : decode cX2_wordOf 87 = .ok (.areturn, 1) := by decide +kernel
theorem dX2_wordOf_88 : decode cX2_wordOf 88 = .ok (.ldc 137, 2) := by decide +kernel
theorem dX2_wordOf_90 : decode cX2_wordOf 90 = .ok (.areturn, 1) := by decide +kernel
theorem dX2_wordOf_91 : decode cX2_wordOf 91 = .ok (.ldc 138, 2) := by decide +kernel
theorem dX2_wordOf_93 : decode cX2_wordOf 93 = .ok (.areturn, 1) := by decide +kernel
theorem dX2_wordOf_94 : decode cX2_wordOf 94 = .ok (.ldc 140, 2) := by decide +kernel
theorem dX2_wordOf_96 : decode cX2_wordOf 96 = .ok (.areturn, 1) := by decide +kernel
theorem dX2_wordOf_97 : decode cX2_wordOf 97 = .ok (.ldc 142, 2) := by decide +kernel
theorem dX2_wordOf_99 : decode cX2_wordOf 99 = .ok (.areturn, 1) := by decide +kernel
theorem dX2_wordOf_100 : decode cX2_wordOf 100 = .ok (.ldc 144, 2) := by decide +kernel
theorem dX2_wordOf_102 : decode cX2_wordOf 102 = .ok (.areturn, 1) := by decide +kernel
theorem dX2_isLetter_0 : decode cX2_isLetter 0 = .ok (.iload_n 0, 1) := by decide +kernel
theorem dX2_isLetter_1 : decode cX2_isLetter 1 = .ok (.bipush 97, 2) := by decide +kernel
theorem dX2_isLetter_3 : decode cX2_isLetter 3 = .ok (.if_icmp .lt 13, 3) := by decide +kernel
theorem dX2_isLetter_6 : decode cX2_isLetter 6 = .ok (.iload_n 0, 1) := by decide +kernel
theorem dX2_isLetter_7 : decode cX2_isLetter 7 = .ok (.bipush 122, 2) := by decide +kernel
theorem dX2_isLetter_9 : decode cX2_isLetter 9 = .ok (.if_icmp .gt 7, 3) := by decide +kernel
theorem dX2_isLetter_12 : decode cX2_isLetter 12 = .ok (.iconst 1, 1) := by decide +kernel
theorem dX2_isLetter_13 : decode cX2_isLetter 13 = .ok (.goto 4, 3) := by decide +kernel
theorem dX2_isLetter_16 : decode cX2_isLetter 16 = .ok (.iconst 0, 1) := by decide +kernel
theorem dX2_isLetter_17 : decode cX2_isLetter 17 = .ok (.ireturn, 1) := by decide +kernel
theorem dX2_isDigit_0 : decode cX2_isDigit 0 = .ok (.iload_n 0, 1) := by decide +kernel
theorem dX2_isDigit_1 : decode cX2_isDigit 1 = .ok (.bipush 48, 2) := by decide +kernel
theorem dX2_isDigit_3 : decode cX2_isDigit 3 = .ok (.if_icmp .lt 13, 3) := by decide +kernel
theorem dX2_isDigit_6 : decode cX2_isDigit 6 = .ok (.iload_n 0, 1) := by decide +kernel
theorem dX2_isDigit_7 : decode cX2_isDigit 7 = .ok (.bipush 57, 2) := by decide +kernel
theorem dX2_isDigit_9 : decode cX2_isDigit 9 = .ok (.if_icmp .gt 7, 3) := by decide +kernel
theorem dX2_isDigit_12 : decode cX2_isDigit 12 = .ok (.iconst 1, 1) := by decide +kernel
theorem dX2_isDigit_13 : decode cX2_isDigit 13 = .ok (.goto 4, 3) := by decide +kernel
theorem dX2_isDigit_16 : decode cX2_isDigit 16 = .ok (.iconst 0, 1) := by decide +kernel
theorem dX2_isDigit_17 : decode cX2_isDigit 17 = .ok (.ireturn, 1) := by decide +kernel
