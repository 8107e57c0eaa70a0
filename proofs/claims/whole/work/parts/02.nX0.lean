theorem dX0_init_0 : decode cX0_init 0 = .ok (.aload_n 0, 1) := by decide +kernel
theorem dX0_init_1 : decode cX0_init 1 = .ok (.invokespecial 3, 3) := by decide +kernel
theorem dX0_init_4 : decode cX0_init 4 = .ok (.aload_n 0, 1) := by decide +kernel
theorem dX0_init_5 : decode cX0_init 5 = .ok (.iconst 0, 1) := by decide +kernel
theorem dX0_init_6 : decode cX0_init 6 = .ok (.putfield 9, 3) := by decide +kernel
theorem dX0_init_9 : decode cX0_init 9 = .ok (.aload_n 0, 1) := by decide +kernel
theorem dX0_init_10 : decode cX0_init 10 = .ok (.iconst 0, 1) := by decide +kernel
theorem dX0_init_11 : decode cX0_init 11 = .ok (.putfield 15, 3) := by decide +kernel
theorem dX0_init_14 : decode cX0_init 14 = .ok (.aload_n 0, 1) := by decide +kernel
theorem dX0_init_15 : decode cX0_init 15 = .ok (.iconst 2, 1) := by decide +kernel
theorem dX0_init_16 : decode cX0_init 16 = .ok (.putfield 18, 3) := by decide +kernel
theorem dX0_init_19 : decode cX0_init 19 = .ok (.aload_n 0, 1) := by decide +kernel
theorem dX0_init_20 : decode cX0_init 20 = .ok (.bipush 20, 2) := by decide +kernel
theorem dX0_init_22 : decode cX0_init 22 = .ok (.putfield 21, 3) := by decide +kernel
theorem dX0_init_25 : decode cX0_init 25 = .ok (.aload_n 0, 1) := by decide +kernel
theorem dX0_init_26 : decode cX0_init 26 = .ok (.iconst 0, 1) := by decide +kernel
theorem dX0_init_27 : decode cX0_init 27 = .ok (.putfield 24, 3) := by decide +kernel
theorem dX0_init_30 : decode cX0_init 30 = .ok (.aload_n 0, 1) := by decide +kernel
theorem dX0_init_31 : decode cX0_init 31 = .ok (.iconst 0, 1) := by decide +kernel
theorem dX0_init_32 : decode cX0_init 32 = .ok (.putfield 27, 3) := by decide +kernel
theorem dX0_init_35 : decode cX0_init 35 = .ok (.aload_n 0, 1) := by decide +kernel
theorem dX0_init_36 : decode cX0_init 36 = .ok (.iconst 0, 1) := by decide +kernel
theorem dX0_init_37 : decode cX0_init 37 = .ok (.putfield 30, 3) := by decide +kernel
theorem dX0_init_40 : decode cX0_init 40 = .ok (.aload_n 0, 1) := by decide +kernel
theorem dX0_init_41 : decode cX0_init 41 = .ok (.bipush 8, 2) := by decide +kernel
theorem dX0_init_43 : decode cX0_init 43 = .ok (.newarray .int, 2) := by decide +kernel
theorem dX0_init_45 : decode cX0_init 45 = .ok (.putfield 33, 3) := by decide +kernel
theorem dX0_init_48 : decode cX0_init 48 = .ok (.aload_n 0, 1) := by decide +kernel
theorem dX0_init_49 : decode cX0_init 49 = .ok (.bipush 8, 2) := by decide +kernel
theorem dX0_init_51 : decode cX0_init 51 = .ok (.newarray .int, 2) := by decide +kernel
theorem dX0_init_53 : decode cX0_init 53 = .ok (.putfield 37, 3) := by decide +kernel
theorem dX0_init_56 : decode cX0_init 56 = .ok (.aload_n 0, 1) := by decide +kernel
theorem dX0_init_57 : decode cX0_init 57 = .ok (.bipush 8, 2) := by decide +kernel
theorem dX0_init_59 : decode cX0_init 59 = .ok (.newarray .int, 2) := by decide +kernel
theorem dX0_init_61 : decode cX0_init 61 = .ok (.putfield 40, 3) := by decide +kernel
theorem dX0_init_64 : decode cX0_init 64 = .ok (.aload_n 0, 1) := by decide +kernel
theorem dX0_init_65 : decode cX0_init 65 = .ok (.bipush 8, 2) := by decide +kernel
theorem dX0_init_67 : decode cX0_init 67 = .ok (.newarray .int, 2) := by decide +kernel
theorem dX0_init_69 : decode cX0_init 69 = .ok (.putfield 43, 3) := by decide +kernel
theorem dX0_init_72 : decode cX0_init 72 = .ok (.aload_n 0, 1) := by decide +kernel
theorem dX0_init_73 : decode cX0_init 73 = .ok (.bipush 8, 2) := by decide +kernel
theorem dX0_init_75 : decode cX0_init 75 = .ok (.newarray .int, 2) := by decide +kernel
theorem dX0_init_77 : decode cX0_init 77 = .ok (.putfield 46, 3) := by decide +kernel
theorem dX0_init_80 : decode cX0_init 80 = .ok (.aload_n 0, 1) := by decide +kernel
theorem dX0_init_81 : decode cX0_init 81 = .ok (.bipush 8, 2) := by decide +kernel
theorem dX0_init_83 : decode cX0_init 83 = .ok (.newarray .int, 2) := by decide +kernel
theorem dX0_init_85 : decode cX0_init 85 = .ok (.putfield 49, 3) := by decide +kernel
theorem dX0_init_88 : decode cX0_init 88 = .ok (.return_, 1) := by decide +kernel
theorem dX0_becomes_0 : decode cX0_becomes 0 = .ok (.aload_n 0, 1) := by decide +kernel
theorem dX0_becomes_1 : decode cX0_becomes 1 = .ok (.aload_n 1, 1) := by decide +kernel
theorem dX0_becomes_2 : decode cX0_becomes 2 = .ok (.getfield 9, 3) := by decide +kernel
theorem dX0_becomes_5 : decode cX0_becomes 5 = .ok (.putfield 9, 3) := by decide +kernel
theorem dX0_becomes_8 : decode cX0_becomes 8 = .ok (.aload_n 0, 1) := by decide +kernel
theorem dX0_becomes_9 : decode cX0_becomes 9 = .ok (.aload_n 1, 1) := by decide +kernel
theorem dX0_becomes_10 : decode cX0_becomes 10 = .ok (.getfield 15, 3) := by decide +kernel
theorem dX0_becomes_13 : decode cX0_becomes 13 = .ok (.putfield 15, 3) := by decide +kernel
theorem dX0_becomes_16 : decode cX0_becomes 16 = .ok (.aload_n 0, 1) := by decide +kernel
theorem dX0_becomes_17 : decode cX0_becomes 17 = .ok (.aload_n 1, 1) := by decide +kernel
theorem dX0_becomes_18 : decode cX0_becomes 18 = .ok (.getfield 18, 3) := by decide +kernel
theorem dX0_becomes_21 : decode cX0_becomes 21 = .ok (.putfield 18, 3) := by decide +kernel
theorem dX0_becomes_24 : decode cX0_becomes 24 = .ok (.aload_n 0, 1) := by decide +kernel
theorem dX0_becomes_25 : decode cX0_becomes 25 = .ok (.aload_n 1, 1) := by decide +kernel
theorem dX0_becomes_26 : decode cX0_becomes 26 = .ok (.getfield 21, 3) := by decide +kernel
theorem dX0_becomes_29 : decode cX0_becomes 29 = .ok (.putfield 21, 3) := by decide +kernel
theorem dX0_becomes_32 : decode cX0_becomes 32 = .ok (.aload_n 0, 1) := by decide +kernel
theorem dX0_becomes_33 : decode cX0_becomes 33 = .ok (.aload_n 1, 1) := by decide +kernel
theorem dX0_becomes_34 : decode cX0_becomes 34 = .ok (.getfield 24, 3) := by decide +kernel
theorem dX0_becomes_37 : decode cX0_becomes 37 = .ok (.putfield 24, 3) := by decide +kernel
theorem dX0_becomes_40 : decode cX0_becomes 40 = .ok (.aload_n 0, 1) := by decide +kernel
theorem dX0_becomes_41 : decode cX0_becomes 41 = .ok (.aload_n 1, 1) := by decide +kernel
theorem dX0_becomes_42 : decode cX0_becomes 42 = .ok (.getfield 27, 3) := by decide +kernel
theorem dX0_becomes_45 : decode cX0_becomes 45 = .ok (.putfield 27, 3) := by decide +kernel
theorem dX0_becomes_48 : decode cX0_becomes 48 = .ok (.aload_n 0, 1) := by decide +kernel
theorem dX0_becomes_49 : decode cX0_becomes 49 = .ok (.aload_n 1, 1) := by decide +kernel
theorem dX0_becomes_50 : decode cX0_becomes 50 = .ok (.getfield 30, 3) := by decide +kernel
theorem dX0_becomes_53 : decode cX0_becomes 53 = .ok (.putfield 30, 3) := by decide +kernel
theorem dX0_becomes_56 : decode cX0_becomes 56 = .ok (.iconst 0, 1) := by decide +kernel
theorem dX0_becomes_57 : decode cX0_becomes 57 = .ok (.istore_n 2, 1) := by decide +kernel
theorem dX0_becomes_58 : decode cX0_becomes 58 = .ok (.iload_n 2, 1) := by decide +kernel
theorem dX0_becomes_59 : decode cX0_becomes 59 = .ok (.aload_n 0, 1) := by decide +kernel
theorem dX0_becomes_60 : decode cX0_becomes 60 = .ok (.getfield 24, 3) := by decide +kernel
theorem dX0_becomes_63 : decode cX0_becomes 63 = .ok (.if_icmp .ge 81, 3) := by decide +kernel
theorem dX0_becomes_66 : decode cX0_becomes 66 = .ok (.aload_n 0, 1) := by decide +kernel
theorem dX0_becomes_67 : decode cX0_becomes 67 = .ok (.getfield 33, 3) := by decide +kernel
theorem dX0_becomes_70 : decode cX0_becomes 70 = .ok (.iload_n 2, 1) := by decide +kernel
theorem dX0_becomes_71 : decode cX0_becomes 71 = .ok (.aload_n 1, 1) := by decide +kernel
theorem dX0_becomes_72 : decode cX0_becomes 72 = .ok (.getfield 33, 3) := by decide +kernel
theorem dX0_becomes_75 : decode cX0_becomes 75 = .ok (.iload_n 2, 1) := by decide +kernel
theorem dX0_becomes_76 : decode cX0_becomes 76 = .ok (.iaload, 1) := by decide +kernel
theorem dX0_becomes_77 : decode cX0_becomes 77 = .ok (.iastore, 1) := by decide +kernel
theorem dX0_becomes_78 : decode cX0_becomes 78 = .ok (.aload_n 0, 1) := by decide +kernel
theorem dX0_becomes_79 : decode cX0_becomes 79 = .ok (.getfield 37, 3) := by decide +kernel
theorem dX0_becomes_82 : decode cX0_becomes 82 = .ok (.iload_n 2, 1) := by decide +kernel
theorem dX0_becomes_83 : decode cX0_becomes 83 = .ok (.aload_n 1, 1) := by decide +kernel
theorem dX0_becomes_84 : decode cX0_becomes 84 = .ok (.getfield 37, 3) := by decide +kernel
theorem dX0_becomes_87 : decode cX0_becomes 87 = .ok (.iload_n 2, 1) := by decide +kernel
theorem dX0_becomes_88 : decode cX0_becomes 88 = .ok (.iaload, 1) := by decide +kernel
theorem dX0_becomes_89 : decode cX0_becomes 89 = .ok (.iastore, 1) := by decide +kernel
theorem dX0_becomes_90 : decode cX0_becomes 90 = .ok (.aload_n 0, 1) := by decide +kernel
theorem dX0_becomes_91 : decode cX0_becomes 91 = .ok (.getfield 40, 3) := by decide +kernel
theorem dX0_becomes_94 : decode cX0_becomes 94 = .ok (.iload_n 2, 1) := by decide +kernel
theorem dX0_becomes_95 : decode cX0_becomes 95 = .ok (.aload_n 1, 1) := by decide +kernel
theorem dX0_becomes_96 : decode cX0_becomes 96 = .ok (.getfield 40, 3) := by decide +kernel
theorem dX0_becomes_99 : decode cX0_becomes 99 = .ok (.iload_n 2, 1) := by decide +kernel
theorem dX0_becomes_100 : decode cX0_becomes 100 = .ok (.iaload, 1) := by decide +kernel
theorem dX0_becomes_101 : decode cX0_becomes 101 = .ok (.iastore, 1) := by decide +kernel
theorem dX0_becomes_102 : decode cX0_becomes 102 = .ok (.aload_n 0, 1) := by decide +kernel
theorem dX0_becomes_103 : decode cX0_becomes 103 = .ok (.getfield 43, 3) := by decide +kernel
theorem dX0_becomes_106 : decode cX0_becomes 106 = .ok (.iload_n 2, 1) := by decide +kernel
theorem dX0_becomes_107 : decode cX0_becomes 107 = .ok (.aload_n 1, 1) := by decide +kernel
theorem dX0_becomes_108 : decode cX0_becomes 108 = .ok (.getfield 43, 3) := by decide +kernel
theorem dX0_becomes_111 : decode cX0_becomes 111 = .ok (.iload_n 2, 1) := by decide +kernel
theorem dX0_becomes_112 : decode cX0_becomes 112 = .ok (.iaload, 1) := by decide +kernel
theorem dX0_becomes_113 : decode cX0_becomes 113 = .ok (.iastore, 1) := by decide +kernel
theorem dX0_becomes_114 : decode cX0_becomes 114 = .ok (.aload_n 0, 1) := by decide +kernel
theorem dX0_becomes_115 : decode cX0_becomes 115 = .ok (.getfield 46, 3) := by decide +kernel
theorem dX0_becomes_118 : decode cX0_becomes 118 = .ok (.iload_n 2, 1) := by decide +kernel
theorem dX0_becomes_119 : decode cX0_becomes 119 = .ok (.aload_n 1, 1) := by decide +kernel
theorem dX0_becomes_120 : decode cX0_becomes 120 = .ok (.getfield 46, 3) := by decide +kernel
theorem dX0_becomes_123 : decode cX0_becomes 123 = .ok (.iload_n 2, 1) := by decide +kernel
theorem dX0_becomes_124 : decode cX0_becomes 124 = .ok (.iaload, 1) := by decide +kernel
theorem dX0_becomes_125 : decode cX0_becomes 125 = .ok (.iastore, 1) := by decide +kernel
theorem dX0_becomes_126 : decode cX0_becomes 126 = .ok (.aload_n 0, 1) := by decide +kernel
theorem dX0_becomes_127 : decode cX0_becomes 127 = .ok (.getfield 49, 3) := by decide +kernel
theorem dX0_becomes_130 : decode cX0_becomes 130 = .ok (.iload_n 2, 1) := by decide +kernel
theorem dX0_becomes_131 : decode cX0_becomes 131 = .ok (.aload_n 1, 1) := by decide +kernel
theorem dX0_becomes_132 : decode cX0_becomes 132 = .ok (.getfield 49, 3) := by decide +kernel
theorem dX0_becomes_135 : decode cX0_becomes 135 = .ok (.iload_n 2, 1) := by decide +kernel
theorem dX0_becomes_136 : decode cX0_becomes 136 = .ok (.iaload, 1) := by decide +kernel
theorem dX0_becomes_137 : decode cX0_becomes 137 = .ok (.iastore, 1) := by decide +kernel
theorem dX0_becomes_138 : decode cX0_becomes 138 = .ok (.iinc 2 1, 3) := by decide +kernel
theorem dX0_becomes_141 : decode cX0_becomes 141 = .ok (.goto (-83), 3) := by decide +kernel
theorem dX0_becomes_144 : decode cX0_becomes 144 = .ok (.return_, 1) := by decide +kernel
theorem dX0_has_0 : decode cX0_has 0 = .ok (.iload_n 1, 1) := by decide +kernel
theorem dX0_has_1 : decode cX0_has 1 = .ok (.ifCond .lt 15, 3) := by decide +kernel
theorem dX0_has_4 : decode cX0_has 4 = .ok (.iload_n 1, 1) := by decide +kernel
theorem dX0_has_5 : decode cX0_has 5 = .ok (.aload_n 0, 1) := by decide +kernel
theorem dX0_has_6 : decode cX0_has 6 = .ok (.getfield 24, 3) := by decide +kernel
theorem dX0_has_9 : decode cX0_has 9 = .ok (.if_icmp .ge 7, 3) := by decide +kernel
theorem dX0_has_12 : decode cX0_has 12 = .ok (.iconst 1, 1) := by decide +kernel
theorem dX0_has_13 : decode cX0_has 13 = .ok (.goto 4, 3) := by decide +kernel
theorem dX0_has_16 : decode cX0_has 16 = .ok (.iconst 0, 1) := by decide +kernel
theorem dX0_has_17 : decode cX0_has 17 = .ok (.ireturn, 1) := by decide +kernel
theorem dX0_isOn_0 : decode cX0_isOn 0 = .ok (.aload_n 0, 1) := by decide +kernel
theorem dX0_isOn_1 : decode cX0_isOn 1 = .ok (.getfield 27, 3) := by decide +kernel
theorem dX0_isOn_4 : decode cX0_isOn 4 = .ok (.iload_n 1, 1) := by decide +kernel
theorem dX0_isOn_5 : decode cX0_isOn 5 = .ok (.ishr, 1) := by decide +kernel
theorem dX0_isOn_6 : decode cX0_isOn 6 = .ok (.iconst 1, 1) := by decide +kernel
theorem dX0_isOn_7 : decode cX0_isOn 7 = .ok (.iand, 1) := by decide +kernel
theorem dX0_isOn_8 : decode cX0_isOn 8 = .ok (.iconst 1, 1) := by decide +kernel
theorem dX0_isOn_9 : decode cX0_isOn 9 = .ok (.if_icmp .ne 7, 3) := by decide +kernel
theorem dX0_isOn_12 : decode cX0_isOn 12 = .ok (.iconst 1, 1) := by decide +kernel
theorem dX0_isOn_13 : decode cX0_isOn 13 = .ok (.goto 4, 3) := by decide +kernel
theorem dX0_isOn_16 : decode cX0_isOn 16 = .ok (.iconst 0, 1) := by decide +kernel
theorem dX0_isOn_17 : decode cX0_isOn 17 = .ok (.ireturn, 1) := by decide +kernel
theorem dX0_isLost_0 : decode cX0_isLost 0 = .ok (.aload_n 0, 1) := by decide +kernel
theorem dX0_isLost_1 : decode cX0_isLost 1 = .ok (.getfield 30, 3) := by decide +kernel
theorem dX0_isLost_4 : decode cX0_isLost 4 = .ok (.iload_n 1, 1) := by decide +kernel
theorem dX0_isLost_5 : decode cX0_isLost 5 = .ok (.ishr, 1) := by decide +kernel
theorem dX0_isLost_6 : decode cX0_isLost 6 = .ok (.iconst 1, 1) := by decide +kernel
theorem dX0_isLost_7 : decode cX0_isLost 7 = .ok (.iand, 1) := by decide +kernel
theorem dX0_isLost_8 : decode cX0_isLost 8 = .ok (.iconst 1, 1) := by decide +kernel
theorem dX0_isLost_9 : decode cX0_isLost 9 = .ok (.if_icmp .ne 7, 3) := by decide +kernel
theorem dX0_isLost_12 : decode cX0_isLost 12 = .ok (.iconst 1, 1) := by decide +kernel
theorem dX0_isLost_13 : decode cX0_isLost 13 = .ok (.goto 4, 3) := by decide +kernel
theorem dX0_isLost_16 : decode cX0_isLost 16 = .ok (.iconst 0, 1) := by decide +kernel
theorem dX0_isLost_17 : decode cX0_isLost 17 = .ok (.ireturn, 1) := by decide +kernel
theorem dX0_add_0 : decode cX0_add 0 = .ok (.aload_n 0, 1) := by decide +kernel
theorem dX0_add_1 : decode cX0_add 1 = .ok (.getfield 24, 3) := by decide +kernel
theorem dX0_add_4 : decode cX0_add 4 = .ok (.istore_n 3, 1) := by decide +kernel
theorem dX0_add_5 : decode cX0_add 5 = .ok (.aload_n 0, 1) := by decide +kernel
theorem dX0_add_6 : decode cX0_add 6 = .ok (.getfield 33, 3) := by decide +kernel
theorem dX0_add_9 : decode cX0_add 9 = .ok (.iload_n 3, 1) := by decide +kernel
theorem dX0_add_10 : decode cX0_add 10 = .ok (.iload_n 1, 1) := by decide +kernel
theorem dX0_add_11 : decode cX0_add 11 = .ok (.iastore, 1) := by decide +kernel
theorem dX0_add_12 : decode cX0_add 12 = .ok (.aload_n 0, 1) := by decide +kernel
theorem dX0_add_13 : decode cX0_add 13 = .ok (.getfield 37, 3) := by decide +kernel
theorem dX0_add_16 : decode cX0_add 16 = .ok (.iload_n 3, 1) := by decide +kernel
theorem dX0_add_17 : decode cX0_add 17 = .ok (.iload_n 2, 1) := by decide +kernel
theorem dX0_add_18 : decode cX0_add 18 = .ok (.iastore, 1) := by decide +kernel
theorem dX0_add_19 : decode cX0_add 19 = .ok (.aload_n 0, 1) := by decide +kernel
theorem dX0_add_20 : decode cX0_add 20 = .ok (.getfield 40, 3) := by decide +kernel
theorem dX0_add_23 : decode cX0_add 23 = .ok (.iload_n 3, 1) := by decide +kernel
theorem dX0_add_24 : decode cX0_add 24 = .ok (.iconst 3, 1) := by decide +kernel
theorem dX0_add_25 : decode cX0_add 25 = .ok (.iastore, 1) := by decide +kernel
theorem dX0_add_26 : decode cX0_add 26 = .ok (.aload_n 0, 1) := by decide +kernel
theorem dX0_add_27 : decode cX0_add 27 = .ok (.getfield 43, 3) := by decide +kernel
theorem dX0_add_30 : decode cX0_add 30 = .ok (.iload_n 3, 1) := by decide +kernel
theorem dX0_add_31 : decode cX0_add 31 = .ok (.bipush 50, 2) := by decide +kernel
theorem dX0_add_33 : decode cX0_add 33 = .ok (.iastore, 1) := by decide +kernel
theorem dX0_add_34 : decode cX0_add 34 = .ok (.aload_n 0, 1) := by decide +kernel
theorem dX0_add_35 : decode cX0_add 35 = .ok (.getfield 46, 3) := by decide +kernel
theorem dX0_add_38 : decode cX0_add 38 = .ok (.iload_n 3, 1) := by decide +kernel
theorem dX0_add_39 : decode cX0_add 39 = .ok (.bipush 30, 2) := by decide +kernel
theorem dX0_add_41 : decode cX0_add 41 = .ok (.iastore, 1) := by decide +kernel
theorem dX0_add_42 : decode cX0_add 42 = .ok (.aload_n 0, 1) := by decide +kernel
theorem dX0_add_43 : decode cX0_add 43 = .ok (.getfield 49, 3) := by decide +kernel
theorem dX0_add_46 : decode cX0_add 46 = .ok (.iload_n 3, 1) := by decide +kernel
theorem dX0_add_47 : decode cX0_add 47 = .ok (.iconst 0, 1) := by decide +kernel
theorem dX0_add_48 : decode cX0_add 48 = .ok (.iastore, 1) := by decide +kernel
theorem dX0_add_49 : decode cX0_add 49 = .ok (.aload_n 0, 1) := by decide +kernel
theorem dX0_add_50 : decode cX0_add 50 = .ok (.dup, 1) := by decide +kernel
theorem dX0_add_51 : decode cX0_add 51 = .ok (.getfield 24, 3) := by decide +kernel
theorem dX0_add_54 : decode cX0_add 54 = .ok (.iconst 1, 1) := by decide +kernel
theorem dX0_add_55 : decode cX0_add 55 = .ok (.iadd, 1) := by decide +kernel
theorem dX0_add_56 : decode cX0_add 56 = .ok (.putfield 24, 3) := by decide +kernel
theorem dX0_add_59 : decode cX0_add 59 = .ok (.iload_n 3, 1) := by decide +kernel
theorem dX0_add_60 : decode cX0_add 60 = .ok (.ireturn, 1) := by decide +kernel
theorem dX0_weightOf_0 : decode cX0_weightOf 0 = .ok (.iconst 1, 1) := by decide +kernel
theorem dX0_weightOf_1 : decode cX0_weightOf 1 = .ok (.aload_n 0, 1) := by decide +kernel
theorem dX0_weightOf_2 : decode cX0_weightOf 2 = .ok (.getfield 43, 3) := by decide +kernel
theorem dX0_weightOf_5 : decode cX0_weightOf 5 = .ok (.iload_n 1, 1) := by decide +kernel
theorem dX0_weightOf_6 : decode cX0_weightOf 6 = .ok (.iaload, 1) := by decide +kernel
theorem dX0_weightOf_7 : decode cX0_weightOf 7 = .ok (.bipush 25, 2) := by decide +kernel
theorem dX0_weightOf_9 : decode cX0_weightOf 9 = .ok (.idiv, 1) := by decide +kernel
theorem dX0_weightOf_10 : decode cX0_weightOf 10 = .ok (.iadd, 1) := by decide +kernel
theorem dX0_weightOf_11 : decode cX0_weightOf 11 = .ok (.istore_n 2, 1) := by decide +kernel
theorem dX0_weightOf_12 : decode cX0_weightOf 12 = .ok (.aload_n 0, 1) := by decide +kernel
theorem dX0_weightOf_13 : decode cX0_weightOf 13 = .ok (.getfield 33, 3) := by decide +kernel
theorem dX0_weightOf_16 : decode cX0_weightOf 16 = .ok (.iload_n 1, 1) := by decide +kernel
theorem dX0_weightOf_17 : decode cX0_weightOf 17 = .ok (.iaload, 1) := by decide +kernel
theorem dX0_weightOf_18 : decode cX0_weightOf 18 = .ok (.tableswitch 46 1 5 #[34, 36, 38, 40, 44], 34) := by decide +kernel
theorem dX0_weightOf_52 : decode cX0_weightOf 52 = .ok (.iload_n 2, 1) := by decide +kernel
theorem dX0_weightOf_53 : decode cX0_weightOf 53 = .ok (.ireturn, 1) := by decide +kernel
theorem dX0_weightOf_54 : decode cX0_weightOf 54 = .ok (.iconst 4, 1) := by decide +kernel
theorem dX0_weightOf_55 : decode cX0_weightOf 55 = .ok (.ireturn, 1) := by decide +kernel
theorem dX0_weightOf_56 : decode cX0_weightOf 56 = .ok (.iconst 5, 1) := by decide +kernel
theorem dX0_weightOf_57 : decode cX0_weightOf 57 = .ok (.ireturn, 1) := by decide +kernel
theorem dX0_weightOf_58 : decode cX0_weightOf 58 = .ok (.iload_n 2, 1) := by decide +kernel
theorem dX0_weightOf_59 : decode cX0_weightOf 59 = .ok (.iconst 1, 1) := by decide +kernel
theorem dX0_weightOf_60 : decode cX0_weightOf 60 = .ok (.iadd, 1) := by decide +kernel
theorem dX0_weightOf_61 : decode cX0_weightOf 61 = .ok (.ireturn, 1) := by decide +kernel
theorem dX0_weightOf_62 : decode cX0_weightOf 62 = .ok (.iconst 2, 1) := by decide +kernel
theorem dX0_weightOf_63 : decode cX0_weightOf 63 = .ok (.ireturn, 1) := by decide +kernel
theorem dX0_weightOf_64 : decode cX0_weightOf 64 = .ok (.iconst 3, 1) := by decide +kernel
theorem dX0_weightOf_65 : decode cX0_weightOf 65 = .ok (.ireturn, 1) := by decide +kernel
set_option maxRecDepth 20000 in
theorem ggX0_weightAt_X0_isOn : GoodIn wsX0_weightAt wsX0_isOn := goodIn_r _ [7, 8, 15, 16, 17, 18, 19, 20, 21, 22, 23, 24, 25, 26, 27] (by decide +kernel) (by decide +kernel)
set_option maxRecDepth 20000 in
theorem gX0_weightAt_X0_isOn : GoodIn wsX0_weightAt (wsV RX0 52 RX0 yX0_isOn wsX0_isOn) := goodIn_app (goodIn_of _ (by decide +kernel)) ggX0_weightAt_X0_isOn
set_option maxRecDepth 20000 in
theorem ggX0_weightAt_X0_weightOf : GoodIn wsX0_weightAt wsX0_weightOf := goodIn_r _ [12, 13, 14, 15, 16, 17, 18, 19, 20, 21, 22, 23, 24, 25, 26, 27] (by decide +kernel) (by decide +kernel)
set_option maxRecDepth 20000 in
theorem gX0_weightAt_X0_weightOf : GoodIn wsX0_weightAt (wsV RX0 56 RX0 yX0_weightOf wsX0_weightOf) := goodIn_app (goodIn_of _ (by decide +kernel)) ggX0_weightAt_X0_weightOf
theorem dX0_weightAt_0 : decode cX0_weightAt 0 = .ok (.iconst 0, 1) := by decide +kernel
theorem dX0_weightAt_1 : decode cX0_weightAt 1 = .ok (.istore_n 2, 1) := by decide +kernel
theorem dX0_weightAt_2 : decode cX0_weightAt 2 = .ok (.iconst 0, 1) := by decide +kernel
theorem dX0_weightAt_3 : decode cX0_weightAt 3 = .ok (.istore_n 3, 1) := by decide +kernel
theorem dX0_weightAt_4 : decode cX0_weightAt 4 = .ok (.iload_n 3, 1) := by decide +kernel
theorem dX0_weightAt_5 : decode cX0_weightAt 5 = .ok (.aload_n 0, 1) := by decide +kernel
theorem dX0_weightAt_6 : decode cX0_weightAt 6 = .ok (.getfield 24, 3) := by decide +kernel
theorem dX0_weightAt_9 : decode cX0_weightAt 9 = .ok (.if_icmp .ge 35, 3) := by decide +kernel
theorem dX0_weightAt_12 : decode cX0_weightAt 12 = .ok (.aload_n 0, 1) := by decide +kernel
theorem dX0_weightAt_13 : decode cX0_weightAt 13 = .ok (.getfield 40, 3) := by decide +kernel
theorem dX0_weightAt_16 : decode cX0_weightAt 16 = .ok (.iload_n 3, 1) := by decide +kernel
theorem dX0_weightAt_17 : decode cX0_weightAt 17 = .ok (.iaload, 1) := by decide +kernel
theorem dX0_weightAt_18 : decode cX0_weightAt 18 = .ok (.iload_n 1, 1) := by decide +kernel
theorem dX0_weightAt_19 : decode cX0_weightAt 19 = .ok (.if_icmp .ne 19, 3) := by decide +kernel
theorem dX0_weightAt_22 : decode cX0_weightAt 22 = .ok (.aload_n 0, 1) := by decide +kernel
theorem dX0_weightAt_23 : decode cX0_weightAt 23 = .ok (.iload_n 3, 1) := by decide +kernel
theorem dX0_weightAt_24 : decode cX0_weightAt 24 = .ok (.invokevirtual 52, 3) := by decide +kernel
theorem dX0_weightAt_27 : decode cX0_weightAt 27 = .ok (.ifCond .eq 11, 3) := by decide +kernel
theorem dX0_weightAt_30 : decode cX0_weightAt 30 = .ok (.iload_n 2, 1) := by decide +kernel
theorem dX0_weightAt_31 : decode cX0_weightAt 31 = .ok (.aload_n 0, 1) := by decide +kernel
theorem dX0_weightAt_32 : decode cX0_weightAt 32 = .ok (.iload_n 3, 1) := by decide +kernel
theorem dX0_weightAt_33 : decode cX0_weightAt 33 = .ok (.invokevirtual 56, 3) := by decide +kernel
theorem dX0_weightAt_36 : decode cX0_weightAt 36 = .ok (.iadd, 1) := by decide +kernel
theorem dX0_weightAt_37 : decode cX0_weightAt 37 = .ok (.istore_n 2, 1) := by decide +kernel
theorem dX0_weightAt_38 : decode cX0_weightAt 38 = .ok (.iinc 3 1, 3) := by decide +kernel
theorem dX0_weightAt_41 : decode cX0_weightAt 41 = .ok (.goto (-37), 3) := by decide +kernel
theorem dX0_weightAt_44 : decode cX0_weightAt 44 = .ok (.iload_n 2, 1) := by decide +kernel
theorem dX0_weightAt_45 : decode cX0_weightAt 45 = .ok (.ireturn, 1) := by decide +kernel
set_option maxRecDepth 20000 in
theorem ggX0_weightOfAll_X0_isOn : GoodIn wsX0_weightOfAll wsX0_isOn := goodIn_r _ [6, 7, 14, 15, 16, 17, 18, 19, 20, 21, 22, 23, 24, 25, 26] (by decide +kernel) (by decide +kernel)
set_option maxRecDepth 20000 in
theorem gX0_weightOfAll_X0_isOn : GoodIn wsX0_weightOfAll (wsV RX0 52 RX0 yX0_isOn wsX0_isOn) := goodIn_app (goodIn_of _ (by decide +kernel)) ggX0_weightOfAll_X0_isOn
set_option maxRecDepth 20000 in
theorem ggX0_weightOfAll_X0_weightOf : GoodIn wsX0_weightOfAll wsX0_weightOf := goodIn_r _ [11, 12, 13, 14, 15, 16, 17, 18, 19, 20, 21, 22, 23, 24, 25, 26] (by decide +kernel) (by decide +kernel)
set_option maxRecDepth 20000 in
theorem gX0_weightOfAll_X0_weightOf : GoodIn wsX0_weightOfAll (wsV RX0 56 RX0 yX0_weightOf wsX0_weightOf) := goodIn_app (goodIn_of _ (by decide +kernel)) ggX0_weightOfAll_X0_weightOf
theorem dX0_weightOfAll_0 : decode cX0_weightOfAll 0 = .ok (.iconst 0, 1) := by decide +kernel
theorem dX0_weightOfAll_1 : decode cX0_weightOfAll 1 = .ok (.istore_n 1, 1) := by decide +kernel
theorem dX0_weightOfAll_2 : decode cX0_weightOfAll 2 = .ok (.iconst 0, 1) := by decide +kernel
theorem dX0_weightOfAll_3 : decode cX0_weightOfAll 3 = .ok (.istore_n 2, 1) := by decide +kernel
theorem dX0_weightOfAll_4 : decode cX0_weightOfAll 4 = .ok (.iload_n 2, 1) := by decide +kernel
theorem dX0_weightOfAll_5 : decode cX0_weightOfAll 5 = .ok (.aload_n 0, 1) := by decide +kernel
theorem dX0_weightOfAll_6 : decode cX0_weightOfAll 6 = .ok (.getfield 24, 3) := by decide +kernel
theorem dX0_weightOfAll_9 : decode cX0_weightOfAll 9 = .ok (.if_icmp .ge 25, 3) := by decide +kernel
theorem dX0_weightOfAll_12 : decode cX0_weightOfAll 12 = .ok (.aload_n 0, 1) := by decide +kernel
theorem dX0_weightOfAll_13 : decode cX0_weightOfAll 13 = .ok (.iload_n 2, 1) := by decide +kernel
theorem dX0_weightOfAll_14 : decode cX0_weightOfAll 14 = .ok (.invokevirtual 52, 3) := by decide +kernel
theorem dX0_weightOfAll_17 : decode cX0_weightOfAll 17 = .ok (.ifCond .eq 11, 3) := by decide +kernel
theorem dX0_weightOfAll_20 : decode cX0_weightOfAll 20 = .ok (.iload_n 1, 1) := by decide +kernel
theorem dX0_weightOfAll_21 : decode cX0_weightOfAll 21 = .ok (.aload_n 0, 1) := by decide +kernel
theorem dX0_weightOfAll_22 : decode cX0_weightOfAll 22 = .ok (.iload_n 2, 1) := by decide +kernel
theorem dX0_weightOfAll_23 : decode cX0_weightOfAll 23 = .ok (.invokevirtual 56, 3) := by decide +kernel
theorem dX0_weightOfAll_26 : decode cX0_weightOfAll 26 = .ok (.iadd, 1) := by decide +kernel
theorem dX0_weightOfAll_27 : decode cX0_weightOfAll 27 = .ok (.istore_n 1, 1) := by decide +kernel
theorem dX0_weightOfAll_28 : decode cX0_weightOfAll 28 = .ok (.iinc 2 1, 3) := by decide +kernel
theorem dX0_weightOfAll_31 : decode cX0_weightOfAll 31 = .ok (.goto (-27), 3) := by decide +kernel
theorem dX0_weightOfAll_34 : decode cX0_weightOfAll 34 = .ok (.iload_n 1, 1) := by decide +kernel
theorem dX0_weightOfAll_35 : decode cX0_weightOfAll 35 = .ok (.ireturn, 1) := by decide +kernel
theorem dX0_bears_0 : decode cX0_bears 0 = .ok (.iconst 0, 1) := by decide +kernel
theorem dX0_bears_1 : decode cX0_bears 1 = .ok (.aload_n 0, 1) := by decide +kernel
theorem dX0_bears_2 : decode cX0_bears 2 = .ok (.getfield 21, 3) := by decide +kernel
theorem dX0_bears_5 : decode cX0_bears 5 = .ok (.iconst 2, 1) := by decide +kernel
theorem dX0_bears_6 : decode cX0_bears 6 = .ok (.iload_n 1, 1) := by decide +kernel
theorem dX0_bears_7 : decode cX0_bears 7 = .ok (.imul, 1) := by decide +kernel
theorem dX0_bears_8 : decode cX0_bears 8 = .ok (.isub, 1) := by decide +kernel
theorem dX0_bears_9 : decode cX0_bears 9 = .ok (.invokestatic 60, 3) := by decide +kernel
theorem dX0_bears_12 : decode cX0_bears 12 = .ok (.ireturn, 1) := by decide +kernel
set_option maxRecDepth 20000 in
theorem ggX0_isBorne_X0_weightAt : GoodIn wsX0_isBorne wsX0_weightAt := goodIn_r _ [6, 7, 1, 8, 9, 10, 5, 11, 12, 13, 14, 15, 16, 17, 18, 28, 29, 30, 31, 32, 33, 34, 35, 36, 37, 38, 39, 40] (by decide +kernel) (by decide +kernel)
set_option maxRecDepth 20000 in
theorem gX0_isBorne_X0_weightAt : GoodIn wsX0_isBorne (wsV RX0 66 RX0 yX0_weightAt wsX0_weightAt) := goodIn_app (goodIn_of _ (by decide +kernel)) ggX0_isBorne_X0_weightAt
set_option maxRecDepth 20000 in
theorem ggX0_isBorne_X0_weightOf : GoodIn wsX0_isBorne wsX0_weightOf := goodIn_r _ [16, 17, 18, 28, 29, 30, 31, 32, 33, 34, 35, 36, 37, 38, 39, 40] (by decide +kernel) (by decide +kernel)
set_option maxRecDepth 20000 in
theorem gX0_isBorne_X0_weightOf : GoodIn wsX0_isBorne (wsV RX0 56 RX0 yX0_weightOf wsX0_weightOf) := goodIn_app (goodIn_of _ (by decide +kernel)) ggX0_isBorne_X0_weightOf
set_option maxRecDepth 20000 in
theorem ggX0_isBorne_X0_bears : GoodIn wsX0_isBorne wsX0_bears := goodIn_r _ [22, 23, 24, 25, 26, 27, 28, 29, 30, 31, 32, 33, 34, 35, 36, 37, 38, 39, 40] (by decide +kernel) (by decide +kernel)
set_option maxRecDepth 20000 in
theorem gX0_isBorne_X0_bears : GoodIn wsX0_isBorne (wsV RX0 69 RX0 yX0_bears wsX0_bears) := goodIn_app (goodIn_of _ (by decide +kernel)) ggX0_isBorne_X0_bears
theorem dX0_isBorne_0 : decode cX0_isBorne 0 = .ok (.aload_n 0, 1) := by decide +kernel
theorem dX0_isBorne_1 : decode cX0_isBorne 1 = .ok (.aload_n 0, 1) := by decide +kernel
theorem dX0_isBorne_2 : decode cX0_isBorne 2 = .ok (.getfield 40, 3) := by decide +kernel
theorem dX0_isBorne_5 : decode cX0_isBorne 5 = .ok (.iload_n 1, 1) := by decide +kernel
theorem dX0_isBorne_6 : decode cX0_isBorne 6 = .ok (.iaload, 1) := by decide +kernel
theorem dX0_isBorne_7 : decode cX0_isBorne 7 = .ok (.invokevirtual 66, 3) := by decide +kernel
theorem dX0_isBorne_10 : decode cX0_isBorne 10 = .ok (.aload_n 0, 1) := by decide +kernel
theorem dX0_isBorne_11 : decode cX0_isBorne 11 = .ok (.iload_n 1, 1) := by decide +kernel
theorem dX0_isBorne_12 : decode cX0_isBorne 12 = .ok (.invokevirtual 56, 3) := by decide +kernel
theorem dX0_isBorne_15 : decode cX0_isBorne 15 = .ok (.iadd, 1) := by decide +kernel
theorem dX0_isBorne_16 : decode cX0_isBorne 16 = .ok (.aload_n 0, 1) := by decide +kernel
theorem dX0_isBorne_17 : decode cX0_isBorne 17 = .ok (.aload_n 0, 1) := by decide +kernel
theorem dX0_isBorne_18 : decode cX0_isBorne 18 = .ok (.getfield 40, 3) := by decide +kernel
theorem dX0_isBorne_21 : decode cX0_isBorne 21 = .ok (.iload_n 1, 1) := by decide +kernel
theorem dX0_isBorne_22 : decode cX0_isBorne 22 = .ok (.iaload, 1) := by decide +kernel
theorem dX0_isBorne_23 : decode cX0_isBorne 23 = .ok (.invokevirtual 69, 3) := by decide +kernel
theorem dX0_isBorne_26 : decode cX0_isBorne 26 = .ok (.if_icmp .gt 7, 3) := by decide +kernel
theorem dX0_isBorne_29 : decode cX0_isBorne 29 = .ok (.iconst 1, 1) := by decide +kernel
theorem dX0_isBorne_30 : decode cX0_isBorne 30 = .ok (.goto 4, 3) := by decide +kernel
theorem dX0_isBorne_33 : decode cX0_isBorne 33 = .ok (.iconst 0, 1) := by decide +kernel
theorem dX0_isBorne_34 : decode cX0_isBorne 34 = .ok (.ireturn, 1) := by decide +kernel
set_option maxRecDepth 20000 in
theorem ggX0_getsOn_J6_bitCount_0f7a4 : GoodIn wsX0_getsOn wsJ6_bitCount_0f7a4 := goodIn_r _ [10, 11, 12, 13] (by decide +kernel) (by decide +kernel)
set_option maxRecDepth 20000 in
theorem gX0_getsOn_J6_bitCount_0f7a4 : GoodIn wsX0_getsOn (va_wsS RX0 72 yJ6_bitCount_0f7a4 wsJ6_bitCount_0f7a4) := goodIn_app (goodIn_of _ (by decide +kernel)) ggX0_getsOn_J6_bitCount_0f7a4
theorem dX0_getsOn_0 : decode cX0_getsOn 0 = .ok (.aload_n 0, 1) := by decide +kernel
theorem dX0_getsOn_1 : decode cX0_getsOn 1 = .ok (.getfield 33, 3) := by decide +kernel
theorem dX0_getsOn_4 : decode cX0_getsOn 4 = .ok (.iload_n 1, 1) := by decide +kernel
theorem dX0_getsOn_5 : decode cX0_getsOn 5 = .ok (.iaload, 1) := by decide +kernel
theorem dX0_getsOn_6 : decode cX0_getsOn 6 = .ok (.tableswitch 138 1 5 #[34, 49, 70, 87, 110], 34) := by decide +kernel
theorem dX0_getsOn_40 : decode cX0_getsOn 40 = .ok (.aload_n 0, 1) := by decide +kernel
theorem dX0_getsOn_41 : decode cX0_getsOn 41 = .ok (.getfield 43, 3) := by decide +kernel
theorem dX0_getsOn_44 : decode cX0_getsOn 44 = .ok (.iload_n 1, 1) := by decide +kernel
theorem dX0_getsOn_45 : decode cX0_getsOn 45 = .ok (.iaload, 1) := by decide +kernel
theorem dX0_getsOn_46 : decode cX0_getsOn 46 = .ok (.ifCond .le 7, 3) := by decide +kernel
theorem dX0_getsOn_49 : decode cX0_getsOn 49 = .ok (.iconst 1, 1) := by decide +kernel
theorem dX0_getsOn_50 : decode cX0_getsOn 50 = .ok (.goto 4, 3) := by decide +kernel
theorem dX0_getsOn_53 : decode cX0_getsOn 53 = .ok (.iconst 0, 1) := by decide +kernel
theorem dX0_getsOn_54 : decode cX0_getsOn 54 = .ok (.ireturn, 1) := by decide +kernel
theorem dX0_getsOn_55 : decode cX0_getsOn 55 = .ok (.aload_n 0, 1) := by decide +kernel
theorem dX0_getsOn_56 : decode cX0_getsOn 56 = .ok (.getfield 37, 3) := by decide +kernel
theorem dX0_getsOn_59 : decode cX0_getsOn 59 = .ok (.iload_n 1, 1) := by decide +kernel
theorem dX0_getsOn_60 : decode cX0_getsOn 60 = .ok (.iaload, 1) := by decide +kernel
theorem dX0_getsOn_61 : decode cX0_getsOn 61 = .ok (.aload_n 0, 1) := by decide +kernel
theorem dX0_getsOn_62 : decode cX0_getsOn 62 = .ok (.getfield 46, 3) := by decide +kernel
theorem dX0_getsOn_65 : decode cX0_getsOn 65 = .ok (.iload_n 1, 1) := by decide +kernel
theorem dX0_getsOn_66 : decode cX0_getsOn 66 = .ok (.iaload, 1) := by decide +kernel
theorem dX0_getsOn_67 : decode cX0_getsOn 67 = .ok (.if_icmp .eq 7, 3) := by decide +kernel
theorem dX0_getsOn_70 : decode cX0_getsOn 70 = .ok (.iconst 1, 1) := by decide +kernel
theorem dX0_getsOn_71 : decode cX0_getsOn 71 = .ok (.goto 4, 3) := by decide +kernel
theorem dX0_getsOn_74 : decode cX0_getsOn 74 = .ok (.iconst 0, 1) := by decide +kernel
theorem dX0_getsOn_75 : decode cX0_getsOn 75 = .ok (.ireturn, 1) := by decide +kernel
theorem dX0_getsOn_76 : decode cX0_getsOn 76 = .ok (.aload_n 0, 1) := by decide +kernel
theorem dX0_getsOn_77 : decode cX0_getsOn 77 = .ok (.getfield 27, 3) := by decide +kernel
theorem dX0_getsOn_80 : decode cX0_getsOn 80 = .ok (.invokestatic 72, 3) := by decide +kernel
theorem dX0_getsOn_83 : decode cX0_getsOn 83 = .ok (.iconst 3, 1) := by decide +kernel
theorem dX0_getsOn_84 : decode cX0_getsOn 84 = .ok (.if_icmp .ge 7, 3) := by decide +kernel
theorem dX0_getsOn_87 : decode cX0_getsOn 87 = .ok (.iconst 1, 1) := by decide +kernel
theorem dX0_getsOn_88 : decode cX0_getsOn 88 = .ok (.goto 4, 3) := by decide +kernel
theorem dX0_getsOn_91 : decode cX0_getsOn 91 = .ok (.iconst 0, 1) := by decide +kernel
theorem dX0_getsOn_92 : decode cX0_getsOn 92 = .ok (.ireturn, 1) := by decide +kernel
theorem dX0_getsOn_93 : decode cX0_getsOn 93 = .ok (.aload_n 0, 1) := by decide +kernel
theorem dX0_getsOn_94 : decode cX0_getsOn 94 = .ok (.getfield 43, 3) := by decide +kernel
theorem dX0_getsOn_97 : decode cX0_getsOn 97 = .ok (.iload_n 1, 1) := by decide +kernel
theorem dX0_getsOn_98 : decode cX0_getsOn 98 = .ok (.iaload, 1) := by decide +kernel
theorem dX0_getsOn_99 : decode cX0_getsOn 99 = .ok (.ifCond .le 15, 3) := by decide +kernel
theorem dX0_getsOn_102 : decode cX0_getsOn 102 = .ok (.aload_n 0, 1) := by decide +kernel
theorem dX0_getsOn_103 : decode cX0_getsOn 103 = .ok (.getfield 18, 3) := by decide +kernel
theorem dX0_getsOn_106 : decode cX0_getsOn 106 = .ok (.iconst 5, 1) := by decide +kernel
theorem dX0_getsOn_107 : decode cX0_getsOn 107 = .ok (.if_icmp .gt 7, 3) := by decide +kernel
theorem dX0_getsOn_110 : decode cX0_getsOn 110 = .ok (.iconst 1, 1) := by decide +kernel
theorem dX0_getsOn_111 : decode cX0_getsOn 111 = .ok (.goto 4, 3) := by decide +kernel
theorem dX0_getsOn_114 : decode cX0_getsOn 114 = .ok (.iconst 0, 1) := by decide +kernel
theorem dX0_getsOn_115 : decode cX0_getsOn 115 = .ok (.ireturn, 1) := by decide +kernel
theorem dX0_getsOn_116 : decode cX0_getsOn 116 = .ok (.aload_n 0, 1) := by decide +kernel
theorem dX0_getsOn_117 : decode cX0_getsOn 117 = .ok (.getfield 37, 3) := by decide +kernel
theorem dX0_getsOn_120 : decode cX0_getsOn 120 = .ok (.iload_n 1, 1) := by decide +kernel
theorem dX0_getsOn_121 : decode cX0_getsOn 121 = .ok (.iaload, 1) := by decide +kernel
theorem dX0_getsOn_122 : decode cX0_getsOn 122 = .ok (.aload_n 0, 1) := by decide +kernel
theorem dX0_getsOn_123 : decode cX0_getsOn 123 = .ok (.getfield 46, 3) := by decide +kernel
theorem dX0_getsOn_126 : decode cX0_getsOn 126 = .ok (.iload_n 1, 1) := by decide +kernel
theorem dX0_getsOn_127 : decode cX0_getsOn 127 = .ok (.iaload, 1) := by decide +kernel
theorem dX0_getsOn_128 : decode cX0_getsOn 128 = .ok (.if_icmp .eq 14, 3) := by decide +kernel
theorem dX0_getsOn_131 : decode cX0_getsOn 131 = .ok (.aload_n 0, 1) := by decide +kernel
theorem dX0_getsOn_132 : decode cX0_getsOn 132 = .ok (.getfield 27, 3) := by decide +kernel
theorem dX0_getsOn_135 : decode cX0_getsOn 135 = .ok (.ifCond .eq 7, 3) := by decide +kernel
theorem dX0_getsOn_138 : decode cX0_getsOn 138 = .ok (.iconst 1, 1) := by decide +kernel
theorem dX0_getsOn_139 : decode cX0_getsOn 139 = .ok (.goto 4, 3) := by decide +kernel
theorem dX0_getsOn_142 : decode cX0_getsOn 142 = .ok (.iconst 0, 1) := by decide +kernel
theorem dX0_getsOn_143 : decode cX0_getsOn 143 = .ok (.ireturn, 1) := by decide +kernel
theorem dX0_getsOn_144 : decode cX0_getsOn 144 = .ok (.iconst 0, 1) := by decide +kernel
theorem dX0_getsOn_145 : decode cX0_getsOn 145 = .ok (.ireturn, 1) := by decide +kernel
theorem dX0_getsOff_0 : decode cX0_getsOff 0 = .ok (.aload_n 0, 1) := by decide +kernel
theorem dX0_getsOff_1 : decode cX0_getsOff 1 = .ok (.getfield 33, 3) := by decide +kernel
theorem dX0_getsOff_4 : decode cX0_getsOff 4 = .ok (.iload_n 1, 1) := by decide +kernel
theorem dX0_getsOff_5 : decode cX0_getsOff 5 = .ok (.iaload, 1) := by decide +kernel
theorem dX0_getsOff_6 : decode cX0_getsOff 6 = .ok (.tableswitch 145 1 5 #[34, 49, 68, 92, 116], 34) := by decide +kernel
theorem dX0_getsOff_40 : decode cX0_getsOff 40 = .ok (.aload_n 0, 1) := by decide +kernel
theorem dX0_getsOff_41 : decode cX0_getsOff 41 = .ok (.getfield 43, 3) := by decide +kernel
theorem dX0_getsOff_44 : decode cX0_getsOff 44 = .ok (.iload_n 1, 1) := by decide +kernel
theorem dX0_getsOff_45 : decode cX0_getsOff 45 = .ok (.iaload, 1) := by decide +kernel
theorem dX0_getsOff_46 : decode cX0_getsOff 46 = .ok (.ifCond .ne 7, 3) := by decide +kernel
theorem dX0_getsOff_49 : decode cX0_getsOff 49 = .ok (.iconst 1, 1) := by decide +kernel
theorem dX0_getsOff_50 : decode cX0_getsOff 50 = .ok (.goto 4, 3) := by decide +kernel
theorem dX0_getsOff_53 : decode cX0_getsOff 53 = .ok (.iconst 0, 1) := by decide +kernel
theorem dX0_getsOff_54 : decode cX0_getsOff 54 = .ok (.ireturn, 1) := by decide +kernel
theorem dX0_getsOff_55 : decode cX0_getsOff 55 = .ok (.aload_n 0, 1) := by decide +kernel
theorem dX0_getsOff_56 : decode cX0_getsOff 56 = .ok (.getfield 15, 3) := by decide +kernel
theorem dX0_getsOff_59 : decode cX0_getsOff 59 = .ok (.aload_n 0, 1) := by decide +kernel
theorem dX0_getsOff_60 : decode cX0_getsOff 60 = .ok (.getfield 46, 3) := by decide +kernel
theorem dX0_getsOff_63 : decode cX0_getsOff 63 = .ok (.iload_n 1, 1) := by decide +kernel
theorem dX0_getsOff_64 : decode cX0_getsOff 64 = .ok (.iaload, 1) := by decide +kernel
theorem dX0_getsOff_65 : decode cX0_getsOff 65 = .ok (.if_icmp .ne 7, 3) := by decide +kernel
theorem dX0_getsOff_68 : decode cX0_getsOff 68 = .ok (.iconst 1, 1) := by decide +kernel
theorem dX0_getsOff_69 : decode cX0_getsOff 69 = .ok (.goto 4, 3) := by decide +kernel
theorem dX0_getsOff_72 : decode cX0_getsOff 72 = .ok (.iconst 0, 1) := by decide +kernel
theorem dX0_getsOff_73 : decode cX0_getsOff 73 = .ok (.ireturn, 1) := by decide +kernel
theorem dX0_getsOff_74 : decode cX0_getsOff 74 = .ok (.aload_n 0, 1) := by decide +kernel
theorem dX0_getsOff_75 : decode cX0_getsOff 75 = .ok (.getfield 15, 3) := by decide +kernel
theorem dX0_getsOff_78 : decode cX0_getsOff 78 = .ok (.bipush 38, 2) := by decide +kernel
theorem dX0_getsOff_80 : decode cX0_getsOff 80 = .ok (.if_icmp .eq 12, 3) := by decide +kernel
theorem dX0_getsOff_83 : decode cX0_getsOff 83 = .ok (.aload_n 0, 1) := by decide +kernel
theorem dX0_getsOff_84 : decode cX0_getsOff 84 = .ok (.getfield 15, 3) := by decide +kernel
theorem dX0_getsOff_87 : decode cX0_getsOff 87 = .ok (.bipush 39, 2) := by decide +kernel
theorem dX0_getsOff_89 : decode cX0_getsOff 89 = .ok (.if_icmp .ne 7, 3) := by decide +kernel
theorem dX0_getsOff_92 : decode cX0_getsOff 92 = .ok (.iconst 1, 1) := by decide +kernel
theorem dX0_getsOff_93 : decode cX0_getsOff 93 = .ok (.goto 4, 3) := by decide +kernel
theorem dX0_getsOff_96 : decode cX0_getsOff 96 = .ok (.iconst 0, 1) := by decide +kernel
theorem dX0_getsOff_97 : decode cX0_getsOff 97 = .ok (.ireturn, 1) := by decide +kernel
theorem dX0_getsOff_98 : decode cX0_getsOff 98 = .ok (.aload_n 0, 1) := by decide +kernel
theorem dX0_getsOff_99 : decode cX0_getsOff 99 = .ok (.getfield 43, 3) := by decide +kernel
theorem dX0_getsOff_102 : decode cX0_getsOff 102 = .ok (.iload_n 1, 1) := by decide +kernel
theorem dX0_getsOff_103 : decode cX0_getsOff 103 = .ok (.iaload, 1) := by decide +kernel
theorem dX0_getsOff_104 : decode cX0_getsOff 104 = .ok (.ifCond .eq 12, 3) := by decide +kernel
theorem dX0_getsOff_107 : decode cX0_getsOff 107 = .ok (.aload_n 0, 1) := by decide +kernel
theorem dX0_getsOff_108 : decode cX0_getsOff 108 = .ok (.getfield 15, 3) := by decide +kernel
theorem dX0_getsOff_111 : decode cX0_getsOff 111 = .ok (.bipush 35, 2) := by decide +kernel
theorem dX0_getsOff_113 : decode cX0_getsOff 113 = .ok (.if_icmp .lt 7, 3) := by decide +kernel
theorem dX0_getsOff_116 : decode cX0_getsOff 116 = .ok (.iconst 1, 1) := by decide +kernel
theorem dX0_getsOff_117 : decode cX0_getsOff 117 = .ok (.goto 4, 3) := by decide +kernel
theorem dX0_getsOff_120 : decode cX0_getsOff 120 = .ok (.iconst 0, 1) := by decide +kernel
theorem dX0_getsOff_121 : decode cX0_getsOff 121 = .ok (.ireturn, 1) := by decide +kernel
theorem dX0_getsOff_122 : decode cX0_getsOff 122 = .ok (.aload_n 0, 1) := by decide +kernel
theorem dX0_getsOff_123 : decode cX0_getsOff 123 = .ok (.getfield 15, 3) := by decide +kernel
theorem dX0_getsOff_126 : decode cX0_getsOff 126 = .ok (.aload_n 0, 1) := by decide +kernel
theorem dX0_getsOff_127 : decode cX0_getsOff 127 = .ok (.getfield 46, 3) := by decide +kernel
theorem dX0_getsOff_130 : decode cX0_getsOff 130 = .ok (.iload_n 1, 1) := by decide +kernel
theorem dX0_getsOff_131 : decode cX0_getsOff 131 = .ok (.iaload, 1) := by decide +kernel
theorem dX0_getsOff_132 : decode cX0_getsOff 132 = .ok (.if_icmp .eq 13, 3) := by decide +kernel
theorem dX0_getsOff_135 : decode cX0_getsOff 135 = .ok (.aload_n 0, 1) := by decide +kernel
theorem dX0_getsOff_136 : decode cX0_getsOff 136 = .ok (.getfield 27, 3) := by decide +kernel
theorem dX0_getsOff_139 : decode cX0_getsOff 139 = .ok (.iconst 1, 1) := by decide +kernel
theorem dX0_getsOff_140 : decode cX0_getsOff 140 = .ok (.iload_n 1, 1) := by decide +kernel
theorem dX0_getsOff_141 : decode cX0_getsOff 141 = .ok (.ishl, 1) := by decide +kernel
theorem dX0_getsOff_142 : decode cX0_getsOff 142 = .ok (.if_icmp .ne 7, 3) := by decide +kernel
theorem dX0_getsOff_145 : decode cX0_getsOff 145 = .ok (.iconst 1, 1) := by decide +kernel
theorem dX0_getsOff_146 : decode cX0_getsOff 146 = .ok (.goto 4, 3) := by decide +kernel
theorem dX0_getsOff_149 : decode cX0_getsOff 149 = .ok (.iconst 0, 1) := by decide +kernel
theorem dX0_getsOff_150 : decode cX0_getsOff 150 = .ok (.ireturn, 1) := by decide +kernel
theorem dX0_getsOff_151 : decode cX0_getsOff 151 = .ok (.iconst 0, 1) := by decide +kernel
theorem dX0_getsOff_152 : decode cX0_getsOff 152 = .ok (.ireturn, 1) := by decide +kernel
theorem dX0_dries_0 : decode cX0_dries 0 = .ok (.iconst 3, 1) := by decide +kernel
theorem dX0_dries_1 : decode cX0_dries 1 = .ok (.aload_n 0, 1) := by decide +kernel
theorem dX0_dries_2 : decode cX0_dries 2 = .ok (.getfield 40, 3) := by decide +kernel
theorem dX0_dries_5 : decode cX0_dries 5 = .ok (.iload_n 1, 1) := by decide +kernel
theorem dX0_dries_6 : decode cX0_dries 6 = .ok (.iaload, 1) := by decide +kernel
theorem dX0_dries_7 : decode cX0_dries 7 = .ok (.iconst 3, 1) := by decide +kernel
theorem dX0_dries_8 : decode cX0_dries 8 = .ok (.idiv, 1) := by decide +kernel
theorem dX0_dries_9 : decode cX0_dries 9 = .ok (.iadd, 1) := by decide +kernel
theorem dX0_dries_10 : decode cX0_dries 10 = .ok (.istore_n 2, 1) := by decide +kernel
theorem dX0_dries_11 : decode cX0_dries 11 = .ok (.aload_n 0, 1) := by decide +kernel
theorem dX0_dries_12 : decode cX0_dries 12 = .ok (.getfield 33, 3) := by decide +kernel
theorem dX0_dries_15 : decode cX0_dries 15 = .ok (.iload_n 1, 1) := by decide +kernel
theorem dX0_dries_16 : decode cX0_dries 16 = .ok (.iaload, 1) := by decide +kernel
theorem dX0_dries_17 : decode cX0_dries 17 = .ok (.tableswitch 44 1 4 #[31, 44, 33, 35], 31) := by decide +kernel
theorem dX0_dries_48 : decode cX0_dries 48 = .ok (.iload_n 2, 1) := by decide +kernel
theorem dX0_dries_49 : decode cX0_dries 49 = .ok (.ireturn, 1) := by decide +kernel
theorem dX0_dries_50 : decode cX0_dries 50 = .ok (.iconst 0, 1) := by decide +kernel
theorem dX0_dries_51 : decode cX0_dries 51 = .ok (.ireturn, 1) := by decide +kernel
theorem dX0_dries_52 : decode cX0_dries 52 = .ok (.iload_n 2, 1) := by decide +kernel
theorem dX0_dries_53 : decode cX0_dries 53 = .ok (.aload_n 0, 1) := by decide +kernel
theorem dX0_dries_54 : decode cX0_dries 54 = .ok (.getfield 18, 3) := by decide +kernel
theorem dX0_dries_57 : decode cX0_dries 57 = .ok (.iconst 2, 1) := by decide +kernel
theorem dX0_dries_58 : decode cX0_dries 58 = .ok (.idiv, 1) := by decide +kernel
theorem dX0_dries_59 : decode cX0_dries 59 = .ok (.iadd, 1) := by decide +kernel
theorem dX0_dries_60 : decode cX0_dries 60 = .ok (.ireturn, 1) := by decide +kernel
theorem dX0_dries_61 : decode cX0_dries 61 = .ok (.iconst 1, 1) := by decide +kernel
theorem dX0_dries_62 : decode cX0_dries 62 = .ok (.ireturn, 1) := by decide +kernel
theorem dX0_comeOn_0 : decode cX0_comeOn 0 = .ok (.aload_n 0, 1) := by decide +kernel
theorem dX0_comeOn_1 : decode cX0_comeOn 1 = .ok (.dup, 1) := by decide +kernel
theorem dX0_comeOn_2 : decode cX0_comeOn 2 = .ok (.getfield 27, 3) := by decide +kernel
theorem dX0_comeOn_5 : decode cX0_comeOn 5 = .ok (.iconst 1, 1) := by decide +kernel
theorem dX0_comeOn_6 : decode cX0_comeOn 6 = .ok (.iload_n 1, 1) := by decide +kernel
theorem dX0_comeOn_7 : decode cX0_comeOn 7 = .ok (.ishl, 1) := by decide +kernel
theorem dX0_comeOn_8 : decode cX0_comeOn 8 = .ok (.ior, 1) := by decide +kernel
theorem dX0_comeOn_9 : decode cX0_comeOn 9 = .ok (.putfield 27, 3) := by decide +kernel
theorem dX0_comeOn_12 : decode cX0_comeOn 12 = .ok (.aload_n 0, 1) := by decide +kernel
theorem dX0_comeOn_13 : decode cX0_comeOn 13 = .ok (.getfield 49, 3) := by decide +kernel
theorem dX0_comeOn_16 : decode cX0_comeOn 16 = .ok (.iload_n 1, 1) := by decide +kernel
theorem dX0_comeOn_17 : decode cX0_comeOn 17 = .ok (.aload_n 0, 1) := by decide +kernel
theorem dX0_comeOn_18 : decode cX0_comeOn 18 = .ok (.getfield 49, 3) := by decide +kernel
theorem dX0_comeOn_21 : decode cX0_comeOn 21 = .ok (.iload_n 1, 1) := by decide +kernel
theorem dX0_comeOn_22 : decode cX0_comeOn 22 = .ok (.iaload, 1) := by decide +kernel
theorem dX0_comeOn_23 : decode cX0_comeOn 23 = .ok (.iconst 1, 1) := by decide +kernel
theorem dX0_comeOn_24 : decode cX0_comeOn 24 = .ok (.iadd, 1) := by decide +kernel
theorem dX0_comeOn_25 : decode cX0_comeOn 25 = .ok (.sipush 9999, 3) := by decide +kernel
theorem dX0_comeOn_28 : decode cX0_comeOn 28 = .ok (.invokestatic 77, 3) := by decide +kernel
theorem dX0_comeOn_31 : decode cX0_comeOn 31 = .ok (.iastore, 1) := by decide +kernel
theorem dX0_comeOn_32 : decode cX0_comeOn 32 = .ok (.return_, 1) := by decide +kernel
theorem dX0_goOff_0 : decode cX0_goOff 0 = .ok (.aload_n 0, 1) := by decide +kernel
theorem dX0_goOff_1 : decode cX0_goOff 1 = .ok (.dup, 1) := by decide +kernel
theorem dX0_goOff_2 : decode cX0_goOff 2 = .ok (.getfield 27, 3) := by decide +kernel
theorem dX0_goOff_5 : decode cX0_goOff 5 = .ok (.iconst 1, 1) := by decide +kernel
theorem dX0_goOff_6 : decode cX0_goOff 6 = .ok (.iload_n 1, 1) := by decide +kernel
theorem dX0_goOff_7 : decode cX0_goOff 7 = .ok (.ishl, 1) := by decide +kernel
theorem dX0_goOff_8 : decode cX0_goOff 8 = .ok (.iconst (-1), 1) := by decide +kernel
theorem dX0_goOff_9 : decode cX0_goOff 9 = .ok (.ixor, 1) := by decide +kernel
theorem dX0_goOff_10 : decode cX0_goOff 10 = .ok (.iand, 1) := by decide +kernel
theorem dX0_goOff_11 : decode cX0_goOff 11 = .ok (.putfield 27, 3) := by decide +kernel
theorem dX0_goOff_14 : decode cX0_goOff 14 = .ok (.aload_n 0, 1) := by decide +kernel
theorem dX0_goOff_15 : decode cX0_goOff 15 = .ok (.getfield 37, 3) := by decide +kernel
theorem dX0_goOff_18 : decode cX0_goOff 18 = .ok (.iload_n 1, 1) := by decide +kernel
theorem dX0_goOff_19 : decode cX0_goOff 19 = .ok (.aload_n 0, 1) := by decide +kernel
theorem dX0_goOff_20 : decode cX0_goOff 20 = .ok (.getfield 15, 3) := by decide +kernel
theorem dX0_goOff_23 : decode cX0_goOff 23 = .ok (.iastore, 1) := by decide +kernel
theorem dX0_goOff_24 : decode cX0_goOff 24 = .ok (.return_, 1) := by decide +kernel
set_option maxRecDepth 20000 in
theorem ggX0_goSeconds_X0_passBearing : GoodIn wsX0_goSeconds wsX0_passBearing := goodIn_r _ [9, 10, 1, 11, 3, 12, 13, 14, 15, 8, 16, 17, 18, 19, 20, 21, 22, 23, 24, 25, 26, 27, 28, 29, 30, 31, 2, 32, 33, 34, 35, 36, 37, 38, 39, 40, 41, 42, 43, 44, 45, 46, 47, 48, 49, 50, 51, 52, 53, 54, 55, 56, 57, 58, 59, 60, 61, 62, 63, 64, 65, 66, 67, 68, 69, 70, 71, 72, 81, 82, 83, 84, 85, 86, 87, 88, 89, 90, 91, 92, 93] (by decide +kernel) (by decide +kernel)
set_option maxRecDepth 20000 in
theorem gX0_goSeconds_X0_passBearing : GoodIn wsX0_goSeconds (wsV RX0 80 RX0 yX0_passBearing wsX0_passBearing) := goodIn_app (goodIn_of _ (by decide +kernel)) ggX0_goSeconds_X0_passBearing
set_option maxRecDepth 20000 in
theorem ggX0_goSeconds_X0_dryAndRide : GoodIn wsX0_goSeconds wsX0_dryAndRide := goodIn_r _ [76, 10, 22, 61, 62, 63, 64, 11, 3, 48, 49, 50, 8, 51, 1, 77, 78, 79, 80, 43, 21, 2, 81, 82, 83, 84, 85, 86, 87, 88, 89, 90, 91, 92, 93] (by decide +kernel) (by decide +kernel)
set_option maxRecDepth 20000 in
theorem gX0_goSeconds_X0_dryAndRide : GoodIn wsX0_goSeconds (wsV RX0 84 RX0 yX0_dryAndRide wsX0_dryAndRide) := goodIn_app (goodIn_of _ (by decide +kernel)) ggX0_goSeconds_X0_dryAndRide
theorem dX0_goSeconds_0 : decode cX0_goSeconds 0 = .ok (.iconst 0, 1) := by decide +kernel
theorem dX0_goSeconds_1 : decode cX0_goSeconds 1 = .ok (.istore_n 2, 1) := by decide +kernel
theorem dX0_goSeconds_2 : decode cX0_goSeconds 2 = .ok (.iload_n 2, 1) := by decide +kernel
theorem dX0_goSeconds_3 : decode cX0_goSeconds 3 = .ok (.iload_n 1, 1) := by decide +kernel
theorem dX0_goSeconds_4 : decode cX0_goSeconds 4 = .ok (.if_icmp .ge 74, 3) := by decide +kernel
theorem dX0_goSeconds_7 : decode cX0_goSeconds 7 = .ok (.aload_n 0, 1) := by decide +kernel
theorem dX0_goSeconds_8 : decode cX0_goSeconds 8 = .ok (.getfield 27, 3) := by decide +kernel
theorem dX0_goSeconds_11 : decode cX0_goSeconds 11 = .ok (.istore_n 3, 1) := by decide +kernel
theorem dX0_goSeconds_12 : decode cX0_goSeconds 12 = .ok (.iconst 0, 1) := by decide +kernel
theorem dX0_goSeconds_13 : decode cX0_goSeconds 13 = .ok (.istore 4, 2) := by decide +kernel
theorem dX0_goSeconds_15 : decode cX0_goSeconds 15 = .ok (.iload 4, 2) := by decide +kernel
theorem dX0_goSeconds_17 : decode cX0_goSeconds 17 = .ok (.aload_n 0, 1) := by decide +kernel
theorem dX0_goSeconds_18 : decode cX0_goSeconds 18 = .ok (.getfield 18, 3) := by decide +kernel
theorem dX0_goSeconds_21 : decode cX0_goSeconds 21 = .ok (.if_icmp .ge 37, 3) := by decide +kernel
theorem dX0_goSeconds_24 : decode cX0_goSeconds 24 = .ok (.aload_n 0, 1) := by decide +kernel
theorem dX0_goSeconds_25 : decode cX0_goSeconds 25 = .ok (.aload_n 0, 1) := by decide +kernel
theorem dX0_goSeconds_26 : decode cX0_goSeconds 26 = .ok (.getfield 15, 3) := by decide +kernel
theorem dX0_goSeconds_29 : decode cX0_goSeconds 29 = .ok (.bipush 59, 2) := by decide +kernel
theorem dX0_goSeconds_31 : decode cX0_goSeconds 31 = .ok (.if_icmp .lt 7, 3) := by decide +kernel
theorem dX0_goSeconds_34 : decode cX0_goSeconds 34 = .ok (.iconst 0, 1) := by decide +kernel
theorem dX0_goSeconds_35 : decode cX0_goSeconds 35 = .ok (.goto 9, 3) := by decide +kernel
theorem dX0_goSeconds_38 : decode cX0_goSeconds 38 = .ok (.aload_n 0, 1) := by decide +kernel
theorem dX0_goSeconds_39 : decode cX0_goSeconds 39 = .ok (.getfield 15, 3) := by decide +kernel
theorem dX0_goSeconds_42 : decode cX0_goSeconds 42 = .ok (.iconst 1, 1) := by decide +kernel
theorem dX0_goSeconds_43 : decode cX0_goSeconds 43 = .ok (.iadd, 1) := by decide +kernel
theorem dX0_goSeconds_44 : decode cX0_goSeconds 44 = .ok (.putfield 15, 3) := by decide +kernel
theorem dX0_goSeconds_47 : decode cX0_goSeconds 47 = .ok (.aload_n 0, 1) := by decide +kernel
theorem dX0_goSeconds_48 : decode cX0_goSeconds 48 = .ok (.iload_n 3, 1) := by decide +kernel
theorem dX0_goSeconds_49 : decode cX0_goSeconds 49 = .ok (.invokevirtual 80, 3) := by decide +kernel
theorem dX0_goSeconds_52 : decode cX0_goSeconds 52 = .ok (.iinc 4 1, 3) := by decide +kernel
theorem dX0_goSeconds_55 : decode cX0_goSeconds 55 = .ok (.goto (-40), 3) := by decide +kernel
theorem dX0_goSeconds_58 : decode cX0_goSeconds 58 = .ok (.aload_n 0, 1) := by decide +kernel
theorem dX0_goSeconds_59 : decode cX0_goSeconds 59 = .ok (.invokevirtual 84, 3) := by decide +kernel
theorem dX0_goSeconds_62 : decode cX0_goSeconds 62 = .ok (.aload_n 0, 1) := by decide +kernel
theorem dX0_goSeconds_63 : decode cX0_goSeconds 63 = .ok (.dup, 1) := by decide +kernel
theorem dX0_goSeconds_64 : decode cX0_goSeconds 64 = .ok (.getfield 9, 3) := by decide +kernel
theorem dX0_goSeconds_67 : decode cX0_goSeconds 67 = .ok (.iconst 1, 1) := by decide +kernel
theorem dX0_goSeconds_68 : decode cX0_goSeconds 68 = .ok (.iadd, 1) := by decide +kernel
theorem dX0_goSeconds_69 : decode cX0_goSeconds 69 = .ok (.putfield 9, 3) := by decide +kernel
theorem dX0_goSeconds_72 : decode cX0_goSeconds 72 = .ok (.iinc 2 1, 3) := by decide +kernel
theorem dX0_goSeconds_75 : decode cX0_goSeconds 75 = .ok (.goto (-73), 3) := by decide +kernel
theorem dX0_goSeconds_78 : decode cX0_goSeconds 78 = .ok (.return_, 1) := by decide +kernel
set_option maxRecDepth 20000 in
theorem ggX0_passBearing_X0_leaveOrBeLost : GoodIn wsX0_passBearing wsX0_leaveOrBeLost := goodIn_r _ [10, 4, 5, 11, 12, 13, 9, 14, 15, 16, 17, 2, 18, 19, 20, 21, 3, 68, 69, 70, 71, 72, 73, 74, 75, 76, 77, 78, 79, 80] (by decide +kernel) (by decide +kernel)
set_option maxRecDepth 20000 in
theorem gX0_passBearing_X0_leaveOrBeLost : GoodIn wsX0_passBearing (wsV RX0 87 RX0 yX0_leaveOrBeLost wsX0_leaveOrBeLost) := goodIn_app (goodIn_of _ (by decide +kernel)) ggX0_passBearing_X0_leaveOrBeLost
set_option maxRecDepth 20000 in
theorem ggX0_passBearing_X0_getsOn : GoodIn wsX0_passBearing wsX0_getsOn := goodIn_r _ [25, 15, 16, 3, 17, 2, 26, 27, 28, 29, 30, 31, 32, 33, 68, 69, 70, 71, 72, 73, 74, 75, 76, 77, 78, 79, 80] (by decide +kernel) (by decide +kernel)
set_option maxRecDepth 20000 in
theorem gX0_passBearing_X0_getsOn : GoodIn wsX0_passBearing (wsV RX0 90 RX0 yX0_getsOn wsX0_getsOn) := goodIn_app (goodIn_of _ (by decide +kernel)) ggX0_passBearing_X0_getsOn
set_option maxRecDepth 20000 in
theorem ggX0_passBearing_X0_isBorne : GoodIn wsX0_passBearing wsX0_isBorne := goodIn_r _ [37, 38, 39, 40, 41, 9, 42, 1, 43, 44, 45, 46, 2, 47, 48, 49, 50, 16, 15, 51, 52, 53, 54, 55, 56, 57, 58, 59, 68, 69, 70, 71, 72, 73, 74, 75, 76, 77, 78, 79, 80] (by decide +kernel) (by decide +kernel)
set_option maxRecDepth 20000 in
theorem gX0_passBearing_X0_isBorne : GoodIn wsX0_passBearing (wsV RX0 93 RX0 yX0_isBorne wsX0_isBorne) := goodIn_app (goodIn_of _ (by decide +kernel)) ggX0_passBearing_X0_isBorne
set_option maxRecDepth 20000 in
theorem ggX0_passBearing_X0_comeOn : GoodIn wsX0_passBearing wsX0_comeOn := goodIn_r _ [63, 2, 64, 65, 66, 58, 67, 68, 69, 70, 71, 72, 73, 74, 75, 76, 77, 78, 79, 80] (by decide +kernel) (by decide +kernel)
set_option maxRecDepth 20000 in
theorem gX0_passBearing_X0_comeOn : GoodIn wsX0_passBearing (wsV RX0 96 RX0 yX0_comeOn wsX0_comeOn) := goodIn_app (goodIn_of _ (by decide +kernel)) ggX0_passBearing_X0_comeOn
theorem dX0_passBearing_0 : decode cX0_passBearing 0 = .ok (.iconst 0, 1) := by decide +kernel
theorem dX0_passBearing_1 : decode cX0_passBearing 1 = .ok (.istore_n 2, 1) := by decide +kernel
theorem dX0_passBearing_2 : decode cX0_passBearing 2 = .ok (.iload_n 2, 1) := by decide +kernel
theorem dX0_passBearing_3 : decode cX0_passBearing 3 = .ok (.aload_n 0, 1) := by decide +kernel
theorem dX0_passBearing_4 : decode cX0_passBearing 4 = .ok (.getfield 24, 3) := by decide +kernel
theorem dX0_passBearing_7 : decode cX0_passBearing 7 = .ok (.if_icmp .ge 75, 3) := by decide +kernel
theorem dX0_passBearing_10 : decode cX0_passBearing 10 = .ok (.iconst 1, 1) := by decide +kernel
theorem dX0_passBearing_11 : decode cX0_passBearing 11 = .ok (.iload_n 2, 1) := by decide +kernel
theorem dX0_passBearing_12 : decode cX0_passBearing 12 = .ok (.ishl, 1) := by decide +kernel
theorem dX0_passBearing_13 : decode cX0_passBearing 13 = .ok (.istore_n 3, 1) := by decide +kernel
theorem dX0_passBearing_14 : decode cX0_passBearing 14 = .ok (.aload_n 0, 1) := by decide +kernel
theorem dX0_passBearing_15 : decode cX0_passBearing 15 = .ok (.getfield 27, 3) := by decide +kernel
theorem dX0_passBearing_18 : decode cX0_passBearing 18 = .ok (.iload_n 3, 1) := by decide +kernel
theorem dX0_passBearing_19 : decode cX0_passBearing 19 = .ok (.iand, 1) := by decide +kernel
theorem dX0_passBearing_20 : decode cX0_passBearing 20 = .ok (.ifCond .eq 11, 3) := by decide +kernel
theorem dX0_passBearing_23 : decode cX0_passBearing 23 = .ok (.aload_n 0, 1) := by decide +kernel
theorem dX0_passBearing_24 : decode cX0_passBearing 24 = .ok (.iload_n 2, 1) := by decide +kernel
theorem dX0_passBearing_25 : decode cX0_passBearing 25 = .ok (.invokevirtual 87, 3) := by decide +kernel
theorem dX0_passBearing_28 : decode cX0_passBearing 28 = .ok (.goto 48, 3) := by decide +kernel
theorem dX0_passBearing_31 : decode cX0_passBearing 31 = .ok (.aload_n 0, 1) := by decide +kernel
theorem dX0_passBearing_32 : decode cX0_passBearing 32 = .ok (.getfield 37, 3) := by decide +kernel
theorem dX0_passBearing_35 : decode cX0_passBearing 35 = .ok (.iload_n 2, 1) := by decide +kernel
theorem dX0_passBearing_36 : decode cX0_passBearing 36 = .ok (.iaload, 1) := by decide +kernel
theorem dX0_passBearing_37 : decode cX0_passBearing 37 = .ok (.aload_n 0, 1) := by decide +kernel
theorem dX0_passBearing_38 : decode cX0_passBearing 38 = .ok (.getfield 15, 3) := by decide +kernel
theorem dX0_passBearing_41 : decode cX0_passBearing 41 = .ok (.if_icmp .ne 35, 3) := by decide +kernel
theorem dX0_passBearing_44 : decode cX0_passBearing 44 = .ok (.iload_n 1, 1) := by decide +kernel
theorem dX0_passBearing_45 : decode cX0_passBearing 45 = .ok (.aload_n 0, 1) := by decide +kernel
theorem dX0_passBearing_46 : decode cX0_passBearing 46 = .ok (.getfield 30, 3) := by decide +kernel
theorem dX0_passBearing_49 : decode cX0_passBearing 49 = .ok (.ior, 1) := by decide +kernel
theorem dX0_passBearing_50 : decode cX0_passBearing 50 = .ok (.iload_n 3, 1) := by decide +kernel
theorem dX0_passBearing_51 : decode cX0_passBearing 51 = .ok (.iand, 1) := by decide +kernel
theorem dX0_passBearing_52 : decode cX0_passBearing 52 = .ok (.ifCond .ne 24, 3) := by decide +kernel
theorem dX0_passBearing_55 : decode cX0_passBearing 55 = .ok (.aload_n 0, 1) := by decide +kernel
theorem dX0_passBearing_56 : decode cX0_passBearing 56 = .ok (.iload_n 2, 1) := by decide +kernel
theorem dX0_passBearing_57 : decode cX0_passBearing 57 = .ok (.invokevirtual 90, 3) := by decide +kernel
theorem dX0_passBearing_60 : decode cX0_passBearing 60 = .ok (.ifCond .eq 16, 3) := by decide +kernel
theorem dX0_passBearing_63 : decode cX0_passBearing 63 = .ok (.aload_n 0, 1) := by decide +kernel
theorem dX0_passBearing_64 : decode cX0_passBearing 64 = .ok (.iload_n 2, 1) := by decide +kernel
theorem dX0_passBearing_65 : decode cX0_passBearing 65 = .ok (.invokevirtual 93, 3) := by decide +kernel
theorem dX0_passBearing_68 : decode cX0_passBearing 68 = .ok (.ifCond .eq 8, 3) := by decide +kernel
theorem dX0_passBearing_71 : decode cX0_passBearing 71 = .ok (.aload_n 0, 1) := by decide +kernel
theorem dX0_passBearing_72 : decode cX0_passBearing 72 = .ok (.iload_n 2, 1) := by decide +kernel
theorem dX0_passBearing_73 : decode cX0_passBearing 73 = .ok (.invokevirtual 96, 3) := by decide +kernel
theorem dX0_passBearing_76 : decode cX0_passBearing 76 = .ok (.iinc 2 1, 3) := by decide +kernel
theorem dX0_passBearing_79 : decode cX0_passBearing 79 = .ok (.goto (-77), 3) := by decide +kernel
theorem dX0_passBearing_82 : decode cX0_passBearing 82 = .ok (.return_, 1) := by decide +kernel
set_option maxRecDepth 20000 in
theorem ggX0_leaveOrBeLost_X0_getsOff : GoodIn wsX0_leaveOrBeLost wsX0_getsOff := goodIn_r _ [7, 8, 9, 1, 10, 11, 17, 18, 19, 20, 21, 22, 23, 24, 25, 26, 27, 28, 29] (by decide +kernel) (by decide +kernel)
set_option maxRecDepth 20000 in
theorem gX0_leaveOrBeLost_X0_getsOff : GoodIn wsX0_leaveOrBeLost (wsV RX0 99 RX0 yX0_getsOff wsX0_getsOff) := goodIn_app (goodIn_of _ (by decide +kernel)) ggX0_leaveOrBeLost_X0_getsOff
set_option maxRecDepth 20000 in
theorem ggX0_leaveOrBeLost_X0_goOff : GoodIn wsX0_leaveOrBeLost wsX0_goOff := goodIn_r _ [15, 11, 16, 1, 17, 18, 19, 20, 21, 22, 23, 24, 25, 26, 27, 28, 29] (by decide +kernel) (by decide +kernel)
set_option maxRecDepth 20000 in
theorem gX0_leaveOrBeLost_X0_goOff : GoodIn wsX0_leaveOrBeLost (wsV RX0 102 RX0 yX0_goOff wsX0_goOff) := goodIn_app (goodIn_of _ (by decide +kernel)) ggX0_leaveOrBeLost_X0_goOff
theorem dX0_leaveOrBeLost_0 : decode cX0_leaveOrBeLost 0 = .ok (.aload_n 0, 1) := by decide +kernel
theorem dX0_leaveOrBeLost_1 : decode cX0_leaveOrBeLost 1 = .ok (.iload_n 1, 1) := by decide +kernel
theorem dX0_leaveOrBeLost_2 : decode cX0_leaveOrBeLost 2 = .ok (.invokevirtual 99, 3) := by decide +kernel
theorem dX0_leaveOrBeLost_5 : decode cX0_leaveOrBeLost 5 = .ok (.ifCond .eq 11, 3) := by decide +kernel
theorem dX0_leaveOrBeLost_8 : decode cX0_leaveOrBeLost 8 = .ok (.aload_n 0, 1) := by decide +kernel
theorem dX0_leaveOrBeLost_9 : decode cX0_leaveOrBeLost 9 = .ok (.iload_n 1, 1) := by decide +kernel
theorem dX0_leaveOrBeLost_10 : decode cX0_leaveOrBeLost 10 = .ok (.invokevirtual 102, 3) := by decide +kernel
theorem dX0_leaveOrBeLost_13 : decode cX0_leaveOrBeLost 13 = .ok (.goto 29, 3) := by decide +kernel
theorem dX0_leaveOrBeLost_16 : decode cX0_leaveOrBeLost 16 = .ok (.aload_n 0, 1) := by decide +kernel
theorem dX0_leaveOrBeLost_17 : decode cX0_leaveOrBeLost 17 = .ok (.getfield 15, 3) := by decide +kernel
theorem dX0_leaveOrBeLost_20 : decode cX0_leaveOrBeLost 20 = .ok (.bipush 58, 2) := by decide +kernel
theorem dX0_leaveOrBeLost_22 : decode cX0_leaveOrBeLost 22 = .ok (.if_icmp .ne 20, 3) := by decide +kernel
theorem dX0_leaveOrBeLost_25 : decode cX0_leaveOrBeLost 25 = .ok (.aload_n 0, 1) := by decide +kernel
theorem dX0_leaveOrBeLost_26 : decode cX0_leaveOrBeLost 26 = .ok (.iload_n 1, 1) := by decide +kernel
theorem dX0_leaveOrBeLost_27 : decode cX0_leaveOrBeLost 27 = .ok (.invokevirtual 102, 3) := by decide +kernel
theorem dX0_leaveOrBeLost_30 : decode cX0_leaveOrBeLost 30 = .ok (.aload_n 0, 1) := by decide +kernel
theorem dX0_leaveOrBeLost_31 : decode cX0_leaveOrBeLost 31 = .ok (.dup, 1) := by decide +kernel
theorem dX0_leaveOrBeLost_32 : decode cX0_leaveOrBeLost 32 = .ok (.getfield 30, 3) := by decide +kernel
theorem dX0_leaveOrBeLost_35 : decode cX0_leaveOrBeLost 35 = .ok (.iconst 1, 1) := by decide +kernel
theorem dX0_leaveOrBeLost_36 : decode cX0_leaveOrBeLost 36 = .ok (.iload_n 1, 1) := by decide +kernel
theorem dX0_leaveOrBeLost_37 : decode cX0_leaveOrBeLost 37 = .ok (.ishl, 1) := by decide +kernel
theorem dX0_leaveOrBeLost_38 : decode cX0_leaveOrBeLost 38 = .ok (.ior, 1) := by decide +kernel
theorem dX0_leaveOrBeLost_39 : decode cX0_leaveOrBeLost 39 = .ok (.putfield 30, 3) := by decide +kernel
theorem dX0_leaveOrBeLost_42 : decode cX0_leaveOrBeLost 42 = .ok (.return_, 1) := by decide +kernel
set_option maxRecDepth 20000 in
theorem ggX0_dryAndRide_X0_isOn : GoodIn wsX0_dryAndRide wsX0_isOn := goodIn_r _ [13, 14, 22, 23, 24, 25, 26, 27, 28, 29, 30, 31, 32, 33, 34] (by decide +kernel) (by decide +kernel)
set_option maxRecDepth 20000 in
theorem gX0_dryAndRide_X0_isOn : GoodIn wsX0_dryAndRide (wsV RX0 52 RX0 yX0_isOn wsX0_isOn) := goodIn_app (goodIn_of _ (by decide +kernel)) ggX0_dryAndRide_X0_isOn
set_option maxRecDepth 20000 in
theorem ggX0_dryAndRide_X0_dries : GoodIn wsX0_dryAndRide wsX0_dries := goodIn_r _ [18, 19, 20, 21, 22, 23, 24, 25, 26, 27, 28, 29, 30, 31, 32, 33, 34] (by decide +kernel) (by decide +kernel)
set_option maxRecDepth 20000 in
theorem gX0_dryAndRide_X0_dries : GoodIn wsX0_dryAndRide (wsV RX0 105 RX0 yX0_dries wsX0_dries) := goodIn_app (goodIn_of _ (by decide +kernel)) ggX0_dryAndRide_X0_dries
theorem dX0_dryAndRide_0 : decode cX0_dryAndRide 0 = .ok (.iconst 0, 1) := by decide +kernel
theorem dX0_dryAndRide_1 : decode cX0_dryAndRide 1 = .ok (.istore_n 1, 1) := by decide +kernel
theorem dX0_dryAndRide_2 : decode cX0_dryAndRide 2 = .ok (.iload_n 1, 1) := by decide +kernel
theorem dX0_dryAndRide_3 : decode cX0_dryAndRide 3 = .ok (.aload_n 0, 1) := by decide +kernel
theorem dX0_dryAndRide_4 : decode cX0_dryAndRide 4 = .ok (.getfield 24, 3) := by decide +kernel
theorem dX0_dryAndRide_7 : decode cX0_dryAndRide 7 = .ok (.if_icmp .ge 49, 3) := by decide +kernel
theorem dX0_dryAndRide_10 : decode cX0_dryAndRide 10 = .ok (.aload_n 0, 1) := by decide +kernel
theorem dX0_dryAndRide_11 : decode cX0_dryAndRide 11 = .ok (.iload_n 1, 1) := by decide +kernel
theorem dX0_dryAndRide_12 : decode cX0_dryAndRide 12 = .ok (.invokevirtual 52, 3) := by decide +kernel
theorem dX0_dryAndRide_15 : decode cX0_dryAndRide 15 = .ok (.ifCond .eq 35, 3) := by decide +kernel
theorem dX0_dryAndRide_18 : decode cX0_dryAndRide 18 = .ok (.aload_n 0, 1) := by decide +kernel
theorem dX0_dryAndRide_19 : decode cX0_dryAndRide 19 = .ok (.getfield 43, 3) := by decide +kernel
theorem dX0_dryAndRide_22 : decode cX0_dryAndRide 22 = .ok (.iload_n 1, 1) := by decide +kernel
theorem dX0_dryAndRide_23 : decode cX0_dryAndRide 23 = .ok (.iconst 0, 1) := by decide +kernel
theorem dX0_dryAndRide_24 : decode cX0_dryAndRide 24 = .ok (.aload_n 0, 1) := by decide +kernel
theorem dX0_dryAndRide_25 : decode cX0_dryAndRide 25 = .ok (.getfield 43, 3) := by decide +kernel
theorem dX0_dryAndRide_28 : decode cX0_dryAndRide 28 = .ok (.iload_n 1, 1) := by decide +kernel
theorem dX0_dryAndRide_29 : decode cX0_dryAndRide 29 = .ok (.iaload, 1) := by decide +kernel
theorem dX0_dryAndRide_30 : decode cX0_dryAndRide 30 = .ok (.aload_n 0, 1) := by decide +kernel
theorem dX0_dryAndRide_31 : decode cX0_dryAndRide 31 = .ok (.iload_n 1, 1) := by decide +kernel
theorem dX0_dryAndRide_32 : decode cX0_dryAndRide 32 = .ok (.invokevirtual 105, 3) := by decide +kernel
theorem dX0_dryAndRide_35 : decode cX0_dryAndRide 35 = .ok (.isub, 1) := by decide +kernel
theorem dX0_dryAndRide_36 : decode cX0_dryAndRide 36 = .ok (.invokestatic 60, 3) := by decide +kernel
theorem dX0_dryAndRide_39 : decode cX0_dryAndRide 39 = .ok (.iastore, 1) := by decide +kernel
theorem dX0_dryAndRide_40 : decode cX0_dryAndRide 40 = .ok (.aload_n 0, 1) := by decide +kernel
theorem dX0_dryAndRide_41 : decode cX0_dryAndRide 41 = .ok (.getfield 37, 3) := by decide +kernel
theorem dX0_dryAndRide_44 : decode cX0_dryAndRide 44 = .ok (.iload_n 1, 1) := by decide +kernel
theorem dX0_dryAndRide_45 : decode cX0_dryAndRide 45 = .ok (.aload_n 0, 1) := by decide +kernel
theorem dX0_dryAndRide_46 : decode cX0_dryAndRide 46 = .ok (.getfield 15, 3) := by decide +kernel
theorem dX0_dryAndRide_49 : decode cX0_dryAndRide 49 = .ok (.iastore, 1) := by decide +kernel
theorem dX0_dryAndRide_50 : decode cX0_dryAndRide 50 = .ok (.iinc 1 1, 3) := by decide +kernel
theorem dX0_dryAndRide_53 : decode cX0_dryAndRide 53 = .ok (.goto (-51), 3) := by decide +kernel
theorem dX0_dryAndRide_56 : decode cX0_dryAndRide 56 = .ok (.return_, 1) := by decide +kernel
set_option maxRecDepth 20000 in
theorem ggX0_isSo_X0_isOn : GoodIn wsX0_isSo wsX0_isOn := goodIn_r _ [8, 9, 15, 16, 17, 18, 19, 20, 21, 22, 23, 24, 25, 26, 27] (by decide +kernel) (by decide +kernel)
set_option maxRecDepth 20000 in
theorem gX0_isSo_X0_isOn : GoodIn wsX0_isSo (wsV RX0 52 RX0 yX0_isOn wsX0_isOn) := goodIn_app (goodIn_of _ (by decide +kernel)) ggX0_isSo_X0_isOn
set_option maxRecDepth 20000 in
theorem ggX0_isSo_X0_isLost : GoodIn wsX0_isSo wsX0_isLost := goodIn_r _ [13, 14, 15, 16, 17, 18, 19, 20, 21, 22, 23, 24, 25, 26, 27] (by decide +kernel) (by decide +kernel)
set_option maxRecDepth 20000 in
theorem gX0_isSo_X0_isLost : GoodIn wsX0_isSo (wsV RX0 108 RX0 yX0_isLost wsX0_isLost) := goodIn_app (goodIn_of _ (by decide +kernel)) ggX0_isSo_X0_isLost
theorem dX0_isSo_0 : decode cX0_isSo 0 = .ok (.iload_n 2, 1) := by decide +kernel
theorem dX0_isSo_1 : decode cX0_isSo 1 = .ok (.tableswitch 54 0 2 #[27, 33, 48], 27) := by decide +kernel
theorem dX0_isSo_28 : decode cX0_isSo 28 = .ok (.aload_n 0, 1) := by decide +kernel
theorem dX0_isSo_29 : decode cX0_isSo 29 = .ok (.iload_n 1, 1) := by decide +kernel
theorem dX0_isSo_30 : decode cX0_isSo 30 = .ok (.invokevirtual 52, 3) := by decide +kernel
theorem dX0_isSo_33 : decode cX0_isSo 33 = .ok (.ireturn, 1) := by decide +kernel
theorem dX0_isSo_34 : decode cX0_isSo 34 = .ok (.aload_n 0, 1) := by decide +kernel
theorem dX0_isSo_35 : decode cX0_isSo 35 = .ok (.getfield 43, 3) := by decide +kernel
theorem dX0_isSo_38 : decode cX0_isSo 38 = .ok (.iload_n 1, 1) := by decide +kernel
theorem dX0_isSo_39 : decode cX0_isSo 39 = .ok (.iaload, 1) := by decide +kernel
theorem dX0_isSo_40 : decode cX0_isSo 40 = .ok (.ifCond .ne 7, 3) := by decide +kernel
theorem dX0_isSo_43 : decode cX0_isSo 43 = .ok (.iconst 1, 1) := by decide +kernel
theorem dX0_isSo_44 : decode cX0_isSo 44 = .ok (.goto 4, 3) := by decide +kernel
theorem dX0_isSo_47 : decode cX0_isSo 47 = .ok (.iconst 0, 1) := by decide +kernel
theorem dX0_isSo_48 : decode cX0_isSo 48 = .ok (.ireturn, 1) := by decide +kernel
theorem dX0_isSo_49 : decode cX0_isSo 49 = .ok (.aload_n 0, 1) := by decide +kernel
theorem dX0_isSo_50 : decode cX0_isSo 50 = .ok (.iload_n 1, 1) := by decide +kernel
theorem dX0_isSo_51 : decode cX0_isSo 51 = .ok (.invokevirtual 108, 3) := by decide +kernel
theorem dX0_isSo_54 : decode cX0_isSo 54 = .ok (.ireturn, 1) := by decide +kernel
theorem dX0_isSo_55 : decode cX0_isSo 55 = .ok (.aload_n 0, 1) := by decide +kernel
theorem dX0_isSo_56 : decode cX0_isSo 56 = .ok (.getfield 37, 3) := by decide +kernel
theorem dX0_isSo_59 : decode cX0_isSo 59 = .ok (.iload_n 1, 1) := by decide +kernel
theorem dX0_isSo_60 : decode cX0_isSo 60 = .ok (.iaload, 1) := by decide +kernel
theorem dX0_isSo_61 : decode cX0_isSo 61 = .ok (.aload_n 0, 1) := by decide +kernel
theorem dX0_isSo_62 : decode cX0_isSo 62 = .ok (.getfield 46, 3) := by decide +kernel
theorem dX0_isSo_65 : decode cX0_isSo 65 = .ok (.iload_n 1, 1) := by decide +kernel
theorem dX0_isSo_66 : decode cX0_isSo 66 = .ok (.iaload, 1) := by decide +kernel
theorem dX0_isSo_67 : decode cX0_isSo 67 = .ok (.if_icmp .ne 15, 3) := by decide +kernel
theorem dX0_isSo_70 : decode cX0_isSo 70 = .ok (.aload_n 0, 1) := by decide +kernel
theorem dX0_isSo_71 : decode cX0_isSo 71 = .ok (.iload_n 1, 1) := by decide +kernel
theorem dX0_isSo_72 : decode cX0_isSo 72 = .ok (.invokevirtual 52, 3) := by decide +kernel
theorem dX0_isSo_75 : decode cX0_isSo 75 = .ok (.ifCond .ne 7, 3) := by decide +kernel
theorem dX0_isSo_78 : decode cX0_isSo 78 = .ok (.iconst 1, 1) := by decide +kernel
theorem dX0_isSo_79 : decode cX0_isSo 79 = .ok (.goto 4, 3) := by decide +kernel
theorem dX0_isSo_82 : decode cX0_isSo 82 = .ok (.iconst 0, 1) := by decide +kernel
theorem dX0_isSo_83 : decode cX0_isSo 83 = .ok (.ireturn, 1) := by decide +kernel
