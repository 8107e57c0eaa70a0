theorem dX4_init_0 : decode cX4_init 0 = .ok (.aload_n 0, 1) := by decide +kernel
theorem dX4_init_1 : decode cX4_init 1 = .ok (.invokespecial 3, 3) := by decide +kernel
theorem dX4_init_4 : decode cX4_init 4 = .ok (.aload_n 0, 1) := by decide +kernel
theorem dX4_init_5 : decode cX4_init 5 = .ok (.bipush 69, 2) := by decide +kernel
theorem dX4_init_7 : decode cX4_init 7 = .ok (.newarray .int, 2) := by decide +kernel
theorem dX4_init_9 : decode cX4_init 9 = .ok (.putfield 9, 3) := by decide +kernel
theorem dX4_init_12 : decode cX4_init 12 = .ok (.aload_n 0, 1) := by decide +kernel
theorem dX4_init_13 : decode cX4_init 13 = .ok (.bipush 69, 2) := by decide +kernel
theorem dX4_init_15 : decode cX4_init 15 = .ok (.newarray .int, 2) := by decide +kernel
theorem dX4_init_17 : decode cX4_init 17 = .ok (.putfield 13, 3) := by decide +kernel
theorem dX4_init_20 : decode cX4_init 20 = .ok (.aload_n 0, 1) := by decide +kernel
theorem dX4_init_21 : decode cX4_init 21 = .ok (.bipush 69, 2) := by decide +kernel
theorem dX4_init_23 : decode cX4_init 23 = .ok (.newarray .int, 2) := by decide +kernel
theorem dX4_init_25 : decode cX4_init 25 = .ok (.putfield 16, 3) := by decide +kernel
theorem dX4_init_28 : decode cX4_init 28 = .ok (.aload_n 0, 1) := by decide +kernel
theorem dX4_init_29 : decode cX4_init 29 = .ok (.bipush 7, 2) := by decide +kernel
theorem dX4_init_31 : decode cX4_init 31 = .ok (.newarray .int, 2) := by decide +kernel
theorem dX4_init_33 : decode cX4_init 33 = .ok (.putfield 19, 3) := by decide +kernel
theorem dX4_init_36 : decode cX4_init 36 = .ok (.aload_n 0, 1) := by decide +kernel
theorem dX4_init_37 : decode cX4_init 37 = .ok (.bipush 120, 2) := by decide +kernel
theorem dX4_init_39 : decode cX4_init 39 = .ok (.newarray .int, 2) := by decide +kernel
theorem dX4_init_41 : decode cX4_init 41 = .ok (.putfield 22, 3) := by decide +kernel
theorem dX4_init_44 : decode cX4_init 44 = .ok (.aload_n 0, 1) := by decide +kernel
theorem dX4_init_45 : decode cX4_init 45 = .ok (.iconst 4, 1) := by decide +kernel
theorem dX4_init_46 : decode cX4_init 46 = .ok (.newarray .int, 2) := by decide +kernel
theorem dX4_init_48 : decode cX4_init 48 = .ok (.putfield 25, 3) := by decide +kernel
theorem dX4_init_51 : decode cX4_init 51 = .ok (.aload_n 0, 1) := by decide +kernel
theorem dX4_init_52 : decode cX4_init 52 = .ok (.iconst 4, 1) := by decide +kernel
theorem dX4_init_53 : decode cX4_init 53 = .ok (.newarray .int, 2) := by decide +kernel
theorem dX4_init_55 : decode cX4_init 55 = .ok (.putfield 28, 3) := by decide +kernel
theorem dX4_init_58 : decode cX4_init 58 = .ok (.aload_n 0, 1) := by decide +kernel
theorem dX4_init_59 : decode cX4_init 59 = .ok (.sipush 160, 3) := by decide +kernel
theorem dX4_init_62 : decode cX4_init 62 = .ok (.newarray .long, 2) := by decide +kernel
theorem dX4_init_64 : decode cX4_init 64 = .ok (.putfield 31, 3) := by decide +kernel
theorem dX4_init_67 : decode cX4_init 67 = .ok (.aload_n 0, 1) := by decide +kernel
theorem dX4_init_68 : decode cX4_init 68 = .ok (.getfield 9, 3) := by decide +kernel
theorem dX4_init_71 : decode cX4_init 71 = .ok (.iconst 2, 1) := by decide +kernel
theorem dX4_init_72 : decode cX4_init 72 = .ok (.iconst 2, 1) := by decide +kernel
theorem dX4_init_73 : decode cX4_init 73 = .ok (.iastore, 1) := by decide +kernel
theorem dX4_init_74 : decode cX4_init 74 = .ok (.aload_n 0, 1) := by decide +kernel
theorem dX4_init_75 : decode cX4_init 75 = .ok (.getfield 9, 3) := by decide +kernel
theorem dX4_init_78 : decode cX4_init 78 = .ok (.iconst 3, 1) := by decide +kernel
theorem dX4_init_79 : decode cX4_init 79 = .ok (.bipush 20, 2) := by decide +kernel
theorem dX4_init_81 : decode cX4_init 81 = .ok (.iastore, 1) := by decide +kernel
theorem dX4_init_82 : decode cX4_init 82 = .ok (.return_, 1) := by decide +kernel
theorem dX4_finds_0 : decode cX4_finds 0 = .ok (.aload_n 0, 1) := by decide +kernel
theorem dX4_finds_1 : decode cX4_finds 1 = .ok (.getfield 19, 3) := by decide +kernel
theorem dX4_finds_4 : decode cX4_finds 4 = .ok (.ldc 35, 2) := by decide +kernel
theorem dX4_finds_6 : decode cX4_finds 6 = .ok (.iload_n 1, 1) := by decide +kernel
theorem dX4_finds_7 : decode cX4_finds 7 = .ok (.isub, 1) := by decide +kernel
theorem dX4_finds_8 : decode cX4_finds 8 = .ok (.dup2, 1) := by decide +kernel
theorem dX4_finds_9 : decode cX4_finds 9 = .ok (.iaload, 1) := by decide +kernel
theorem dX4_finds_10 : decode cX4_finds 10 = .ok (.iconst 1, 1) := by decide +kernel
theorem dX4_finds_11 : decode cX4_finds 11 = .ok (.iadd, 1) := by decide +kernel
theorem dX4_finds_12 : decode cX4_finds 12 = .ok (.iastore, 1) := by decide +kernel
theorem dX4_finds_13 : decode cX4_finds 13 = .ok (.iload_n 1, 1) := by decide +kernel
theorem dX4_finds_14 : decode cX4_finds 14 = .ok (.ireturn, 1) := by decide +kernel
set_option maxRecDepth 20000 in
theorem ggX4_orNone_X4_finds : GoodIn wsX4_orNone wsX4_finds := goodIn_r _ [6, 7, 8, 9, 10, 11, 12, 13, 14, 15, 16, 17, 18, 19, 20, 21, 22, 23] (by decide +kernel) (by decide +kernel)
set_option maxRecDepth 20000 in
theorem gX4_orNone_X4_finds : GoodIn wsX4_orNone (wsV RX4 37 RX4 yX4_finds wsX4_finds) := goodIn_app (goodIn_of _ (by decide +kernel)) ggX4_orNone_X4_finds
theorem dX4_orNone_0 : decode cX4_orNone 0 = .ok (.iload_n 1, 1) := by decide +kernel
theorem dX4_orNone_1 : decode cX4_orNone 1 = .ok (.ifCond .ge 12, 3) := by decide +kernel
theorem dX4_orNone_4 : decode cX4_orNone 4 = .ok (.aload_n 0, 1) := by decide +kernel
theorem dX4_orNone_5 : decode cX4_orNone 5 = .ok (.ldc 36, 2) := by decide +kernel
theorem dX4_orNone_7 : decode cX4_orNone 7 = .ok (.invokevirtual 37, 3) := by decide +kernel
theorem dX4_orNone_10 : decode cX4_orNone 10 = .ok (.goto 4, 3) := by decide +kernel
theorem dX4_orNone_13 : decode cX4_orNone 13 = .ok (.iload_n 1, 1) := by decide +kernel
theorem dX4_orNone_14 : decode cX4_orNone 14 = .ok (.ireturn, 1) := by decide +kernel
theorem dX4_in_0 : decode cX4_in 0 = .ok (.lload_n 0, 1) := by decide +kernel
theorem dX4_in_1 : decode cX4_in 1 = .ok (.iload_n 2, 1) := by decide +kernel
theorem dX4_in_2 : decode cX4_in 2 = .ok (.i2l, 1) := by decide +kernel
theorem dX4_in_3 : decode cX4_in 3 = .ok (.lcmp, 1) := by decide +kernel
theorem dX4_in_4 : decode cX4_in 4 = .ok (.ifCond .lt 14, 3) := by decide +kernel
theorem dX4_in_7 : decode cX4_in 7 = .ok (.lload_n 0, 1) := by decide +kernel
theorem dX4_in_8 : decode cX4_in 8 = .ok (.iload_n 3, 1) := by decide +kernel
theorem dX4_in_9 : decode cX4_in 9 = .ok (.i2l, 1) := by decide +kernel
theorem dX4_in_10 : decode cX4_in 10 = .ok (.lcmp, 1) := by decide +kernel
theorem dX4_in_11 : decode cX4_in 11 = .ok (.ifCond .gt 7, 3) := by decide +kernel
theorem dX4_in_14 : decode cX4_in 14 = .ok (.iconst 1, 1) := by decide +kernel
theorem dX4_in_15 : decode cX4_in 15 = .ok (.goto 4, 3) := by decide +kernel
theorem dX4_in_18 : decode cX4_in 18 = .ok (.iconst 0, 1) := by decide +kernel
theorem dX4_in_19 : decode cX4_in 19 = .ok (.ireturn, 1) := by decide +kernel
theorem dX4_held_0 : decode cX4_held 0 = .ok (.iload_n 0, 1) := by decide +kernel
theorem dX4_held_1 : decode cX4_held 1 = .ok (.iload_n 1, 1) := by decide +kernel
theorem dX4_held_2 : decode cX4_held 2 = .ok (.if_icmp .ge 7, 3) := by decide +kernel
theorem dX4_held_5 : decode cX4_held 5 = .ok (.iload_n 1, 1) := by decide +kernel
theorem dX4_held_6 : decode cX4_held 6 = .ok (.goto 13, 3) := by decide +kernel
theorem dX4_held_9 : decode cX4_held 9 = .ok (.iload_n 0, 1) := by decide +kernel
theorem dX4_held_10 : decode cX4_held 10 = .ok (.iload_n 2, 1) := by decide +kernel
theorem dX4_held_11 : decode cX4_held 11 = .ok (.if_icmp .le 7, 3) := by decide +kernel
theorem dX4_held_14 : decode cX4_held 14 = .ok (.iload_n 2, 1) := by decide +kernel
theorem dX4_held_15 : decode cX4_held 15 = .ok (.goto 4, 3) := by decide +kernel
theorem dX4_held_18 : decode cX4_held 18 = .ok (.iload_n 0, 1) := by decide +kernel
theorem dX4_held_19 : decode cX4_held 19 = .ok (.ireturn, 1) := by decide +kernel
theorem dX4_copyAll_0 : decode cX4_copyAll 0 = .ok (.iconst 0, 1) := by decide +kernel
theorem dX4_copyAll_1 : decode cX4_copyAll 1 = .ok (.istore_n 2, 1) := by decide +kernel
theorem dX4_copyAll_2 : decode cX4_copyAll 2 = .ok (.iload_n 2, 1) := by decide +kernel
theorem dX4_copyAll_3 : decode cX4_copyAll 3 = .ok (.bipush 69, 2) := by decide +kernel
theorem dX4_copyAll_5 : decode cX4_copyAll 5 = .ok (.if_icmp .ge 15, 3) := by decide +kernel
theorem dX4_copyAll_8 : decode cX4_copyAll 8 = .ok (.aload_n 1, 1) := by decide +kernel
theorem dX4_copyAll_9 : decode cX4_copyAll 9 = .ok (.iload_n 2, 1) := by decide +kernel
theorem dX4_copyAll_10 : decode cX4_copyAll 10 = .ok (.aload_n 0, 1) := by decide +kernel
theorem dX4_copyAll_11 : decode cX4_copyAll 11 = .ok (.iload_n 2, 1) := by decide +kernel
theorem dX4_copyAll_12 : decode cX4_copyAll 12 = .ok (.iaload, 1) := by decide +kernel
theorem dX4_copyAll_13 : decode cX4_copyAll 13 = .ok (.iastore, 1) := by decide +kernel
theorem dX4_copyAll_14 : decode cX4_copyAll 14 = .ok (.iinc 2 1, 3) := by decide +kernel
theorem dX4_copyAll_17 : decode cX4_copyAll 17 = .ok (.goto (-15), 3) := by decide +kernel
theorem dX4_copyAll_20 : decode cX4_copyAll 20 = .ok (.return_, 1) := by decide +kernel
theorem dX4_bits_0 : decode cX4_bits 0 = .ok (.iconst 0, 1) := by decide +kernel
theorem dX4_bits_1 : decode cX4_bits 1 = .ok (.istore_n 1, 1) := by decide +kernel
theorem dX4_bits_2 : decode cX4_bits 2 = .ok (.iload_n 0, 1) := by decide +kernel
theorem dX4_bits_3 : decode cX4_bits 3 = .ok (.istore_n 2, 1) := by decide +kernel
theorem dX4_bits_4 : decode cX4_bits 4 = .ok (.iload_n 2, 1) := by decide +kernel
theorem dX4_bits_5 : decode cX4_bits 5 = .ok (.ifCond .eq 15, 3) := by decide +kernel
theorem dX4_bits_8 : decode cX4_bits 8 = .ok (.iinc 1 1, 3) := by decide +kernel
theorem dX4_bits_11 : decode cX4_bits 11 = .ok (.iload_n 2, 1) := by decide +kernel
theorem dX4_bits_12 : decode cX4_bits 12 = .ok (.iload_n 2, 1) := by decide +kernel
theorem dX4_bits_13 : decode cX4_bits 13 = .ok (.iconst 1, 1) := by decide +kernel
theorem dX4_bits_14 : decode cX4_bits 14 = .ok (.isub, 1) := by decide +kernel
theorem dX4_bits_15 : decode cX4_bits 15 = .ok (.iand, 1) := by decide +kernel
theorem dX4_bits_16 : decode cX4_bits 16 = .ok (.istore_n 2, 1) := by decide +kernel
theorem dX4_bits_17 : decode cX4_bits 17 = .ok (.goto (-13), 3) := by decide +kernel
theorem dX4_bits_20 : decode cX4_bits 20 = .ok (.iload_n 1, 1) := by decide +kernel
theorem dX4_bits_21 : decode cX4_bits 21 = .ok (.ireturn, 1) := by decide +kernel
theorem dX4_becomes_0 : decode cX4_becomes 0 = .ok (.aload_n 0, 1) := by decide +kernel
theorem dX4_becomes_1 : decode cX4_becomes 1 = .ok (.getfield 9, 3) := by decide +kernel
theorem dX4_becomes_4 : decode cX4_becomes 4 = .ok (.iload_n 1, 1) := by decide +kernel
theorem dX4_becomes_5 : decode cX4_becomes 5 = .ok (.iaload, 1) := by decide +kernel
theorem dX4_becomes_6 : decode cX4_becomes 6 = .ok (.istore_n 3, 1) := by decide +kernel
theorem dX4_becomes_7 : decode cX4_becomes 7 = .ok (.aload_n 0, 1) := by decide +kernel
theorem dX4_becomes_8 : decode cX4_becomes 8 = .ok (.getfield 9, 3) := by decide +kernel
theorem dX4_becomes_11 : decode cX4_becomes 11 = .ok (.iload_n 1, 1) := by decide +kernel
theorem dX4_becomes_12 : decode cX4_becomes 12 = .ok (.iload_n 2, 1) := by decide +kernel
theorem dX4_becomes_13 : decode cX4_becomes 13 = .ok (.iastore, 1) := by decide +kernel
theorem dX4_becomes_14 : decode cX4_becomes 14 = .ok (.iload_n 3, 1) := by decide +kernel
theorem dX4_becomes_15 : decode cX4_becomes 15 = .ok (.ireturn, 1) := by decide +kernel
set_option maxRecDepth 20000 in
theorem ggX4_isThing_X4_in : GoodIn wsX4_isThing wsX4_in := goodIn_r _ [5] (by decide +kernel) (by decide +kernel)
set_option maxRecDepth 20000 in
theorem gX4_isThing_X4_in : GoodIn wsX4_isThing (va_wsS RX4 41 yX4_in wsX4_in) := goodIn_app (goodIn_of _ (by decide +kernel)) ggX4_isThing_X4_in
theorem dX4_isThing_0 : decode cX4_isThing 0 = .ok (.iload_n 1, 1) := by decide +kernel
theorem dX4_isThing_1 : decode cX4_isThing 1 = .ok (.i2l, 1) := by decide +kernel
theorem dX4_isThing_2 : decode cX4_isThing 2 = .ok (.iconst 0, 1) := by decide +kernel
theorem dX4_isThing_3 : decode cX4_isThing 3 = .ok (.aload_n 0, 1) := by decide +kernel
theorem dX4_isThing_4 : decode cX4_isThing 4 = .ok (.getfield 9, 3) := by decide +kernel
theorem dX4_isThing_7 : decode cX4_isThing 7 = .ok (.iconst 4, 1) := by decide +kernel
theorem dX4_isThing_8 : decode cX4_isThing 8 = .ok (.iaload, 1) := by decide +kernel
theorem dX4_isThing_9 : decode cX4_isThing 9 = .ok (.iconst 1, 1) := by decide +kernel
theorem dX4_isThing_10 : decode cX4_isThing 10 = .ok (.isub, 1) := by decide +kernel
theorem dX4_isThing_11 : decode cX4_isThing 11 = .ok (.invokestatic 41, 3) := by decide +kernel
theorem dX4_isThing_14 : decode cX4_isThing 14 = .ok (.ireturn, 1) := by decide +kernel
set_option maxRecDepth 20000 in
theorem ggX4_isBearing_X4_in : GoodIn wsX4_isBearing wsX4_in := goodIn_r _ [4] (by decide +kernel) (by decide +kernel)
set_option maxRecDepth 20000 in
theorem gX4_isBearing_X4_in : GoodIn wsX4_isBearing (va_wsS RX4 41 yX4_in wsX4_in) := goodIn_app (goodIn_of _ (by decide +kernel)) ggX4_isBearing_X4_in
theorem dX4_isBearing_0 : decode cX4_isBearing 0 = .ok (.iload_n 0, 1) := by decide +kernel
theorem dX4_isBearing_1 : decode cX4_isBearing 1 = .ok (.i2l, 1) := by decide +kernel
theorem dX4_isBearing_2 : decode cX4_isBearing 2 = .ok (.iconst 0, 1) := by decide +kernel
theorem dX4_isBearing_3 : decode cX4_isBearing 3 = .ok (.bipush 59, 2) := by decide +kernel
theorem dX4_isBearing_5 : decode cX4_isBearing 5 = .ok (.invokestatic 41, 3) := by decide +kernel
theorem dX4_isBearing_8 : decode cX4_isBearing 8 = .ok (.ireturn, 1) := by decide +kernel
theorem dX4_it_0 : decode cX4_it 0 = .ok (.aload_n 0, 1) := by decide +kernel
theorem dX4_it_1 : decode cX4_it 1 = .ok (.getfield 9, 3) := by decide +kernel
theorem dX4_it_4 : decode cX4_it 4 = .ok (.iconst 5, 1) := by decide +kernel
theorem dX4_it_5 : decode cX4_it 5 = .ok (.bipush 8, 2) := by decide +kernel
theorem dX4_it_7 : decode cX4_it 7 = .ok (.iload_n 1, 1) := by decide +kernel
theorem dX4_it_8 : decode cX4_it 8 = .ok (.imul, 1) := by decide +kernel
theorem dX4_it_9 : decode cX4_it 9 = .ok (.iadd, 1) := by decide +kernel
theorem dX4_it_10 : decode cX4_it 10 = .ok (.iload_n 2, 1) := by decide +kernel
theorem dX4_it_11 : decode cX4_it 11 = .ok (.iadd, 1) := by decide +kernel
theorem dX4_it_12 : decode cX4_it 12 = .ok (.iaload, 1) := by decide +kernel
theorem dX4_it_13 : decode cX4_it 13 = .ok (.ireturn, 1) := by decide +kernel
theorem dX4_put_0 : decode cX4_put 0 = .ok (.aload_n 0, 1) := by decide +kernel
theorem dX4_put_1 : decode cX4_put 1 = .ok (.getfield 9, 3) := by decide +kernel
theorem dX4_put_4 : decode cX4_put 4 = .ok (.iconst 5, 1) := by decide +kernel
theorem dX4_put_5 : decode cX4_put 5 = .ok (.bipush 8, 2) := by decide +kernel
theorem dX4_put_7 : decode cX4_put 7 = .ok (.iload_n 1, 1) := by decide +kernel
theorem dX4_put_8 : decode cX4_put 8 = .ok (.imul, 1) := by decide +kernel
theorem dX4_put_9 : decode cX4_put 9 = .ok (.iadd, 1) := by decide +kernel
theorem dX4_put_10 : decode cX4_put 10 = .ok (.iload_n 2, 1) := by decide +kernel
theorem dX4_put_11 : decode cX4_put 11 = .ok (.iadd, 1) := by decide +kernel
theorem dX4_put_12 : decode cX4_put 12 = .ok (.iload_n 3, 1) := by decide +kernel
theorem dX4_put_13 : decode cX4_put 13 = .ok (.iastore, 1) := by decide +kernel
theorem dX4_put_14 : decode cX4_put 14 = .ok (.return_, 1) := by decide +kernel
set_option maxRecDepth 20000 in
theorem ggX4_isOn_X4_it : GoodIn wsX4_isOn wsX4_it := goodIn_r _ [5, 6, 7, 8, 9, 10, 11, 12, 13, 14, 15, 16, 17, 18, 19, 20, 21] (by decide +kernel) (by decide +kernel)
set_option maxRecDepth 20000 in
theorem gX4_isOn_X4_it : GoodIn wsX4_isOn (wsV RX4 45 RX4 yX4_it wsX4_it) := goodIn_app (goodIn_of _ (by decide +kernel)) ggX4_isOn_X4_it
theorem dX4_isOn_0 : decode cX4_isOn 0 = .ok (.aload_n 0, 1) := by decide +kernel
theorem dX4_isOn_1 : decode cX4_isOn 1 = .ok (.iload_n 1, 1) := by decide +kernel
theorem dX4_isOn_2 : decode cX4_isOn 2 = .ok (.iconst 3, 1) := by decide +kernel
theorem dX4_isOn_3 : decode cX4_isOn 3 = .ok (.invokevirtual 45, 3) := by decide +kernel
theorem dX4_isOn_6 : decode cX4_isOn 6 = .ok (.iconst 1, 1) := by decide +kernel
theorem dX4_isOn_7 : decode cX4_isOn 7 = .ok (.if_icmp .ne 7, 3) := by decide +kernel
theorem dX4_isOn_10 : decode cX4_isOn 10 = .ok (.iconst 1, 1) := by decide +kernel
theorem dX4_isOn_11 : decode cX4_isOn 11 = .ok (.goto 4, 3) := by decide +kernel
theorem dX4_isOn_14 : decode cX4_isOn 14 = .ok (.iconst 0, 1) := by decide +kernel
theorem dX4_isOn_15 : decode cX4_isOn 15 = .ok (.ireturn, 1) := by decide +kernel
set_option maxRecDepth 20000 in
theorem ggX4_setOf_X4_it : GoodIn wsX4_setOf wsX4_it := goodIn_r _ [6, 1, 7, 8, 9, 10, 11, 12, 13, 14, 15, 16, 17, 18, 19, 20, 21] (by decide +kernel) (by decide +kernel)
set_option maxRecDepth 20000 in
theorem gX4_setOf_X4_it : GoodIn wsX4_setOf (wsV RX4 45 RX4 yX4_it wsX4_it) := goodIn_app (goodIn_of _ (by decide +kernel)) ggX4_setOf_X4_it
theorem dX4_setOf_0 : decode cX4_setOf 0 = .ok (.iconst 0, 1) := by decide +kernel
theorem dX4_setOf_1 : decode cX4_setOf 1 = .ok (.istore_n 2, 1) := by decide +kernel
theorem dX4_setOf_2 : decode cX4_setOf 2 = .ok (.iconst 0, 1) := by decide +kernel
theorem dX4_setOf_3 : decode cX4_setOf 3 = .ok (.istore_n 3, 1) := by decide +kernel
theorem dX4_setOf_4 : decode cX4_setOf 4 = .ok (.iload_n 3, 1) := by decide +kernel
theorem dX4_setOf_5 : decode cX4_setOf 5 = .ok (.aload_n 0, 1) := by decide +kernel
theorem dX4_setOf_6 : decode cX4_setOf 6 = .ok (.getfield 9, 3) := by decide +kernel
theorem dX4_setOf_9 : decode cX4_setOf 9 = .ok (.iconst 4, 1) := by decide +kernel
theorem dX4_setOf_10 : decode cX4_setOf 10 = .ok (.iaload, 1) := by decide +kernel
theorem dX4_setOf_11 : decode cX4_setOf 11 = .ok (.if_icmp .ge 20, 3) := by decide +kernel
theorem dX4_setOf_14 : decode cX4_setOf 14 = .ok (.iload_n 2, 1) := by decide +kernel
theorem dX4_setOf_15 : decode cX4_setOf 15 = .ok (.aload_n 0, 1) := by decide +kernel
theorem dX4_setOf_16 : decode cX4_setOf 16 = .ok (.iload_n 3, 1) := by decide +kernel
theorem dX4_setOf_17 : decode cX4_setOf 17 = .ok (.iload_n 1, 1) := by decide +kernel
theorem dX4_setOf_18 : decode cX4_setOf 18 = .ok (.invokevirtual 45, 3) := by decide +kernel
theorem dX4_setOf_21 : decode cX4_setOf 21 = .ok (.iload_n 3, 1) := by decide +kernel
theorem dX4_setOf_22 : decode cX4_setOf 22 = .ok (.ishl, 1) := by decide +kernel
theorem dX4_setOf_23 : decode cX4_setOf 23 = .ok (.ior, 1) := by decide +kernel
theorem dX4_setOf_24 : decode cX4_setOf 24 = .ok (.istore_n 2, 1) := by decide +kernel
theorem dX4_setOf_25 : decode cX4_setOf 25 = .ok (.iinc 3 1, 3) := by decide +kernel
theorem dX4_setOf_28 : decode cX4_setOf 28 = .ok (.goto (-24), 3) := by decide +kernel
theorem dX4_setOf_31 : decode cX4_setOf 31 = .ok (.iload_n 2, 1) := by decide +kernel
theorem dX4_setOf_32 : decode cX4_setOf 32 = .ok (.ireturn, 1) := by decide +kernel
set_option maxRecDepth 20000 in
theorem ggX4_others_X4_setOf : GoodIn wsX4_others wsX4_setOf := goodIn_r _ [5, 6, 7, 8, 9, 4, 10, 14, 15, 16, 17, 18, 19, 20, 21, 22, 23, 24, 25, 26, 27, 28] (by decide +kernel) (by decide +kernel)
set_option maxRecDepth 20000 in
theorem gX4_others_X4_setOf : GoodIn wsX4_others (wsV RX4 49 RX4 yX4_setOf wsX4_setOf) := goodIn_app (goodIn_of _ (by decide +kernel)) ggX4_others_X4_setOf
set_option maxRecDepth 20000 in
theorem ggX4_others_X4_bits : GoodIn wsX4_others wsX4_bits := goodIn_r _ [13] (by decide +kernel) (by decide +kernel)
set_option maxRecDepth 20000 in
theorem gX4_others_X4_bits : GoodIn wsX4_others (va_wsS RX4 52 yX4_bits wsX4_bits) := goodIn_app (goodIn_of _ (by decide +kernel)) ggX4_others_X4_bits
theorem dX4_others_0 : decode cX4_others 0 = .ok (.aload_n 0, 1) := by decide +kernel
theorem dX4_others_1 : decode cX4_others 1 = .ok (.iconst 3, 1) := by decide +kernel
theorem dX4_others_2 : decode cX4_others 2 = .ok (.invokevirtual 49, 3) := by decide +kernel
theorem dX4_others_5 : decode cX4_others 5 = .ok (.iconst 1, 1) := by decide +kernel
theorem dX4_others_6 : decode cX4_others 6 = .ok (.iload_n 1, 1) := by decide +kernel
theorem dX4_others_7 : decode cX4_others 7 = .ok (.ishl, 1) := by decide +kernel
theorem dX4_others_8 : decode cX4_others 8 = .ok (.iconst (-1), 1) := by decide +kernel
theorem dX4_others_9 : decode cX4_others 9 = .ok (.ixor, 1) := by decide +kernel
theorem dX4_others_10 : decode cX4_others 10 = .ok (.iand, 1) := by decide +kernel
theorem dX4_others_11 : decode cX4_others 11 = .ok (.invokestatic 52, 3) := by decide +kernel
theorem dX4_others_14 : decode cX4_others 14 = .ok (.ireturn, 1) := by decide +kernel
set_option maxRecDepth 20000 in
theorem ggX4_weighs_X4_it : GoodIn wsX4_weighs wsX4_it := goodIn_r _ [5, 6, 7, 8, 9, 10, 11, 12, 13, 14, 15, 16, 17, 18, 19, 20, 21] (by decide +kernel) (by decide +kernel)
set_option maxRecDepth 20000 in
theorem gX4_weighs_X4_it : GoodIn wsX4_weighs (wsV RX4 45 RX4 yX4_it wsX4_it) := goodIn_app (goodIn_of _ (by decide +kernel)) ggX4_weighs_X4_it
theorem dX4_weighs_0 : decode cX4_weighs 0 = .ok (.iconst 1, 1) := by decide +kernel
theorem dX4_weighs_1 : decode cX4_weighs 1 = .ok (.aload_n 0, 1) := by decide +kernel
theorem dX4_weighs_2 : decode cX4_weighs 2 = .ok (.iload_n 1, 1) := by decide +kernel
theorem dX4_weighs_3 : decode cX4_weighs 3 = .ok (.iconst 4, 1) := by decide +kernel
theorem dX4_weighs_4 : decode cX4_weighs 4 = .ok (.invokevirtual 45, 3) := by decide +kernel
theorem dX4_weighs_7 : decode cX4_weighs 7 = .ok (.bipush 25, 2) := by decide +kernel
theorem dX4_weighs_9 : decode cX4_weighs 9 = .ok (.idiv, 1) := by decide +kernel
theorem dX4_weighs_10 : decode cX4_weighs 10 = .ok (.iadd, 1) := by decide +kernel
theorem dX4_weighs_11 : decode cX4_weighs 11 = .ok (.istore_n 2, 1) := by decide +kernel
theorem dX4_weighs_12 : decode cX4_weighs 12 = .ok (.aload_n 0, 1) := by decide +kernel
theorem dX4_weighs_13 : decode cX4_weighs 13 = .ok (.iload_n 1, 1) := by decide +kernel
theorem dX4_weighs_14 : decode cX4_weighs 14 = .ok (.iconst 0, 1) := by decide +kernel
theorem dX4_weighs_15 : decode cX4_weighs 15 = .ok (.invokevirtual 45, 3) := by decide +kernel
theorem dX4_weighs_18 : decode cX4_weighs 18 = .ok (.tableswitch 46 1 5 #[34, 36, 38, 40, 44], 34) := by decide +kernel
theorem dX4_weighs_52 : decode cX4_weighs 52 = .ok (.iload_n 2, 1) := by decide +kernel
theorem dX4_weighs_53 : decode cX4_weighs 53 = .ok (.ireturn, 1) := by decide +kernel
theorem dX4_weighs_54 : decode cX4_weighs 54 = .ok (.iconst 4, 1) := by decide +kernel
theorem dX4_weighs_55 : decode cX4_weighs 55 = .ok (.ireturn, 1) := by decide +kernel
theorem dX4_weighs_56 : decode cX4_weighs 56 = .ok (.iconst 5, 1) := by decide +kernel
theorem dX4_weighs_57 : decode cX4_weighs 57 = .ok (.ireturn, 1) := by decide +kernel
theorem dX4_weighs_58 : decode cX4_weighs 58 = .ok (.iload_n 2, 1) := by decide +kernel
theorem dX4_weighs_59 : decode cX4_weighs 59 = .ok (.iconst 1, 1) := by decide +kernel
theorem dX4_weighs_60 : decode cX4_weighs 60 = .ok (.iadd, 1) := by decide +kernel
theorem dX4_weighs_61 : decode cX4_weighs 61 = .ok (.ireturn, 1) := by decide +kernel
theorem dX4_weighs_62 : decode cX4_weighs 62 = .ok (.iconst 2, 1) := by decide +kernel
theorem dX4_weighs_63 : decode cX4_weighs 63 = .ok (.ireturn, 1) := by decide +kernel
theorem dX4_weighs_64 : decode cX4_weighs 64 = .ok (.iconst 3, 1) := by decide +kernel
theorem dX4_weighs_65 : decode cX4_weighs 65 = .ok (.ireturn, 1) := by decide +kernel
set_option maxRecDepth 20000 in
theorem ggX4_dries_X4_it : GoodIn wsX4_dries wsX4_it := goodIn_r _ [6, 1, 7, 8, 9, 10, 11, 12, 13, 14, 15, 16, 17, 18, 19, 20, 21] (by decide +kernel) (by decide +kernel)
set_option maxRecDepth 20000 in
theorem gX4_dries_X4_it : GoodIn wsX4_dries (wsV RX4 45 RX4 yX4_it wsX4_it) := goodIn_app (goodIn_of _ (by decide +kernel)) ggX4_dries_X4_it
theorem dX4_dries_0 : decode cX4_dries 0 = .ok (.iconst 3, 1) := by decide +kernel
theorem dX4_dries_1 : decode cX4_dries 1 = .ok (.aload_n 0, 1) := by decide +kernel
theorem dX4_dries_2 : decode cX4_dries 2 = .ok (.iload_n 1, 1) := by decide +kernel
theorem dX4_dries_3 : decode cX4_dries 3 = .ok (.iconst 2, 1) := by decide +kernel
theorem dX4_dries_4 : decode cX4_dries 4 = .ok (.invokevirtual 45, 3) := by decide +kernel
theorem dX4_dries_7 : decode cX4_dries 7 = .ok (.iconst 3, 1) := by decide +kernel
theorem dX4_dries_8 : decode cX4_dries 8 = .ok (.idiv, 1) := by decide +kernel
theorem dX4_dries_9 : decode cX4_dries 9 = .ok (.iadd, 1) := by decide +kernel
theorem dX4_dries_10 : decode cX4_dries 10 = .ok (.istore_n 2, 1) := by decide +kernel
theorem dX4_dries_11 : decode cX4_dries 11 = .ok (.aload_n 0, 1) := by decide +kernel
theorem dX4_dries_12 : decode cX4_dries 12 = .ok (.iload_n 1, 1) := by decide +kernel
theorem dX4_dries_13 : decode cX4_dries 13 = .ok (.iconst 0, 1) := by decide +kernel
theorem dX4_dries_14 : decode cX4_dries 14 = .ok (.invokevirtual 45, 3) := by decide +kernel
theorem dX4_dries_17 : decode cX4_dries 17 = .ok (.tableswitch 46 1 4 #[31, 46, 33, 35], 31) := by decide +kernel
theorem dX4_dries_48 : decode cX4_dries 48 = .ok (.iload_n 2, 1) := by decide +kernel
theorem dX4_dries_49 : decode cX4_dries 49 = .ok (.ireturn, 1) := by decide +kernel
theorem dX4_dries_50 : decode cX4_dries 50 = .ok (.iconst 0, 1) := by decide +kernel
theorem dX4_dries_51 : decode cX4_dries 51 = .ok (.ireturn, 1) := by decide +kernel
theorem dX4_dries_52 : decode cX4_dries 52 = .ok (.iload_n 2, 1) := by decide +kernel
theorem dX4_dries_53 : decode cX4_dries 53 = .ok (.aload_n 0, 1) := by decide +kernel
theorem dX4_dries_54 : decode cX4_dries 54 = .ok (.getfield 9, 3) := by decide +kernel
theorem dX4_dries_57 : decode cX4_dries 57 = .ok (.iconst 2, 1) := by decide +kernel
theorem dX4_dries_58 : decode cX4_dries 58 = .ok (.iaload, 1) := by decide +kernel
theorem dX4_dries_59 : decode cX4_dries 59 = .ok (.iconst 2, 1) := by decide +kernel
theorem dX4_dries_60 : decode cX4_dries 60 = .ok (.idiv, 1) := by decide +kernel
theorem dX4_dries_61 : decode cX4_dries 61 = .ok (.iadd, 1) := by decide +kernel
theorem dX4_dries_62 : decode cX4_dries 62 = .ok (.ireturn, 1) := by decide +kernel
theorem dX4_dries_63 : decode cX4_dries 63 = .ok (.iconst 1, 1) := by decide +kernel
theorem dX4_dries_64 : decode cX4_dries 64 = .ok (.ireturn, 1) := by decide +kernel
set_option maxRecDepth 20000 in
theorem ggX4_getsOn_X4_it : GoodIn wsX4_getsOn wsX4_it := goodIn_r _ [6, 1, 18, 19, 20, 21, 22, 23, 24, 25, 26, 27, 28, 29, 30, 31, 32] (by decide +kernel) (by decide +kernel)
set_option maxRecDepth 20000 in
theorem gX4_getsOn_X4_it : GoodIn wsX4_getsOn (wsV RX4 45 RX4 yX4_it wsX4_it) := goodIn_app (goodIn_of _ (by decide +kernel)) ggX4_getsOn_X4_it
set_option maxRecDepth 20000 in
theorem ggX4_getsOn_X4_others : GoodIn wsX4_getsOn wsX4_others := goodIn_r _ [10, 11, 12, 13, 5, 14, 1, 2, 3, 4, 6, 15, 16, 17, 18, 19, 20, 21, 22, 23, 24, 25, 26, 27, 28, 29, 30, 31, 32] (by decide +kernel) (by decide +kernel)
set_option maxRecDepth 20000 in
theorem gX4_getsOn_X4_others : GoodIn wsX4_getsOn (wsV RX4 55 RX4 yX4_others wsX4_others) := goodIn_app (goodIn_of _ (by decide +kernel)) ggX4_getsOn_X4_others
theorem dX4_getsOn_0 : decode cX4_getsOn 0 = .ok (.aload_n 0, 1) := by decide +kernel
theorem dX4_getsOn_1 : decode cX4_getsOn 1 = .ok (.iload_n 1, 1) := by decide +kernel
theorem dX4_getsOn_2 : decode cX4_getsOn 2 = .ok (.iconst 0, 1) := by decide +kernel
theorem dX4_getsOn_3 : decode cX4_getsOn 3 = .ok (.invokevirtual 45, 3) := by decide +kernel
theorem dX4_getsOn_6 : decode cX4_getsOn 6 = .ok (.tableswitch 139 1 5 #[34, 49, 70, 85, 110], 34) := by decide +kernel
theorem dX4_getsOn_40 : decode cX4_getsOn 40 = .ok (.aload_n 0, 1) := by decide +kernel
theorem dX4_getsOn_41 : decode cX4_getsOn 41 = .ok (.iload_n 1, 1) := by decide +kernel
theorem dX4_getsOn_42 : decode cX4_getsOn 42 = .ok (.iconst 4, 1) := by decide +kernel
theorem dX4_getsOn_43 : decode cX4_getsOn 43 = .ok (.invokevirtual 45, 3) := by decide +kernel
theorem dX4_getsOn_46 : decode cX4_getsOn 46 = .ok (.ifCond .le 7, 3) := by decide +kernel
theorem dX4_getsOn_49 : decode cX4_getsOn 49 = .ok (.iconst 1, 1) := by decide +kernel
theorem dX4_getsOn_50 : decode cX4_getsOn 50 = .ok (.goto 4, 3) := by decide +kernel
theorem dX4_getsOn_53 : decode cX4_getsOn 53 = .ok (.iconst 0, 1) := by decide +kernel
theorem dX4_getsOn_54 : decode cX4_getsOn 54 = .ok (.ireturn, 1) := by decide +kernel
theorem dX4_getsOn_55 : decode cX4_getsOn 55 = .ok (.aload_n 0, 1) := by decide +kernel
theorem dX4_getsOn_56 : decode cX4_getsOn 56 = .ok (.iload_n 1, 1) := by decide +kernel
theorem dX4_getsOn_57 : decode cX4_getsOn 57 = .ok (.iconst 1, 1) := by decide +kernel
theorem dX4_getsOn_58 : decode cX4_getsOn 58 = .ok (.invokevirtual 45, 3) := by decide +kernel
theorem dX4_getsOn_61 : decode cX4_getsOn 61 = .ok (.aload_n 0, 1) := by decide +kernel
theorem dX4_getsOn_62 : decode cX4_getsOn 62 = .ok (.iload_n 1, 1) := by decide +kernel
theorem dX4_getsOn_63 : decode cX4_getsOn 63 = .ok (.iconst 5, 1) := by decide +kernel
theorem dX4_getsOn_64 : decode cX4_getsOn 64 = .ok (.invokevirtual 45, 3) := by decide +kernel
theorem dX4_getsOn_67 : decode cX4_getsOn 67 = .ok (.if_icmp .eq 7, 3) := by decide +kernel
theorem dX4_getsOn_70 : decode cX4_getsOn 70 = .ok (.iconst 1, 1) := by decide +kernel
theorem dX4_getsOn_71 : decode cX4_getsOn 71 = .ok (.goto 4, 3) := by decide +kernel
theorem dX4_getsOn_74 : decode cX4_getsOn 74 = .ok (.iconst 0, 1) := by decide +kernel
theorem dX4_getsOn_75 : decode cX4_getsOn 75 = .ok (.ireturn, 1) := by decide +kernel
theorem dX4_getsOn_76 : decode cX4_getsOn 76 = .ok (.aload_n 0, 1) := by decide +kernel
theorem dX4_getsOn_77 : decode cX4_getsOn 77 = .ok (.iload_n 1, 1) := by decide +kernel
theorem dX4_getsOn_78 : decode cX4_getsOn 78 = .ok (.invokevirtual 55, 3) := by decide +kernel
theorem dX4_getsOn_81 : decode cX4_getsOn 81 = .ok (.iconst 3, 1) := by decide +kernel
theorem dX4_getsOn_82 : decode cX4_getsOn 82 = .ok (.if_icmp .ge 7, 3) := by decide +kernel
theorem dX4_getsOn_85 : decode cX4_getsOn 85 = .ok (.iconst 1, 1) := by decide +kernel
theorem dX4_getsOn_86 : decode cX4_getsOn 86 = .ok (.goto 4, 3) := by decide +kernel
theorem dX4_getsOn_89 : decode cX4_getsOn 89 = .ok (.iconst 0, 1) := by decide +kernel
theorem dX4_getsOn_90 : decode cX4_getsOn 90 = .ok (.ireturn, 1) := by decide +kernel
theorem dX4_getsOn_91 : decode cX4_getsOn 91 = .ok (.aload_n 0, 1) := by decide +kernel
theorem dX4_getsOn_92 : decode cX4_getsOn 92 = .ok (.iload_n 1, 1) := by decide +kernel
theorem dX4_getsOn_93 : decode cX4_getsOn 93 = .ok (.iconst 4, 1) := by decide +kernel
theorem dX4_getsOn_94 : decode cX4_getsOn 94 = .ok (.invokevirtual 45, 3) := by decide +kernel
theorem dX4_getsOn_97 : decode cX4_getsOn 97 = .ok (.ifCond .le 17, 3) := by decide +kernel
theorem dX4_getsOn_100 : decode cX4_getsOn 100 = .ok (.aload_n 0, 1) := by decide +kernel
theorem dX4_getsOn_101 : decode cX4_getsOn 101 = .ok (.getfield 9, 3) := by decide +kernel
theorem dX4_getsOn_104 : decode cX4_getsOn 104 = .ok (.iconst 2, 1) := by decide +kernel
theorem dX4_getsOn_105 : decode cX4_getsOn 105 = .ok (.iaload, 1) := by decide +kernel
theorem dX4_getsOn_106 : decode cX4_getsOn 106 = .ok (.iconst 5, 1) := by decide +kernel
theorem dX4_getsOn_107 : decode cX4_getsOn 107 = .ok (.if_icmp .gt 7, 3) := by decide +kernel
theorem dX4_getsOn_110 : decode cX4_getsOn 110 = .ok (.iconst 1, 1) := by decide +kernel
theorem dX4_getsOn_111 : decode cX4_getsOn 111 = .ok (.goto 4, 3) := by decide +kernel
theorem dX4_getsOn_114 : decode cX4_getsOn 114 = .ok (.iconst 0, 1) := by decide +kernel
theorem dX4_getsOn_115 : decode cX4_getsOn 115 = .ok (.ireturn, 1) := by decide +kernel
theorem dX4_getsOn_116 : decode cX4_getsOn 116 = .ok (.aload_n 0, 1) := by decide +kernel
theorem dX4_getsOn_117 : decode cX4_getsOn 117 = .ok (.iload_n 1, 1) := by decide +kernel
theorem dX4_getsOn_118 : decode cX4_getsOn 118 = .ok (.iconst 1, 1) := by decide +kernel
theorem dX4_getsOn_119 : decode cX4_getsOn 119 = .ok (.invokevirtual 45, 3) := by decide +kernel
theorem dX4_getsOn_122 : decode cX4_getsOn 122 = .ok (.aload_n 0, 1) := by decide +kernel
theorem dX4_getsOn_123 : decode cX4_getsOn 123 = .ok (.iload_n 1, 1) := by decide +kernel
theorem dX4_getsOn_124 : decode cX4_getsOn 124 = .ok (.iconst 5, 1) := by decide +kernel
theorem dX4_getsOn_125 : decode cX4_getsOn 125 = .ok (.invokevirtual 45, 3) := by decide +kernel
theorem dX4_getsOn_128 : decode cX4_getsOn 128 = .ok (.if_icmp .eq 15, 3) := by decide +kernel
theorem dX4_getsOn_131 : decode cX4_getsOn 131 = .ok (.aload_n 0, 1) := by decide +kernel
theorem dX4_getsOn_132 : decode cX4_getsOn 132 = .ok (.iload_n 1, 1) := by decide +kernel
theorem dX4_getsOn_133 : decode cX4_getsOn 133 = .ok (.invokevirtual 55, 3) := by decide +kernel
theorem dX4_getsOn_136 : decode cX4_getsOn 136 = .ok (.ifCond .le 7, 3) := by decide +kernel
theorem dX4_getsOn_139 : decode cX4_getsOn 139 = .ok (.iconst 1, 1) := by decide +kernel
theorem dX4_getsOn_140 : decode cX4_getsOn 140 = .ok (.goto 4, 3) := by decide +kernel
theorem dX4_getsOn_143 : decode cX4_getsOn 143 = .ok (.iconst 0, 1) := by decide +kernel
theorem dX4_getsOn_144 : decode cX4_getsOn 144 = .ok (.ireturn, 1) := by decide +kernel
theorem dX4_getsOn_145 : decode cX4_getsOn 145 = .ok (.iconst 0, 1) := by decide +kernel
theorem dX4_getsOn_146 : decode cX4_getsOn 146 = .ok (.ireturn, 1) := by decide +kernel
set_option maxRecDepth 20000 in
theorem ggX4_getsOff_X4_it : GoodIn wsX4_getsOff wsX4_it := goodIn_r _ [5, 6, 18, 19, 20, 21, 22, 23, 24, 25, 26, 27, 28, 29, 30, 31, 32] (by decide +kernel) (by decide +kernel)
set_option maxRecDepth 20000 in
theorem gX4_getsOff_X4_it : GoodIn wsX4_getsOff (wsV RX4 45 RX4 yX4_it wsX4_it) := goodIn_app (goodIn_of _ (by decide +kernel)) ggX4_getsOff_X4_it
set_option maxRecDepth 20000 in
theorem ggX4_getsOff_X4_others : GoodIn wsX4_getsOff wsX4_others := goodIn_r _ [10, 11, 12, 13, 4, 14, 6, 1, 2, 3, 5, 15, 16, 17, 18, 19, 20, 21, 22, 23, 24, 25, 26, 27, 28, 29, 30, 31, 32] (by decide +kernel) (by decide +kernel)
set_option maxRecDepth 20000 in
theorem gX4_getsOff_X4_others : GoodIn wsX4_getsOff (wsV RX4 55 RX4 yX4_others wsX4_others) := goodIn_app (goodIn_of _ (by decide +kernel)) ggX4_getsOff_X4_others
theorem dX4_getsOff_0 : decode cX4_getsOff 0 = .ok (.aload_n 0, 1) := by decide +kernel
theorem dX4_getsOff_1 : decode cX4_getsOff 1 = .ok (.iload_n 1, 1) := by decide +kernel
theorem dX4_getsOff_2 : decode cX4_getsOff 2 = .ok (.iconst 0, 1) := by decide +kernel
theorem dX4_getsOff_3 : decode cX4_getsOff 3 = .ok (.invokevirtual 45, 3) := by decide +kernel
theorem dX4_getsOff_6 : decode cX4_getsOff 6 = .ok (.tableswitch 128 1 5 #[34, 49, 65, 83, 104], 34) := by decide +kernel
theorem dX4_getsOff_40 : decode cX4_getsOff 40 = .ok (.aload_n 0, 1) := by decide +kernel
theorem dX4_getsOff_41 : decode cX4_getsOff 41 = .ok (.iload_n 1, 1) := by decide +kernel
theorem dX4_getsOff_42 : decode cX4_getsOff 42 = .ok (.iconst 4, 1) := by decide +kernel
theorem dX4_getsOff_43 : decode cX4_getsOff 43 = .ok (.invokevirtual 45, 3) := by decide +kernel
theorem dX4_getsOff_46 : decode cX4_getsOff 46 = .ok (.ifCond .ne 7, 3) := by decide +kernel
theorem dX4_getsOff_49 : decode cX4_getsOff 49 = .ok (.iconst 1, 1) := by decide +kernel
theorem dX4_getsOff_50 : decode cX4_getsOff 50 = .ok (.goto 4, 3) := by decide +kernel
theorem dX4_getsOff_53 : decode cX4_getsOff 53 = .ok (.iconst 0, 1) := by decide +kernel
theorem dX4_getsOff_54 : decode cX4_getsOff 54 = .ok (.ireturn, 1) := by decide +kernel
theorem dX4_getsOff_55 : decode cX4_getsOff 55 = .ok (.iload_n 2, 1) := by decide +kernel
theorem dX4_getsOff_56 : decode cX4_getsOff 56 = .ok (.aload_n 0, 1) := by decide +kernel
theorem dX4_getsOff_57 : decode cX4_getsOff 57 = .ok (.iload_n 1, 1) := by decide +kernel
theorem dX4_getsOff_58 : decode cX4_getsOff 58 = .ok (.iconst 5, 1) := by decide +kernel
theorem dX4_getsOff_59 : decode cX4_getsOff 59 = .ok (.invokevirtual 45, 3) := by decide +kernel
theorem dX4_getsOff_62 : decode cX4_getsOff 62 = .ok (.if_icmp .ne 7, 3) := by decide +kernel
theorem dX4_getsOff_65 : decode cX4_getsOff 65 = .ok (.iconst 1, 1) := by decide +kernel
theorem dX4_getsOff_66 : decode cX4_getsOff 66 = .ok (.goto 4, 3) := by decide +kernel
theorem dX4_getsOff_69 : decode cX4_getsOff 69 = .ok (.iconst 0, 1) := by decide +kernel
theorem dX4_getsOff_70 : decode cX4_getsOff 70 = .ok (.ireturn, 1) := by decide +kernel
theorem dX4_getsOff_71 : decode cX4_getsOff 71 = .ok (.iload_n 2, 1) := by decide +kernel
theorem dX4_getsOff_72 : decode cX4_getsOff 72 = .ok (.bipush 38, 2) := by decide +kernel
theorem dX4_getsOff_74 : decode cX4_getsOff 74 = .ok (.if_icmp .eq 9, 3) := by decide +kernel
theorem dX4_getsOff_77 : decode cX4_getsOff 77 = .ok (.iload_n 2, 1) := by decide +kernel
theorem dX4_getsOff_78 : decode cX4_getsOff 78 = .ok (.bipush 39, 2) := by decide +kernel
theorem dX4_getsOff_80 : decode cX4_getsOff 80 = .ok (.if_icmp .ne 7, 3) := by decide +kernel
theorem dX4_getsOff_83 : decode cX4_getsOff 83 = .ok (.iconst 1, 1) := by decide +kernel
theorem dX4_getsOff_84 : decode cX4_getsOff 84 = .ok (.goto 4, 3) := by decide +kernel
theorem dX4_getsOff_87 : decode cX4_getsOff 87 = .ok (.iconst 0, 1) := by decide +kernel
theorem dX4_getsOff_88 : decode cX4_getsOff 88 = .ok (.ireturn, 1) := by decide +kernel
theorem dX4_getsOff_89 : decode cX4_getsOff 89 = .ok (.aload_n 0, 1) := by decide +kernel
theorem dX4_getsOff_90 : decode cX4_getsOff 90 = .ok (.iload_n 1, 1) := by decide +kernel
theorem dX4_getsOff_91 : decode cX4_getsOff 91 = .ok (.iconst 4, 1) := by decide +kernel
theorem dX4_getsOff_92 : decode cX4_getsOff 92 = .ok (.invokevirtual 45, 3) := by decide +kernel
theorem dX4_getsOff_95 : decode cX4_getsOff 95 = .ok (.ifCond .eq 9, 3) := by decide +kernel
theorem dX4_getsOff_98 : decode cX4_getsOff 98 = .ok (.iload_n 2, 1) := by decide +kernel
theorem dX4_getsOff_99 : decode cX4_getsOff 99 = .ok (.bipush 35, 2) := by decide +kernel
theorem dX4_getsOff_101 : decode cX4_getsOff 101 = .ok (.if_icmp .lt 7, 3) := by decide +kernel
theorem dX4_getsOff_104 : decode cX4_getsOff 104 = .ok (.iconst 1, 1) := by decide +kernel
theorem dX4_getsOff_105 : decode cX4_getsOff 105 = .ok (.goto 4, 3) := by decide +kernel
theorem dX4_getsOff_108 : decode cX4_getsOff 108 = .ok (.iconst 0, 1) := by decide +kernel
theorem dX4_getsOff_109 : decode cX4_getsOff 109 = .ok (.ireturn, 1) := by decide +kernel
theorem dX4_getsOff_110 : decode cX4_getsOff 110 = .ok (.iload_n 2, 1) := by decide +kernel
theorem dX4_getsOff_111 : decode cX4_getsOff 111 = .ok (.aload_n 0, 1) := by decide +kernel
theorem dX4_getsOff_112 : decode cX4_getsOff 112 = .ok (.iload_n 1, 1) := by decide +kernel
theorem dX4_getsOff_113 : decode cX4_getsOff 113 = .ok (.iconst 5, 1) := by decide +kernel
theorem dX4_getsOff_114 : decode cX4_getsOff 114 = .ok (.invokevirtual 45, 3) := by decide +kernel
theorem dX4_getsOff_117 : decode cX4_getsOff 117 = .ok (.if_icmp .eq 11, 3) := by decide +kernel
theorem dX4_getsOff_120 : decode cX4_getsOff 120 = .ok (.aload_n 0, 1) := by decide +kernel
theorem dX4_getsOff_121 : decode cX4_getsOff 121 = .ok (.iload_n 1, 1) := by decide +kernel
theorem dX4_getsOff_122 : decode cX4_getsOff 122 = .ok (.invokevirtual 55, 3) := by decide +kernel
theorem dX4_getsOff_125 : decode cX4_getsOff 125 = .ok (.ifCond .ne 7, 3) := by decide +kernel
theorem dX4_getsOff_128 : decode cX4_getsOff 128 = .ok (.iconst 1, 1) := by decide +kernel
theorem dX4_getsOff_129 : decode cX4_getsOff 129 = .ok (.goto 4, 3) := by decide +kernel
theorem dX4_getsOff_132 : decode cX4_getsOff 132 = .ok (.iconst 0, 1) := by decide +kernel
theorem dX4_getsOff_133 : decode cX4_getsOff 133 = .ok (.ireturn, 1) := by decide +kernel
theorem dX4_getsOff_134 : decode cX4_getsOff 134 = .ok (.iconst 0, 1) := by decide +kernel
theorem dX4_getsOff_135 : decode cX4_getsOff 135 = .ok (.ireturn, 1) := by decide +kernel
set_option maxRecDepth 20000 in
theorem ggX4_bears_X4_held : GoodIn wsX4_bears wsX4_held := goodIn_r _ [5] (by decide +kernel) (by decide +kernel)
set_option maxRecDepth 20000 in
theorem gX4_bears_X4_held : GoodIn wsX4_bears (va_wsS RX4 58 yX4_held wsX4_held) := goodIn_app (goodIn_of _ (by decide +kernel)) ggX4_bears_X4_held
theorem dX4_bears_0 : decode cX4_bears 0 = .ok (.aload_n 0, 1) := by decide +kernel
theorem dX4_bears_1 : decode cX4_bears 1 = .ok (.getfield 9, 3) := by decide +kernel
theorem dX4_bears_4 : decode cX4_bears 4 = .ok (.iconst 3, 1) := by decide +kernel
theorem dX4_bears_5 : decode cX4_bears 5 = .ok (.iaload, 1) := by decide +kernel
theorem dX4_bears_6 : decode cX4_bears 6 = .ok (.iconst 2, 1) := by decide +kernel
theorem dX4_bears_7 : decode cX4_bears 7 = .ok (.iload_n 1, 1) := by decide +kernel
theorem dX4_bears_8 : decode cX4_bears 8 = .ok (.imul, 1) := by decide +kernel
theorem dX4_bears_9 : decode cX4_bears 9 = .ok (.isub, 1) := by decide +kernel
theorem dX4_bears_10 : decode cX4_bears 10 = .ok (.iconst 0, 1) := by decide +kernel
theorem dX4_bears_11 : decode cX4_bears 11 = .ok (.bipush 40, 2) := by decide +kernel
theorem dX4_bears_13 : decode cX4_bears 13 = .ok (.invokestatic 58, 3) := by decide +kernel
theorem dX4_bears_16 : decode cX4_bears 16 = .ok (.ireturn, 1) := by decide +kernel
set_option maxRecDepth 20000 in
theorem ggX4_loadAt_X4_isOn : GoodIn wsX4_loadAt wsX4_isOn := goodIn_r _ [6, 7, 8, 9, 5, 10, 1, 15, 16, 17, 18, 19, 20, 21, 22, 23, 24, 25, 26, 27, 28, 29] (by decide +kernel) (by decide +kernel)
set_option maxRecDepth 20000 in
theorem gX4_loadAt_X4_isOn : GoodIn wsX4_loadAt (wsV RX4 62 RX4 yX4_isOn wsX4_isOn) := goodIn_app (goodIn_of _ (by decide +kernel)) ggX4_loadAt_X4_isOn
set_option maxRecDepth 20000 in
theorem ggX4_loadAt_X4_it : GoodIn wsX4_loadAt wsX4_it := goodIn_r _ [10, 1, 15, 16, 17, 18, 19, 20, 21, 22, 23, 24, 25, 26, 27, 28, 29] (by decide +kernel) (by decide +kernel)
set_option maxRecDepth 20000 in
theorem gX4_loadAt_X4_it : GoodIn wsX4_loadAt (wsV RX4 45 RX4 yX4_it wsX4_it) := goodIn_app (goodIn_of _ (by decide +kernel)) ggX4_loadAt_X4_it
set_option maxRecDepth 20000 in
theorem ggX4_loadAt_X4_weighs : GoodIn wsX4_loadAt wsX4_weighs := goodIn_r _ [14, 7, 8, 9, 5, 10, 1, 15, 16, 17, 18, 19, 20, 21, 22, 23, 24, 25, 26, 27, 28, 29] (by decide +kernel) (by decide +kernel)
set_option maxRecDepth 20000 in
theorem gX4_loadAt_X4_weighs : GoodIn wsX4_loadAt (wsV RX4 66 RX4 yX4_weighs wsX4_weighs) := goodIn_app (goodIn_of _ (by decide +kernel)) ggX4_loadAt_X4_weighs
theorem dX4_loadAt_0 : decode cX4_loadAt 0 = .ok (.iconst 0, 1) := by decide +kernel
theorem dX4_loadAt_1 : decode cX4_loadAt 1 = .ok (.istore_n 2, 1) := by decide +kernel
theorem dX4_loadAt_2 : decode cX4_loadAt 2 = .ok (.iconst 0, 1) := by decide +kernel
theorem dX4_loadAt_3 : decode cX4_loadAt 3 = .ok (.istore_n 3, 1) := by decide +kernel
theorem dX4_loadAt_4 : decode cX4_loadAt 4 = .ok (.iload_n 3, 1) := by decide +kernel
theorem dX4_loadAt_5 : decode cX4_loadAt 5 = .ok (.aload_n 0, 1) := by decide +kernel
theorem dX4_loadAt_6 : decode cX4_loadAt 6 = .ok (.getfield 9, 3) := by decide +kernel
theorem dX4_loadAt_9 : decode cX4_loadAt 9 = .ok (.iconst 4, 1) := by decide +kernel
theorem dX4_loadAt_10 : decode cX4_loadAt 10 = .ok (.iaload, 1) := by decide +kernel
theorem dX4_loadAt_11 : decode cX4_loadAt 11 = .ok (.if_icmp .ge 39, 3) := by decide +kernel
theorem dX4_loadAt_14 : decode cX4_loadAt 14 = .ok (.iload_n 2, 1) := by decide +kernel
theorem dX4_loadAt_15 : decode cX4_loadAt 15 = .ok (.aload_n 0, 1) := by decide +kernel
theorem dX4_loadAt_16 : decode cX4_loadAt 16 = .ok (.iload_n 3, 1) := by decide +kernel
theorem dX4_loadAt_17 : decode cX4_loadAt 17 = .ok (.invokevirtual 62, 3) := by decide +kernel
theorem dX4_loadAt_20 : decode cX4_loadAt 20 = .ok (.ifCond .eq 21, 3) := by decide +kernel
theorem dX4_loadAt_23 : decode cX4_loadAt 23 = .ok (.aload_n 0, 1) := by decide +kernel
theorem dX4_loadAt_24 : decode cX4_loadAt 24 = .ok (.iload_n 3, 1) := by decide +kernel
theorem dX4_loadAt_25 : decode cX4_loadAt 25 = .ok (.iconst 2, 1) := by decide +kernel
theorem dX4_loadAt_26 : decode cX4_loadAt 26 = .ok (.invokevirtual 45, 3) := by decide +kernel
theorem dX4_loadAt_29 : decode cX4_loadAt 29 = .ok (.iload_n 1, 1) := by decide +kernel
theorem dX4_loadAt_30 : decode cX4_loadAt 30 = .ok (.if_icmp .ne 11, 3) := by decide +kernel
theorem dX4_loadAt_33 : decode cX4_loadAt 33 = .ok (.aload_n 0, 1) := by decide +kernel
theorem dX4_loadAt_34 : decode cX4_loadAt 34 = .ok (.iload_n 3, 1) := by decide +kernel
theorem dX4_loadAt_35 : decode cX4_loadAt 35 = .ok (.invokevirtual 66, 3) := by decide +kernel
theorem dX4_loadAt_38 : decode cX4_loadAt 38 = .ok (.goto 4, 3) := by decide +kernel
theorem dX4_loadAt_41 : decode cX4_loadAt 41 = .ok (.iconst 0, 1) := by decide +kernel
theorem dX4_loadAt_42 : decode cX4_loadAt 42 = .ok (.iadd, 1) := by decide +kernel
theorem dX4_loadAt_43 : decode cX4_loadAt 43 = .ok (.istore_n 2, 1) := by decide +kernel
theorem dX4_loadAt_44 : decode cX4_loadAt 44 = .ok (.iinc 3 1, 3) := by decide +kernel
theorem dX4_loadAt_47 : decode cX4_loadAt 47 = .ok (.goto (-43), 3) := by decide +kernel
theorem dX4_loadAt_50 : decode cX4_loadAt 50 = .ok (.iload_n 2, 1) := by decide +kernel
theorem dX4_loadAt_51 : decode cX4_loadAt 51 = .ok (.ireturn, 1) := by decide +kernel
set_option maxRecDepth 20000 in
theorem ggX4_isBorne_X4_it : GoodIn wsX4_isBorne wsX4_it := goodIn_r _ [5, 6, 26, 27, 28, 29, 30, 31, 32, 33, 34, 35, 36, 37, 38, 39, 40] (by decide +kernel) (by decide +kernel)
set_option maxRecDepth 20000 in
theorem gX4_isBorne_X4_it : GoodIn wsX4_isBorne (wsV RX4 45 RX4 yX4_it wsX4_it) := goodIn_app (goodIn_of _ (by decide +kernel)) ggX4_isBorne_X4_it
set_option maxRecDepth 20000 in
theorem ggX4_isBorne_X4_loadAt : GoodIn wsX4_isBorne wsX4_loadAt := goodIn_r _ [10, 6, 11, 12, 13, 4, 14, 1, 2, 3, 5, 15, 16, 17, 18, 26, 27, 28, 29, 30, 31, 32, 33, 34, 35, 36, 37, 38, 39, 40] (by decide +kernel) (by decide +kernel)
set_option maxRecDepth 20000 in
theorem gX4_isBorne_X4_loadAt : GoodIn wsX4_isBorne (wsV RX4 69 RX4 yX4_loadAt wsX4_loadAt) := goodIn_app (goodIn_of _ (by decide +kernel)) ggX4_isBorne_X4_loadAt
set_option maxRecDepth 20000 in
theorem ggX4_isBorne_X4_weighs : GoodIn wsX4_isBorne wsX4_weighs := goodIn_r _ [18, 1, 2, 3, 4, 5, 6, 26, 27, 28, 29, 30, 31, 32, 33, 34, 35, 36, 37, 38, 39, 40] (by decide +kernel) (by decide +kernel)
set_option maxRecDepth 20000 in
theorem gX4_isBorne_X4_weighs : GoodIn wsX4_isBorne (wsV RX4 66 RX4 yX4_weighs wsX4_weighs) := goodIn_app (goodIn_of _ (by decide +kernel)) ggX4_isBorne_X4_weighs
set_option maxRecDepth 20000 in
theorem ggX4_isBorne_X4_bears : GoodIn wsX4_isBorne wsX4_bears := goodIn_r _ [22, 6, 23, 24, 4, 25, 26, 27, 28, 29, 30, 31, 32, 33, 34, 35, 36, 37, 38, 39, 40] (by decide +kernel) (by decide +kernel)
set_option maxRecDepth 20000 in
theorem gX4_isBorne_X4_bears : GoodIn wsX4_isBorne (wsV RX4 72 RX4 yX4_bears wsX4_bears) := goodIn_app (goodIn_of _ (by decide +kernel)) ggX4_isBorne_X4_bears
theorem dX4_isBorne_0 : decode cX4_isBorne 0 = .ok (.aload_n 0, 1) := by decide +kernel
theorem dX4_isBorne_1 : decode cX4_isBorne 1 = .ok (.aload_n 0, 1) := by decide +kernel
theorem dX4_isBorne_2 : decode cX4_isBorne 2 = .ok (.iload_n 1, 1) := by decide +kernel
theorem dX4_isBorne_3 : decode cX4_isBorne 3 = .ok (.iconst 2, 1) := by decide +kernel
theorem dX4_isBorne_4 : decode cX4_isBorne 4 = .ok (.invokevirtual 45, 3) := by decide +kernel
theorem dX4_isBorne_7 : decode cX4_isBorne 7 = .ok (.invokevirtual 69, 3) := by decide +kernel
theorem dX4_isBorne_10 : decode cX4_isBorne 10 = .ok (.aload_n 0, 1) := by decide +kernel
theorem dX4_isBorne_11 : decode cX4_isBorne 11 = .ok (.iload_n 1, 1) := by decide +kernel
theorem dX4_isBorne_12 : decode cX4_isBorne 12 = .ok (.invokevirtual 66, 3) := by decide +kernel
theorem dX4_isBorne_15 : decode cX4_isBorne 15 = .ok (.iadd, 1) := by decide +kernel
theorem dX4_isBorne_16 : decode cX4_isBorne 16 = .ok (.aload_n 0, 1) := by decide +kernel
theorem dX4_isBorne_17 : decode cX4_isBorne 17 = .ok (.aload_n 0, 1) := by decide +kernel
theorem dX4_isBorne_18 : decode cX4_isBorne 18 = .ok (.iload_n 1, 1) := by decide +kernel
theorem dX4_isBorne_19 : decode cX4_isBorne 19 = .ok (.iconst 2, 1) := by decide +kernel
theorem dX4_isBorne_20 : decode cX4_isBorne 20 = .ok (.invokevirtual 45, 3) := by decide +kernel
theorem dX4_isBorne_23 : decode cX4_isBorne 23 = .ok (.invokevirtual 72, 3) := by decide +kernel
theorem dX4_isBorne_26 : decode cX4_isBorne 26 = .ok (.if_icmp .gt 7, 3) := by decide +kernel
theorem dX4_isBorne_29 : decode cX4_isBorne 29 = .ok (.iconst 1, 1) := by decide +kernel
theorem dX4_isBorne_30 : decode cX4_isBorne 30 = .ok (.goto 4, 3) := by decide +kernel
theorem dX4_isBorne_33 : decode cX4_isBorne 33 = .ok (.iconst 0, 1) := by decide +kernel
theorem dX4_isBorne_34 : decode cX4_isBorne 34 = .ok (.ireturn, 1) := by decide +kernel
set_option maxRecDepth 20000 in
theorem ggX4_beam_X4_in : GoodIn wsX4_beam wsX4_in := goodIn_r _ [5] (by decide +kernel) (by decide +kernel)
set_option maxRecDepth 20000 in
theorem gX4_beam_X4_in : GoodIn wsX4_beam (va_wsS RX4 41 yX4_in wsX4_in) := goodIn_app (goodIn_of _ (by decide +kernel)) ggX4_beam_X4_in
set_option maxRecDepth 20000 in
theorem ggX4_beam_X4_becomes : GoodIn wsX4_beam wsX4_becomes := goodIn_r _ [9, 10, 16, 17, 18, 19, 20, 21, 22, 23, 24, 25, 26, 27, 28, 29, 30] (by decide +kernel) (by decide +kernel)
set_option maxRecDepth 20000 in
theorem gX4_beam_X4_becomes : GoodIn wsX4_beam (wsV RX4 75 RX4 yX4_becomes wsX4_becomes) := goodIn_app (goodIn_of _ (by decide +kernel)) ggX4_beam_X4_becomes
set_option maxRecDepth 20000 in
theorem ggX4_beam_X4_finds : GoodIn wsX4_beam wsX4_finds := goodIn_r _ [14, 15, 1, 16, 17, 18, 19, 20, 21, 22, 23, 24, 25, 26, 27, 28, 29, 30] (by decide +kernel) (by decide +kernel)
set_option maxRecDepth 20000 in
theorem gX4_beam_X4_finds : GoodIn wsX4_beam (wsV RX4 37 RX4 yX4_finds wsX4_finds) := goodIn_app (goodIn_of _ (by decide +kernel)) ggX4_beam_X4_finds
theorem dX4_beam_0 : decode cX4_beam 0 = .ok (.iload_n 1, 1) := by decide +kernel
theorem dX4_beam_1 : decode cX4_beam 1 = .ok (.i2l, 1) := by decide +kernel
theorem dX4_beam_2 : decode cX4_beam 2 = .ok (.iconst 0, 1) := by decide +kernel
theorem dX4_beam_3 : decode cX4_beam 3 = .ok (.iconst 2, 1) := by decide +kernel
theorem dX4_beam_4 : decode cX4_beam 4 = .ok (.invokestatic 41, 3) := by decide +kernel
theorem dX4_beam_7 : decode cX4_beam 7 = .ok (.ifCond .eq 45, 3) := by decide +kernel
theorem dX4_beam_10 : decode cX4_beam 10 = .ok (.iload_n 2, 1) := by decide +kernel
theorem dX4_beam_11 : decode cX4_beam 11 = .ok (.i2l, 1) := by decide +kernel
theorem dX4_beam_12 : decode cX4_beam 12 = .ok (.iload_n 1, 1) := by decide +kernel
theorem dX4_beam_13 : decode cX4_beam 13 = .ok (.ifCond .ne 7, 3) := by decide +kernel
theorem dX4_beam_16 : decode cX4_beam 16 = .ok (.iconst 0, 1) := by decide +kernel
theorem dX4_beam_17 : decode cX4_beam 17 = .ok (.goto 4, 3) := by decide +kernel
theorem dX4_beam_20 : decode cX4_beam 20 = .ok (.iconst 1, 1) := by decide +kernel
theorem dX4_beam_21 : decode cX4_beam 21 = .ok (.iload_n 1, 1) := by decide +kernel
theorem dX4_beam_22 : decode cX4_beam 22 = .ok (.ifCond .ne 8, 3) := by decide +kernel
theorem dX4_beam_25 : decode cX4_beam 25 = .ok (.bipush 59, 2) := by decide +kernel
theorem dX4_beam_27 : decode cX4_beam 27 = .ok (.goto 15, 3) := by decide +kernel
theorem dX4_beam_30 : decode cX4_beam 30 = .ok (.iload_n 1, 1) := by decide +kernel
theorem dX4_beam_31 : decode cX4_beam 31 = .ok (.iconst 1, 1) := by decide +kernel
theorem dX4_beam_32 : decode cX4_beam 32 = .ok (.if_icmp .ne 8, 3) := by decide +kernel
theorem dX4_beam_35 : decode cX4_beam 35 = .ok (.bipush 10, 2) := by decide +kernel
theorem dX4_beam_37 : decode cX4_beam 37 = .ok (.goto 5, 3) := by decide +kernel
theorem dX4_beam_40 : decode cX4_beam 40 = .ok (.bipush 40, 2) := by decide +kernel
theorem dX4_beam_42 : decode cX4_beam 42 = .ok (.invokestatic 41, 3) := by decide +kernel
theorem dX4_beam_45 : decode cX4_beam 45 = .ok (.ifCond .eq 7, 3) := by decide +kernel
theorem dX4_beam_48 : decode cX4_beam 48 = .ok (.iconst 1, 1) := by decide +kernel
theorem dX4_beam_49 : decode cX4_beam 49 = .ok (.goto 4, 3) := by decide +kernel
theorem dX4_beam_52 : decode cX4_beam 52 = .ok (.iconst 0, 1) := by decide +kernel
theorem dX4_beam_53 : decode cX4_beam 53 = .ok (.istore_n 3, 1) := by decide +kernel
theorem dX4_beam_54 : decode cX4_beam 54 = .ok (.iload_n 3, 1) := by decide +kernel
theorem dX4_beam_55 : decode cX4_beam 55 = .ok (.ifCond .eq 14, 3) := by decide +kernel
theorem dX4_beam_58 : decode cX4_beam 58 = .ok (.aload_n 0, 1) := by decide +kernel
theorem dX4_beam_59 : decode cX4_beam 59 = .ok (.iconst 1, 1) := by decide +kernel
theorem dX4_beam_60 : decode cX4_beam 60 = .ok (.iload_n 1, 1) := by decide +kernel
theorem dX4_beam_61 : decode cX4_beam 61 = .ok (.iadd, 1) := by decide +kernel
theorem dX4_beam_62 : decode cX4_beam 62 = .ok (.iload_n 2, 1) := by decide +kernel
theorem dX4_beam_63 : decode cX4_beam 63 = .ok (.invokevirtual 75, 3) := by decide +kernel
theorem dX4_beam_66 : decode cX4_beam 66 = .ok (.goto 9, 3) := by decide +kernel
theorem dX4_beam_69 : decode cX4_beam 69 = .ok (.aload_n 0, 1) := by decide +kernel
theorem dX4_beam_70 : decode cX4_beam 70 = .ok (.ldc 35, 2) := by decide +kernel
theorem dX4_beam_72 : decode cX4_beam 72 = .ok (.invokevirtual 37, 3) := by decide +kernel
theorem dX4_beam_75 : decode cX4_beam 75 = .ok (.ireturn, 1) := by decide +kernel
set_option maxRecDepth 20000 in
theorem ggX4_allWeighs_X4_isOn : GoodIn wsX4_allWeighs wsX4_isOn := goodIn_r _ [6, 7, 8, 9, 5, 10, 1, 15, 16, 17, 18, 19, 20, 21, 22, 23, 24, 25, 26, 27, 28, 29] (by decide +kernel) (by decide +kernel)
set_option maxRecDepth 20000 in
theorem gX4_allWeighs_X4_isOn : GoodIn wsX4_allWeighs (wsV RX4 62 RX4 yX4_isOn wsX4_isOn) := goodIn_app (goodIn_of _ (by decide +kernel)) ggX4_allWeighs_X4_isOn
set_option maxRecDepth 20000 in
theorem ggX4_allWeighs_X4_weighs : GoodIn wsX4_allWeighs wsX4_weighs := goodIn_r _ [14, 7, 8, 9, 5, 10, 1, 15, 16, 17, 18, 19, 20, 21, 22, 23, 24, 25, 26, 27, 28, 29] (by decide +kernel) (by decide +kernel)
set_option maxRecDepth 20000 in
theorem gX4_allWeighs_X4_weighs : GoodIn wsX4_allWeighs (wsV RX4 66 RX4 yX4_weighs wsX4_weighs) := goodIn_app (goodIn_of _ (by decide +kernel)) ggX4_allWeighs_X4_weighs
theorem dX4_allWeighs_0 : decode cX4_allWeighs 0 = .ok (.iconst 0, 1) := by decide +kernel
theorem dX4_allWeighs_1 : decode cX4_allWeighs 1 = .ok (.istore_n 1, 1) := by decide +kernel
theorem dX4_allWeighs_2 : decode cX4_allWeighs 2 = .ok (.iconst 0, 1) := by decide +kernel
theorem dX4_allWeighs_3 : decode cX4_allWeighs 3 = .ok (.istore_n 2, 1) := by decide +kernel
theorem dX4_allWeighs_4 : decode cX4_allWeighs 4 = .ok (.iload_n 2, 1) := by decide +kernel
theorem dX4_allWeighs_5 : decode cX4_allWeighs 5 = .ok (.aload_n 0, 1) := by decide +kernel
theorem dX4_allWeighs_6 : decode cX4_allWeighs 6 = .ok (.getfield 9, 3) := by decide +kernel
theorem dX4_allWeighs_9 : decode cX4_allWeighs 9 = .ok (.iconst 4, 1) := by decide +kernel
theorem dX4_allWeighs_10 : decode cX4_allWeighs 10 = .ok (.iaload, 1) := by decide +kernel
theorem dX4_allWeighs_11 : decode cX4_allWeighs 11 = .ok (.if_icmp .ge 29, 3) := by decide +kernel
theorem dX4_allWeighs_14 : decode cX4_allWeighs 14 = .ok (.iload_n 1, 1) := by decide +kernel
theorem dX4_allWeighs_15 : decode cX4_allWeighs 15 = .ok (.aload_n 0, 1) := by decide +kernel
theorem dX4_allWeighs_16 : decode cX4_allWeighs 16 = .ok (.iload_n 2, 1) := by decide +kernel
theorem dX4_allWeighs_17 : decode cX4_allWeighs 17 = .ok (.invokevirtual 62, 3) := by decide +kernel
theorem dX4_allWeighs_20 : decode cX4_allWeighs 20 = .ok (.ifCond .eq 11, 3) := by decide +kernel
theorem dX4_allWeighs_23 : decode cX4_allWeighs 23 = .ok (.aload_n 0, 1) := by decide +kernel
theorem dX4_allWeighs_24 : decode cX4_allWeighs 24 = .ok (.iload_n 2, 1) := by decide +kernel
theorem dX4_allWeighs_25 : decode cX4_allWeighs 25 = .ok (.invokevirtual 66, 3) := by decide +kernel
theorem dX4_allWeighs_28 : decode cX4_allWeighs 28 = .ok (.goto 4, 3) := by decide +kernel
theorem dX4_allWeighs_31 : decode cX4_allWeighs 31 = .ok (.iconst 0, 1) := by decide +kernel
theorem dX4_allWeighs_32 : decode cX4_allWeighs 32 = .ok (.iadd, 1) := by decide +kernel
theorem dX4_allWeighs_33 : decode cX4_allWeighs 33 = .ok (.istore_n 1, 1) := by decide +kernel
theorem dX4_allWeighs_34 : decode cX4_allWeighs 34 = .ok (.iinc 2 1, 3) := by decide +kernel
theorem dX4_allWeighs_37 : decode cX4_allWeighs 37 = .ok (.goto (-33), 3) := by decide +kernel
theorem dX4_allWeighs_40 : decode cX4_allWeighs 40 = .ok (.iload_n 1, 1) := by decide +kernel
theorem dX4_allWeighs_41 : decode cX4_allWeighs 41 = .ok (.ireturn, 1) := by decide +kernel
set_option maxRecDepth 20000 in
theorem ggX4_now_X4_setOf : GoodIn wsX4_now wsX4_setOf := goodIn_r _ [7, 1, 8, 9, 10, 6, 11, 29, 30, 31, 32, 33, 34, 35, 36, 37, 38, 39, 40, 41, 42, 43] (by decide +kernel) (by decide +kernel)
set_option maxRecDepth 20000 in
theorem gX4_now_X4_setOf : GoodIn wsX4_now (wsV RX4 49 RX4 yX4_setOf wsX4_setOf) := goodIn_app (goodIn_of _ (by decide +kernel)) ggX4_now_X4_setOf
set_option maxRecDepth 20000 in
theorem ggX4_now_X4_allWeighs : GoodIn wsX4_now wsX4_allWeighs := goodIn_r _ [15, 1, 16, 17, 18, 6, 19, 8, 9, 10, 11, 20, 21, 22, 23, 29, 30, 31, 32, 33, 34, 35, 36, 37, 38, 39, 40, 41, 42, 43] (by decide +kernel) (by decide +kernel)
set_option maxRecDepth 20000 in
theorem gX4_now_X4_allWeighs : GoodIn wsX4_now (wsV RX4 78 RX4 yX4_allWeighs wsX4_allWeighs) := goodIn_app (goodIn_of _ (by decide +kernel)) ggX4_now_X4_allWeighs
set_option maxRecDepth 20000 in
theorem ggX4_now_X4_finds : GoodIn wsX4_now wsX4_finds := goodIn_r _ [27, 28, 2, 29, 30, 31, 32, 33, 34, 35, 36, 37, 38, 39, 40, 41, 42, 43] (by decide +kernel) (by decide +kernel)
set_option maxRecDepth 20000 in
theorem gX4_now_X4_finds : GoodIn wsX4_now (wsV RX4 37 RX4 yX4_finds wsX4_finds) := goodIn_app (goodIn_of _ (by decide +kernel)) ggX4_now_X4_finds
theorem dX4_now_0 : decode cX4_now 0 = .ok (.iload_n 1, 1) := by decide +kernel
theorem dX4_now_1 : decode cX4_now 1 = .ok (.tableswitch 70 0 6 #[43, 43, 43, 43, 52, 58, 65], 43) := by decide +kernel
theorem dX4_now_44 : decode cX4_now 44 = .ok (.aload_n 0, 1) := by decide +kernel
theorem dX4_now_45 : decode cX4_now 45 = .ok (.getfield 9, 3) := by decide +kernel
theorem dX4_now_48 : decode cX4_now 48 = .ok (.iconst 0, 1) := by decide +kernel
theorem dX4_now_49 : decode cX4_now 49 = .ok (.iload_n 1, 1) := by decide +kernel
theorem dX4_now_50 : decode cX4_now 50 = .ok (.iadd, 1) := by decide +kernel
theorem dX4_now_51 : decode cX4_now 51 = .ok (.iaload, 1) := by decide +kernel
theorem dX4_now_52 : decode cX4_now 52 = .ok (.ireturn, 1) := by decide +kernel
theorem dX4_now_53 : decode cX4_now 53 = .ok (.aload_n 0, 1) := by decide +kernel
theorem dX4_now_54 : decode cX4_now 54 = .ok (.iconst 3, 1) := by decide +kernel
theorem dX4_now_55 : decode cX4_now 55 = .ok (.invokevirtual 49, 3) := by decide +kernel
theorem dX4_now_58 : decode cX4_now 58 = .ok (.ireturn, 1) := by decide +kernel
theorem dX4_now_59 : decode cX4_now 59 = .ok (.aload_n 0, 1) := by decide +kernel
theorem dX4_now_60 : decode cX4_now 60 = .ok (.bipush 6, 2) := by decide +kernel
theorem dX4_now_62 : decode cX4_now 62 = .ok (.invokevirtual 49, 3) := by decide +kernel
theorem dX4_now_65 : decode cX4_now 65 = .ok (.ireturn, 1) := by decide +kernel
theorem dX4_now_66 : decode cX4_now 66 = .ok (.aload_n 0, 1) := by decide +kernel
theorem dX4_now_67 : decode cX4_now 67 = .ok (.invokevirtual 78, 3) := by decide +kernel
theorem dX4_now_70 : decode cX4_now 70 = .ok (.ireturn, 1) := by decide +kernel
theorem dX4_now_71 : decode cX4_now 71 = .ok (.aload_n 0, 1) := by decide +kernel
theorem dX4_now_72 : decode cX4_now 72 = .ok (.ldc 35, 2) := by decide +kernel
theorem dX4_now_74 : decode cX4_now 74 = .ok (.invokevirtual 37, 3) := by decide +kernel
theorem dX4_now_77 : decode cX4_now 77 = .ok (.ireturn, 1) := by decide +kernel
set_option maxRecDepth 20000 in
theorem ggX4_load_X4_in : GoodIn wsX4_load wsX4_in := goodIn_r _ [5] (by decide +kernel) (by decide +kernel)
set_option maxRecDepth 20000 in
theorem gX4_load_X4_in : GoodIn wsX4_load (va_wsS RX4 41 yX4_in wsX4_in) := goodIn_app (goodIn_of _ (by decide +kernel)) ggX4_load_X4_in
set_option maxRecDepth 20000 in
theorem ggX4_load_X4_bears : GoodIn wsX4_load wsX4_bears := goodIn_r _ [9, 10, 11, 12, 4, 13, 35, 36, 37, 38, 39, 40, 41, 42, 43, 44, 45, 46, 47, 48, 49] (by decide +kernel) (by decide +kernel)
set_option maxRecDepth 20000 in
theorem gX4_load_X4_bears : GoodIn wsX4_load (wsV RX4 72 RX4 yX4_bears wsX4_bears) := goodIn_app (goodIn_of _ (by decide +kernel)) ggX4_load_X4_bears
set_option maxRecDepth 20000 in
theorem ggX4_load_X4_loadAt : GoodIn wsX4_load wsX4_loadAt := goodIn_r _ [17, 10, 18, 19, 20, 4, 21, 22, 23, 24, 25, 26, 27, 28, 29, 35, 36, 37, 38, 39, 40, 41, 42, 43, 44, 45, 46, 47, 48, 49] (by decide +kernel) (by decide +kernel)
set_option maxRecDepth 20000 in
theorem gX4_load_X4_loadAt : GoodIn wsX4_load (wsV RX4 69 RX4 yX4_loadAt wsX4_loadAt) := goodIn_app (goodIn_of _ (by decide +kernel)) ggX4_load_X4_loadAt
set_option maxRecDepth 20000 in
theorem ggX4_load_X4_finds : GoodIn wsX4_load wsX4_finds := goodIn_r _ [33, 34, 1, 35, 36, 37, 38, 39, 40, 41, 42, 43, 44, 45, 46, 47, 48, 49] (by decide +kernel) (by decide +kernel)
set_option maxRecDepth 20000 in
theorem gX4_load_X4_finds : GoodIn wsX4_load (wsV RX4 37 RX4 yX4_finds wsX4_finds) := goodIn_app (goodIn_of _ (by decide +kernel)) ggX4_load_X4_finds
theorem dX4_load_0 : decode cX4_load 0 = .ok (.iload_n 1, 1) := by decide +kernel
theorem dX4_load_1 : decode cX4_load 1 = .ok (.i2l, 1) := by decide +kernel
theorem dX4_load_2 : decode cX4_load 2 = .ok (.iconst 0, 1) := by decide +kernel
theorem dX4_load_3 : decode cX4_load 3 = .ok (.bipush 9, 2) := by decide +kernel
theorem dX4_load_5 : decode cX4_load 5 = .ok (.invokestatic 41, 3) := by decide +kernel
theorem dX4_load_8 : decode cX4_load 8 = .ok (.ifCond .eq 33, 3) := by decide +kernel
theorem dX4_load_11 : decode cX4_load 11 = .ok (.iload_n 2, 1) := by decide +kernel
theorem dX4_load_12 : decode cX4_load 12 = .ok (.i2l, 1) := by decide +kernel
theorem dX4_load_13 : decode cX4_load 13 = .ok (.iconst 0, 1) := by decide +kernel
theorem dX4_load_14 : decode cX4_load 14 = .ok (.iconst 1, 1) := by decide +kernel
theorem dX4_load_15 : decode cX4_load 15 = .ok (.invokestatic 41, 3) := by decide +kernel
theorem dX4_load_18 : decode cX4_load 18 = .ok (.ifCond .eq 23, 3) := by decide +kernel
theorem dX4_load_21 : decode cX4_load 21 = .ok (.iload_n 2, 1) := by decide +kernel
theorem dX4_load_22 : decode cX4_load 22 = .ok (.ifCond .ne 11, 3) := by decide +kernel
theorem dX4_load_25 : decode cX4_load 25 = .ok (.aload_n 0, 1) := by decide +kernel
theorem dX4_load_26 : decode cX4_load 26 = .ok (.iload_n 1, 1) := by decide +kernel
theorem dX4_load_27 : decode cX4_load 27 = .ok (.invokevirtual 72, 3) := by decide +kernel
theorem dX4_load_30 : decode cX4_load 30 = .ok (.goto 17, 3) := by decide +kernel
theorem dX4_load_33 : decode cX4_load 33 = .ok (.aload_n 0, 1) := by decide +kernel
theorem dX4_load_34 : decode cX4_load 34 = .ok (.iload_n 1, 1) := by decide +kernel
theorem dX4_load_35 : decode cX4_load 35 = .ok (.invokevirtual 69, 3) := by decide +kernel
theorem dX4_load_38 : decode cX4_load 38 = .ok (.goto 9, 3) := by decide +kernel
theorem dX4_load_41 : decode cX4_load 41 = .ok (.aload_n 0, 1) := by decide +kernel
theorem dX4_load_42 : decode cX4_load 42 = .ok (.ldc 35, 2) := by decide +kernel
theorem dX4_load_44 : decode cX4_load 44 = .ok (.invokevirtual 37, 3) := by decide +kernel
theorem dX4_load_47 : decode cX4_load 47 = .ok (.ireturn, 1) := by decide +kernel
set_option maxRecDepth 20000 in
theorem ggX4_comesAs_X4_put : GoodIn wsX4_comesAs wsX4_put := goodIn_r _ [6, 1, 7, 8, 9, 10, 11, 12, 13, 14, 15, 16, 17, 18, 19, 20, 21] (by decide +kernel) (by decide +kernel)
set_option maxRecDepth 20000 in
theorem gX4_comesAs_X4_put : GoodIn wsX4_comesAs (wsV RX4 82 RX4 yX4_put wsX4_put) := goodIn_app (goodIn_of _ (by decide +kernel)) ggX4_comesAs_X4_put
theorem dX4_comesAs_0 : decode cX4_comesAs 0 = .ok (.aload_n 0, 1) := by decide +kernel
theorem dX4_comesAs_1 : decode cX4_comesAs 1 = .ok (.getfield 9, 3) := by decide +kernel
theorem dX4_comesAs_4 : decode cX4_comesAs 4 = .ok (.iconst 4, 1) := by decide +kernel
theorem dX4_comesAs_5 : decode cX4_comesAs 5 = .ok (.iaload, 1) := by decide +kernel
theorem dX4_comesAs_6 : decode cX4_comesAs 6 = .ok (.istore 6, 2) := by decide +kernel
theorem dX4_comesAs_8 : decode cX4_comesAs 8 = .ok (.aload_n 0, 1) := by decide +kernel
theorem dX4_comesAs_9 : decode cX4_comesAs 9 = .ok (.getfield 9, 3) := by decide +kernel
theorem dX4_comesAs_12 : decode cX4_comesAs 12 = .ok (.iconst 4, 1) := by decide +kernel
theorem dX4_comesAs_13 : decode cX4_comesAs 13 = .ok (.dup2, 1) := by decide +kernel
theorem dX4_comesAs_14 : decode cX4_comesAs 14 = .ok (.iaload, 1) := by decide +kernel
theorem dX4_comesAs_15 : decode cX4_comesAs 15 = .ok (.iconst 1, 1) := by decide +kernel
theorem dX4_comesAs_16 : decode cX4_comesAs 16 = .ok (.iadd, 1) := by decide +kernel
theorem dX4_comesAs_17 : decode cX4_comesAs 17 = .ok (.iastore, 1) := by decide +kernel
theorem dX4_comesAs_18 : decode cX4_comesAs 18 = .ok (.aload_n 0, 1) := by decide +kernel
theorem dX4_comesAs_19 : decode cX4_comesAs 19 = .ok (.iload 6, 2) := by decide +kernel
theorem dX4_comesAs_21 : decode cX4_comesAs 21 = .ok (.iconst 0, 1) := by decide +kernel
theorem dX4_comesAs_22 : decode cX4_comesAs 22 = .ok (.iload_n 1, 1) := by decide +kernel
theorem dX4_comesAs_23 : decode cX4_comesAs 23 = .ok (.invokevirtual 82, 3) := by decide +kernel
theorem dX4_comesAs_26 : decode cX4_comesAs 26 = .ok (.aload_n 0, 1) := by decide +kernel
theorem dX4_comesAs_27 : decode cX4_comesAs 27 = .ok (.iload 6, 2) := by decide +kernel
theorem dX4_comesAs_29 : decode cX4_comesAs 29 = .ok (.iconst 1, 1) := by decide +kernel
theorem dX4_comesAs_30 : decode cX4_comesAs 30 = .ok (.iload_n 2, 1) := by decide +kernel
theorem dX4_comesAs_31 : decode cX4_comesAs 31 = .ok (.invokevirtual 82, 3) := by decide +kernel
theorem dX4_comesAs_34 : decode cX4_comesAs 34 = .ok (.aload_n 0, 1) := by decide +kernel
theorem dX4_comesAs_35 : decode cX4_comesAs 35 = .ok (.iload 6, 2) := by decide +kernel
theorem dX4_comesAs_37 : decode cX4_comesAs 37 = .ok (.iconst 2, 1) := by decide +kernel
theorem dX4_comesAs_38 : decode cX4_comesAs 38 = .ok (.iload_n 3, 1) := by decide +kernel
theorem dX4_comesAs_39 : decode cX4_comesAs 39 = .ok (.invokevirtual 82, 3) := by decide +kernel
theorem dX4_comesAs_42 : decode cX4_comesAs 42 = .ok (.aload_n 0, 1) := by decide +kernel
theorem dX4_comesAs_43 : decode cX4_comesAs 43 = .ok (.iload 6, 2) := by decide +kernel
theorem dX4_comesAs_45 : decode cX4_comesAs 45 = .ok (.iconst 3, 1) := by decide +kernel
theorem dX4_comesAs_46 : decode cX4_comesAs 46 = .ok (.iconst 0, 1) := by decide +kernel
theorem dX4_comesAs_47 : decode cX4_comesAs 47 = .ok (.invokevirtual 82, 3) := by decide +kernel
theorem dX4_comesAs_50 : decode cX4_comesAs 50 = .ok (.aload_n 0, 1) := by decide +kernel
theorem dX4_comesAs_51 : decode cX4_comesAs 51 = .ok (.iload 6, 2) := by decide +kernel
theorem dX4_comesAs_53 : decode cX4_comesAs 53 = .ok (.iconst 4, 1) := by decide +kernel
theorem dX4_comesAs_54 : decode cX4_comesAs 54 = .ok (.iload 4, 2) := by decide +kernel
theorem dX4_comesAs_56 : decode cX4_comesAs 56 = .ok (.invokevirtual 82, 3) := by decide +kernel
theorem dX4_comesAs_59 : decode cX4_comesAs 59 = .ok (.aload_n 0, 1) := by decide +kernel
theorem dX4_comesAs_60 : decode cX4_comesAs 60 = .ok (.iload 6, 2) := by decide +kernel
theorem dX4_comesAs_62 : decode cX4_comesAs 62 = .ok (.iconst 5, 1) := by decide +kernel
theorem dX4_comesAs_63 : decode cX4_comesAs 63 = .ok (.iload 5, 2) := by decide +kernel
theorem dX4_comesAs_65 : decode cX4_comesAs 65 = .ok (.invokevirtual 82, 3) := by decide +kernel
theorem dX4_comesAs_68 : decode cX4_comesAs 68 = .ok (.aload_n 0, 1) := by decide +kernel
theorem dX4_comesAs_69 : decode cX4_comesAs 69 = .ok (.iload 6, 2) := by decide +kernel
theorem dX4_comesAs_71 : decode cX4_comesAs 71 = .ok (.bipush 6, 2) := by decide +kernel
theorem dX4_comesAs_73 : decode cX4_comesAs 73 = .ok (.iconst 0, 1) := by decide +kernel
theorem dX4_comesAs_74 : decode cX4_comesAs 74 = .ok (.invokevirtual 82, 3) := by decide +kernel
theorem dX4_comesAs_77 : decode cX4_comesAs 77 = .ok (.aload_n 0, 1) := by decide +kernel
theorem dX4_comesAs_78 : decode cX4_comesAs 78 = .ok (.iload 6, 2) := by decide +kernel
theorem dX4_comesAs_80 : decode cX4_comesAs 80 = .ok (.bipush 7, 2) := by decide +kernel
theorem dX4_comesAs_82 : decode cX4_comesAs 82 = .ok (.iconst 0, 1) := by decide +kernel
theorem dX4_comesAs_83 : decode cX4_comesAs 83 = .ok (.invokevirtual 82, 3) := by decide +kernel
theorem dX4_comesAs_86 : decode cX4_comesAs 86 = .ok (.iload 6, 2) := by decide +kernel
theorem dX4_comesAs_88 : decode cX4_comesAs 88 = .ok (.ireturn, 1) := by decide +kernel
set_option maxRecDepth 20000 in
theorem ggX4_thing_X4_in : GoodIn wsX4_thing wsX4_in := goodIn_r _ [7] (by decide +kernel) (by decide +kernel)
set_option maxRecDepth 20000 in
theorem gX4_thing_X4_in : GoodIn wsX4_thing (va_wsS RX4 41 yX4_in wsX4_in) := goodIn_app (goodIn_of _ (by decide +kernel)) ggX4_thing_X4_in
set_option maxRecDepth 20000 in
theorem ggX4_thing_X4_isBearing : GoodIn wsX4_thing wsX4_isBearing := goodIn_r _ [10, 4, 5, 6, 7] (by decide +kernel) (by decide +kernel)
set_option maxRecDepth 20000 in
theorem gX4_thing_X4_isBearing : GoodIn wsX4_thing (va_wsS RX4 86 yX4_isBearing wsX4_isBearing) := goodIn_app (goodIn_of _ (by decide +kernel)) ggX4_thing_X4_isBearing
set_option maxRecDepth 20000 in
theorem ggX4_thing_X4_finds : GoodIn wsX4_thing wsX4_finds := goodIn_r _ [14, 15, 1, 24, 25, 26, 27, 28, 29, 30, 31, 32, 33, 34, 35, 36, 37, 38] (by decide +kernel) (by decide +kernel)
set_option maxRecDepth 20000 in
theorem gX4_thing_X4_finds : GoodIn wsX4_thing (wsV RX4 37 RX4 yX4_finds wsX4_finds) := goodIn_app (goodIn_of _ (by decide +kernel)) ggX4_thing_X4_finds
set_option maxRecDepth 20000 in
theorem ggX4_thing_X4_comesAs : GoodIn wsX4_thing wsX4_comesAs := goodIn_r _ [19, 2, 20, 21, 22, 6, 23, 24, 25, 26, 27, 28, 29, 30, 31, 32, 33, 34, 35, 36, 37, 38] (by decide +kernel) (by decide +kernel)
set_option maxRecDepth 20000 in
theorem gX4_thing_X4_comesAs : GoodIn wsX4_thing (wsV RX4 90 RX4 yX4_comesAs wsX4_comesAs) := goodIn_app (goodIn_of _ (by decide +kernel)) ggX4_thing_X4_comesAs
theorem dX4_thing_0 : decode cX4_thing 0 = .ok (.iload_n 1, 1) := by decide +kernel
theorem dX4_thing_1 : decode cX4_thing 1 = .ok (.i2l, 1) := by decide +kernel
theorem dX4_thing_2 : decode cX4_thing 2 = .ok (.iconst 0, 1) := by decide +kernel
theorem dX4_thing_3 : decode cX4_thing 3 = .ok (.iconst 5, 1) := by decide +kernel
theorem dX4_thing_4 : decode cX4_thing 4 = .ok (.invokestatic 41, 3) := by decide +kernel
theorem dX4_thing_7 : decode cX4_thing 7 = .ok (.ifCond .eq 10, 3) := by decide +kernel
theorem dX4_thing_10 : decode cX4_thing 10 = .ok (.iload_n 2, 1) := by decide +kernel
theorem dX4_thing_11 : decode cX4_thing 11 = .ok (.invokestatic 86, 3) := by decide +kernel
theorem dX4_thing_14 : decode cX4_thing 14 = .ok (.ifCond .ne 10, 3) := by decide +kernel
theorem dX4_thing_17 : decode cX4_thing 17 = .ok (.aload_n 0, 1) := by decide +kernel
theorem dX4_thing_18 : decode cX4_thing 18 = .ok (.ldc 35, 2) := by decide +kernel
theorem dX4_thing_20 : decode cX4_thing 20 = .ok (.invokevirtual 37, 3) := by decide +kernel
theorem dX4_thing_23 : decode cX4_thing 23 = .ok (.ireturn, 1) := by decide +kernel
theorem dX4_thing_24 : decode cX4_thing 24 = .ok (.aload_n 0, 1) := by decide +kernel
theorem dX4_thing_25 : decode cX4_thing 25 = .ok (.getfield 9, 3) := by decide +kernel
theorem dX4_thing_28 : decode cX4_thing 28 = .ok (.iconst 4, 1) := by decide +kernel
theorem dX4_thing_29 : decode cX4_thing 29 = .ok (.iaload, 1) := by decide +kernel
theorem dX4_thing_30 : decode cX4_thing 30 = .ok (.bipush 8, 2) := by decide +kernel
theorem dX4_thing_32 : decode cX4_thing 32 = .ok (.if_icmp .ne 12, 3) := by decide +kernel
theorem dX4_thing_35 : decode cX4_thing 35 = .ok (.aload_n 0, 1) := by decide +kernel
theorem dX4_thing_36 : decode cX4_thing 36 = .ok (.ldc 89, 2) := by decide +kernel
theorem dX4_thing_38 : decode cX4_thing 38 = .ok (.invokevirtual 37, 3) := by decide +kernel
theorem dX4_thing_41 : decode cX4_thing 41 = .ok (.goto 14, 3) := by decide +kernel
theorem dX4_thing_44 : decode cX4_thing 44 = .ok (.aload_n 0, 1) := by decide +kernel
theorem dX4_thing_45 : decode cX4_thing 45 = .ok (.iload_n 1, 1) := by decide +kernel
theorem dX4_thing_46 : decode cX4_thing 46 = .ok (.iload_n 2, 1) := by decide +kernel
theorem dX4_thing_47 : decode cX4_thing 47 = .ok (.iconst 3, 1) := by decide +kernel
theorem dX4_thing_48 : decode cX4_thing 48 = .ok (.bipush 50, 2) := by decide +kernel
theorem dX4_thing_50 : decode cX4_thing 50 = .ok (.bipush 30, 2) := by decide +kernel
theorem dX4_thing_52 : decode cX4_thing 52 = .ok (.invokevirtual 90, 3) := by decide +kernel
theorem dX4_thing_55 : decode cX4_thing 55 = .ok (.ireturn, 1) := by decide +kernel
set_option maxRecDepth 20000 in
theorem ggX4_of_X4_isThing : GoodIn wsX4_of wsX4_isThing := goodIn_r _ [6, 7, 8, 9, 5, 10, 28, 29, 30, 31, 32, 33, 34, 35, 36, 37, 38, 39, 40, 41, 42] (by decide +kernel) (by decide +kernel)
set_option maxRecDepth 20000 in
theorem gX4_of_X4_isThing : GoodIn wsX4_of (wsV RX4 94 RX4 yX4_isThing wsX4_isThing) := goodIn_app (goodIn_of _ (by decide +kernel)) ggX4_of_X4_isThing
set_option maxRecDepth 20000 in
theorem ggX4_of_X4_in : GoodIn wsX4_of wsX4_in := goodIn_r _ [10] (by decide +kernel) (by decide +kernel)
set_option maxRecDepth 20000 in
theorem gX4_of_X4_in : GoodIn wsX4_of (va_wsS RX4 41 yX4_in wsX4_in) := goodIn_app (goodIn_of _ (by decide +kernel)) ggX4_of_X4_in
set_option maxRecDepth 20000 in
theorem ggX4_of_X4_finds : GoodIn wsX4_of wsX4_finds := goodIn_r _ [14, 15, 1, 28, 29, 30, 31, 32, 33, 34, 35, 36, 37, 38, 39, 40, 41, 42] (by decide +kernel) (by decide +kernel)
set_option maxRecDepth 20000 in
theorem gX4_of_X4_finds : GoodIn wsX4_of (wsV RX4 37 RX4 yX4_finds wsX4_finds) := goodIn_app (goodIn_of _ (by decide +kernel)) ggX4_of_X4_finds
set_option maxRecDepth 20000 in
theorem ggX4_of_X4_it : GoodIn wsX4_of wsX4_it := goodIn_r _ [19, 7, 28, 29, 30, 31, 32, 33, 34, 35, 36, 37, 38, 39, 40, 41, 42] (by decide +kernel) (by decide +kernel)
set_option maxRecDepth 20000 in
theorem gX4_of_X4_it : GoodIn wsX4_of (wsV RX4 45 RX4 yX4_it wsX4_it) := goodIn_app (goodIn_of _ (by decide +kernel)) ggX4_of_X4_it
set_option maxRecDepth 20000 in
theorem ggX4_of_X4_weighs : GoodIn wsX4_of wsX4_weighs := goodIn_r _ [23, 16, 17, 18, 5, 19, 7, 28, 29, 30, 31, 32, 33, 34, 35, 36, 37, 38, 39, 40, 41, 42] (by decide +kernel) (by decide +kernel)
set_option maxRecDepth 20000 in
theorem gX4_of_X4_weighs : GoodIn wsX4_of (wsV RX4 66 RX4 yX4_weighs wsX4_weighs) := goodIn_app (goodIn_of _ (by decide +kernel)) ggX4_of_X4_weighs
set_option maxRecDepth 20000 in
theorem ggX4_of_X4_dries : GoodIn wsX4_of wsX4_dries := goodIn_r _ [27, 7, 16, 17, 18, 5, 19, 28, 29, 30, 31, 32, 33, 34, 35, 36, 37, 38, 39, 40, 41, 42] (by decide +kernel) (by decide +kernel)
set_option maxRecDepth 20000 in
theorem gX4_of_X4_dries : GoodIn wsX4_of (wsV RX4 97 RX4 yX4_dries wsX4_dries) := goodIn_app (goodIn_of _ (by decide +kernel)) ggX4_of_X4_dries
theorem dX4_of_0 : decode cX4_of 0 = .ok (.aload_n 0, 1) := by decide +kernel
theorem dX4_of_1 : decode cX4_of 1 = .ok (.iload_n 1, 1) := by decide +kernel
theorem dX4_of_2 : decode cX4_of 2 = .ok (.invokevirtual 94, 3) := by decide +kernel
theorem dX4_of_5 : decode cX4_of 5 = .ok (.ifCond .eq 14, 3) := by decide +kernel
theorem dX4_of_8 : decode cX4_of 8 = .ok (.iload_n 2, 1) := by decide +kernel
theorem dX4_of_9 : decode cX4_of 9 = .ok (.i2l, 1) := by decide +kernel
theorem dX4_of_10 : decode cX4_of 10 = .ok (.iconst 0, 1) := by decide +kernel
theorem dX4_of_11 : decode cX4_of 11 = .ok (.bipush 9, 2) := by decide +kernel
theorem dX4_of_13 : decode cX4_of 13 = .ok (.invokestatic 41, 3) := by decide +kernel
theorem dX4_of_16 : decode cX4_of 16 = .ok (.ifCond .ne 10, 3) := by decide +kernel
theorem dX4_of_19 : decode cX4_of 19 = .ok (.aload_n 0, 1) := by decide +kernel
theorem dX4_of_20 : decode cX4_of 20 = .ok (.ldc 35, 2) := by decide +kernel
theorem dX4_of_22 : decode cX4_of 22 = .ok (.invokevirtual 37, 3) := by decide +kernel
theorem dX4_of_25 : decode cX4_of 25 = .ok (.ireturn, 1) := by decide +kernel
theorem dX4_of_26 : decode cX4_of 26 = .ok (.iload_n 2, 1) := by decide +kernel
theorem dX4_of_27 : decode cX4_of 27 = .ok (.bipush 8, 2) := by decide +kernel
theorem dX4_of_29 : decode cX4_of 29 = .ok (.if_icmp .ge 12, 3) := by decide +kernel
theorem dX4_of_32 : decode cX4_of 32 = .ok (.aload_n 0, 1) := by decide +kernel
theorem dX4_of_33 : decode cX4_of 33 = .ok (.iload_n 1, 1) := by decide +kernel
theorem dX4_of_34 : decode cX4_of 34 = .ok (.iload_n 2, 1) := by decide +kernel
theorem dX4_of_35 : decode cX4_of 35 = .ok (.invokevirtual 45, 3) := by decide +kernel
theorem dX4_of_38 : decode cX4_of 38 = .ok (.goto 22, 3) := by decide +kernel
theorem dX4_of_41 : decode cX4_of 41 = .ok (.iload_n 2, 1) := by decide +kernel
theorem dX4_of_42 : decode cX4_of 42 = .ok (.bipush 8, 2) := by decide +kernel
theorem dX4_of_44 : decode cX4_of 44 = .ok (.if_icmp .ne 11, 3) := by decide +kernel
theorem dX4_of_47 : decode cX4_of 47 = .ok (.aload_n 0, 1) := by decide +kernel
theorem dX4_of_48 : decode cX4_of 48 = .ok (.iload_n 1, 1) := by decide +kernel
theorem dX4_of_49 : decode cX4_of 49 = .ok (.invokevirtual 66, 3) := by decide +kernel
theorem dX4_of_52 : decode cX4_of 52 = .ok (.goto 8, 3) := by decide +kernel
theorem dX4_of_55 : decode cX4_of 55 = .ok (.aload_n 0, 1) := by decide +kernel
theorem dX4_of_56 : decode cX4_of 56 = .ok (.iload_n 1, 1) := by decide +kernel
theorem dX4_of_57 : decode cX4_of 57 = .ok (.invokevirtual 97, 3) := by decide +kernel
theorem dX4_of_60 : decode cX4_of 60 = .ok (.ireturn, 1) := by decide +kernel
theorem dX4_mostOf_0 : decode cX4_mostOf 0 = .ok (.iload_n 0, 1) := by decide +kernel
theorem dX4_mostOf_1 : decode cX4_mostOf 1 = .ok (.tableswitch 52 2 7 #[39, 52, 42, 45, 52, 48], 39) := by decide +kernel
theorem dX4_mostOf_40 : decode cX4_mostOf 40 = .ok (.bipush 9, 2) := by decide +kernel
theorem dX4_mostOf_42 : decode cX4_mostOf 42 = .ok (.ireturn, 1) := by decide +kernel
theorem dX4_mostOf_43 : decode cX4_mostOf 43 = .ok (.bipush 99, 2) := by decide +kernel
theorem dX4_mostOf_45 : decode cX4_mostOf 45 = .ok (.ireturn, 1) := by decide +kernel
theorem dX4_mostOf_46 : decode cX4_mostOf 46 = .ok (.bipush 59, 2) := by decide +kernel
theorem dX4_mostOf_48 : decode cX4_mostOf 48 = .ok (.ireturn, 1) := by decide +kernel
theorem dX4_mostOf_49 : decode cX4_mostOf 49 = .ok (.sipush 9999, 3) := by decide +kernel
theorem dX4_mostOf_52 : decode cX4_mostOf 52 = .ok (.ireturn, 1) := by decide +kernel
theorem dX4_mostOf_53 : decode cX4_mostOf 53 = .ok (.iconst (-1), 1) := by decide +kernel
theorem dX4_mostOf_54 : decode cX4_mostOf 54 = .ok (.ireturn, 1) := by decide +kernel
set_option maxRecDepth 20000 in
theorem ggX4_set_X4_isThing : GoodIn wsX4_set wsX4_isThing := goodIn_r _ [6, 7, 8, 9, 5, 10, 23, 24, 25, 26, 27, 28, 29, 30, 31, 32, 33, 34, 35, 36, 37] (by decide +kernel) (by decide +kernel)
set_option maxRecDepth 20000 in
theorem gX4_set_X4_isThing : GoodIn wsX4_set (wsV RX4 94 RX4 yX4_isThing wsX4_isThing) := goodIn_app (goodIn_of _ (by decide +kernel)) ggX4_set_X4_isThing
set_option maxRecDepth 20000 in
theorem ggX4_set_X4_mostOf : GoodIn wsX4_set wsX4_mostOf := goodIn_r _ [13] (by decide +kernel) (by decide +kernel)
set_option maxRecDepth 20000 in
theorem gX4_set_X4_mostOf : GoodIn wsX4_set (va_wsS RX4 100 yX4_mostOf wsX4_mostOf) := goodIn_app (goodIn_of _ (by decide +kernel)) ggX4_set_X4_mostOf
set_option maxRecDepth 20000 in
theorem ggX4_set_X4_in : GoodIn wsX4_set wsX4_in := goodIn_r _ [10] (by decide +kernel) (by decide +kernel)
set_option maxRecDepth 20000 in
theorem gX4_set_X4_in : GoodIn wsX4_set (va_wsS RX4 41 yX4_in wsX4_in) := goodIn_app (goodIn_of _ (by decide +kernel)) ggX4_set_X4_in
set_option maxRecDepth 20000 in
theorem ggX4_set_X4_becomes : GoodIn wsX4_set wsX4_becomes := goodIn_r _ [17, 7, 23, 24, 25, 26, 27, 28, 29, 30, 31, 32, 33, 34, 35, 36, 37] (by decide +kernel) (by decide +kernel)
set_option maxRecDepth 20000 in
theorem gX4_set_X4_becomes : GoodIn wsX4_set (wsV RX4 75 RX4 yX4_becomes wsX4_becomes) := goodIn_app (goodIn_of _ (by decide +kernel)) ggX4_set_X4_becomes
set_option maxRecDepth 20000 in
theorem ggX4_set_X4_finds : GoodIn wsX4_set wsX4_finds := goodIn_r _ [21, 22, 1, 23, 24, 25, 26, 27, 28, 29, 30, 31, 32, 33, 34, 35, 36, 37] (by decide +kernel) (by decide +kernel)
set_option maxRecDepth 20000 in
theorem gX4_set_X4_finds : GoodIn wsX4_set (wsV RX4 37 RX4 yX4_finds wsX4_finds) := goodIn_app (goodIn_of _ (by decide +kernel)) ggX4_set_X4_finds
theorem dX4_set_0 : decode cX4_set 0 = .ok (.aload_n 0, 1) := by decide +kernel
theorem dX4_set_1 : decode cX4_set 1 = .ok (.iload_n 1, 1) := by decide +kernel
theorem dX4_set_2 : decode cX4_set 2 = .ok (.invokevirtual 94, 3) := by decide +kernel
theorem dX4_set_5 : decode cX4_set 5 = .ok (.ifCond .eq 32, 3) := by decide +kernel
theorem dX4_set_8 : decode cX4_set 8 = .ok (.iload_n 3, 1) := by decide +kernel
theorem dX4_set_9 : decode cX4_set 9 = .ok (.i2l, 1) := by decide +kernel
theorem dX4_set_10 : decode cX4_set 10 = .ok (.iconst 0, 1) := by decide +kernel
theorem dX4_set_11 : decode cX4_set 11 = .ok (.iload_n 2, 1) := by decide +kernel
theorem dX4_set_12 : decode cX4_set 12 = .ok (.invokestatic 100, 3) := by decide +kernel
theorem dX4_set_15 : decode cX4_set 15 = .ok (.invokestatic 41, 3) := by decide +kernel
theorem dX4_set_18 : decode cX4_set 18 = .ok (.ifCond .eq 19, 3) := by decide +kernel
theorem dX4_set_21 : decode cX4_set 21 = .ok (.aload_n 0, 1) := by decide +kernel
theorem dX4_set_22 : decode cX4_set 22 = .ok (.iconst 5, 1) := by decide +kernel
theorem dX4_set_23 : decode cX4_set 23 = .ok (.bipush 8, 2) := by decide +kernel
theorem dX4_set_25 : decode cX4_set 25 = .ok (.iload_n 1, 1) := by decide +kernel
theorem dX4_set_26 : decode cX4_set 26 = .ok (.imul, 1) := by decide +kernel
theorem dX4_set_27 : decode cX4_set 27 = .ok (.iadd, 1) := by decide +kernel
theorem dX4_set_28 : decode cX4_set 28 = .ok (.iload_n 2, 1) := by decide +kernel
theorem dX4_set_29 : decode cX4_set 29 = .ok (.iadd, 1) := by decide +kernel
theorem dX4_set_30 : decode cX4_set 30 = .ok (.iload_n 3, 1) := by decide +kernel
theorem dX4_set_31 : decode cX4_set 31 = .ok (.invokevirtual 75, 3) := by decide +kernel
theorem dX4_set_34 : decode cX4_set 34 = .ok (.goto 9, 3) := by decide +kernel
theorem dX4_set_37 : decode cX4_set 37 = .ok (.aload_n 0, 1) := by decide +kernel
theorem dX4_set_38 : decode cX4_set 38 = .ok (.ldc 35, 2) := by decide +kernel
theorem dX4_set_40 : decode cX4_set 40 = .ok (.invokevirtual 37, 3) := by decide +kernel
theorem dX4_set_43 : decode cX4_set 43 = .ok (.ireturn, 1) := by decide +kernel
set_option maxRecDepth 20000 in
theorem ggX4_carry_X4_isThing : GoodIn wsX4_carry wsX4_isThing := goodIn_r _ [7, 8, 9, 10, 6, 11, 36, 37, 38, 39, 40, 41, 42, 43, 44, 45, 46, 47, 48, 49, 50] (by decide +kernel) (by decide +kernel)
set_option maxRecDepth 20000 in
theorem gX4_carry_X4_isThing : GoodIn wsX4_carry (wsV RX4 94 RX4 yX4_isThing wsX4_isThing) := goodIn_app (goodIn_of _ (by decide +kernel)) ggX4_carry_X4_isThing
set_option maxRecDepth 20000 in
theorem ggX4_carry_X4_isBearing : GoodIn wsX4_carry wsX4_isBearing := goodIn_r _ [14, 9, 10, 6, 11] (by decide +kernel) (by decide +kernel)
set_option maxRecDepth 20000 in
theorem gX4_carry_X4_isBearing : GoodIn wsX4_carry (va_wsS RX4 86 yX4_isBearing wsX4_isBearing) := goodIn_app (goodIn_of _ (by decide +kernel)) ggX4_carry_X4_isBearing
set_option maxRecDepth 20000 in
theorem ggX4_carry_X4_finds : GoodIn wsX4_carry wsX4_finds := goodIn_r _ [18, 19, 1, 36, 37, 38, 39, 40, 41, 42, 43, 44, 45, 46, 47, 48, 49, 50] (by decide +kernel) (by decide +kernel)
set_option maxRecDepth 20000 in
theorem gX4_carry_X4_finds : GoodIn wsX4_carry (wsV RX4 37 RX4 yX4_finds wsX4_finds) := goodIn_app (goodIn_of _ (by decide +kernel)) ggX4_carry_X4_finds
set_option maxRecDepth 20000 in
theorem ggX4_carry_X4_isOn : GoodIn wsX4_carry wsX4_isOn := goodIn_r _ [23, 24, 25, 26, 6, 27, 8, 36, 37, 38, 39, 40, 41, 42, 43, 44, 45, 46, 47, 48, 49, 50] (by decide +kernel) (by decide +kernel)
set_option maxRecDepth 20000 in
theorem gX4_carry_X4_isOn : GoodIn wsX4_carry (wsV RX4 62 RX4 yX4_isOn wsX4_isOn) := goodIn_app (goodIn_of _ (by decide +kernel)) ggX4_carry_X4_isOn
set_option maxRecDepth 20000 in
theorem ggX4_carry_X4_put : GoodIn wsX4_carry wsX4_put := goodIn_r _ [31, 8, 36, 37, 38, 39, 40, 41, 42, 43, 44, 45, 46, 47, 48, 49, 50] (by decide +kernel) (by decide +kernel)
set_option maxRecDepth 20000 in
theorem gX4_carry_X4_put : GoodIn wsX4_carry (wsV RX4 82 RX4 yX4_put wsX4_put) := goodIn_app (goodIn_of _ (by decide +kernel)) ggX4_carry_X4_put
set_option maxRecDepth 20000 in
theorem ggX4_carry_X4_becomes : GoodIn wsX4_carry wsX4_becomes := goodIn_r _ [35, 8, 36, 37, 38, 39, 40, 41, 42, 43, 44, 45, 46, 47, 48, 49, 50] (by decide +kernel) (by decide +kernel)
set_option maxRecDepth 20000 in
theorem gX4_carry_X4_becomes : GoodIn wsX4_carry (wsV RX4 75 RX4 yX4_becomes wsX4_becomes) := goodIn_app (goodIn_of _ (by decide +kernel)) ggX4_carry_X4_becomes
theorem dX4_carry_0 : decode cX4_carry 0 = .ok (.aload_n 0, 1) := by decide +kernel
theorem dX4_carry_1 : decode cX4_carry 1 = .ok (.iload_n 1, 1) := by decide +kernel
theorem dX4_carry_2 : decode cX4_carry 2 = .ok (.invokevirtual 94, 3) := by decide +kernel
theorem dX4_carry_5 : decode cX4_carry 5 = .ok (.ifCond .eq 10, 3) := by decide +kernel
theorem dX4_carry_8 : decode cX4_carry 8 = .ok (.iload_n 2, 1) := by decide +kernel
theorem dX4_carry_9 : decode cX4_carry 9 = .ok (.invokestatic 86, 3) := by decide +kernel
theorem dX4_carry_12 : decode cX4_carry 12 = .ok (.ifCond .ne 10, 3) := by decide +kernel
theorem dX4_carry_15 : decode cX4_carry 15 = .ok (.aload_n 0, 1) := by decide +kernel
theorem dX4_carry_16 : decode cX4_carry 16 = .ok (.ldc 35, 2) := by decide +kernel
theorem dX4_carry_18 : decode cX4_carry 18 = .ok (.invokevirtual 37, 3) := by decide +kernel
theorem dX4_carry_21 : decode cX4_carry 21 = .ok (.ireturn, 1) := by decide +kernel
theorem dX4_carry_22 : decode cX4_carry 22 = .ok (.aload_n 0, 1) := by decide +kernel
theorem dX4_carry_23 : decode cX4_carry 23 = .ok (.iload_n 1, 1) := by decide +kernel
theorem dX4_carry_24 : decode cX4_carry 24 = .ok (.invokevirtual 62, 3) := by decide +kernel
theorem dX4_carry_27 : decode cX4_carry 27 = .ok (.ifCond .eq 10, 3) := by decide +kernel
theorem dX4_carry_30 : decode cX4_carry 30 = .ok (.aload_n 0, 1) := by decide +kernel
theorem dX4_carry_31 : decode cX4_carry 31 = .ok (.ldc 103, 2) := by decide +kernel
theorem dX4_carry_33 : decode cX4_carry 33 = .ok (.invokevirtual 37, 3) := by decide +kernel
theorem dX4_carry_36 : decode cX4_carry 36 = .ok (.ireturn, 1) := by decide +kernel
theorem dX4_carry_37 : decode cX4_carry 37 = .ok (.aload_n 0, 1) := by decide +kernel
theorem dX4_carry_38 : decode cX4_carry 38 = .ok (.iload_n 1, 1) := by decide +kernel
theorem dX4_carry_39 : decode cX4_carry 39 = .ok (.bipush 6, 2) := by decide +kernel
theorem dX4_carry_41 : decode cX4_carry 41 = .ok (.iconst 0, 1) := by decide +kernel
theorem dX4_carry_42 : decode cX4_carry 42 = .ok (.invokevirtual 82, 3) := by decide +kernel
theorem dX4_carry_45 : decode cX4_carry 45 = .ok (.aload_n 0, 1) := by decide +kernel
theorem dX4_carry_46 : decode cX4_carry 46 = .ok (.iconst 5, 1) := by decide +kernel
theorem dX4_carry_47 : decode cX4_carry 47 = .ok (.bipush 8, 2) := by decide +kernel
theorem dX4_carry_49 : decode cX4_carry 49 = .ok (.iload_n 1, 1) := by decide +kernel
theorem dX4_carry_50 : decode cX4_carry 50 = .ok (.imul, 1) := by decide +kernel
theorem dX4_carry_51 : decode cX4_carry 51 = .ok (.iadd, 1) := by decide +kernel
theorem dX4_carry_52 : decode cX4_carry 52 = .ok (.iconst 1, 1) := by decide +kernel
theorem dX4_carry_53 : decode cX4_carry 53 = .ok (.iadd, 1) := by decide +kernel
theorem dX4_carry_54 : decode cX4_carry 54 = .ok (.iload_n 2, 1) := by decide +kernel
theorem dX4_carry_55 : decode cX4_carry 55 = .ok (.invokevirtual 75, 3) := by decide +kernel
theorem dX4_carry_58 : decode cX4_carry 58 = .ok (.ireturn, 1) := by decide +kernel
set_option maxRecDepth 20000 in
theorem ggX4_turn_X4_isThing : GoodIn wsX4_turn wsX4_isThing := goodIn_r _ [6, 7, 8, 9, 5, 10, 20, 21, 22, 23, 24, 25, 26, 27, 28, 29, 30, 31, 32, 33, 34] (by decide +kernel) (by decide +kernel)
set_option maxRecDepth 20000 in
theorem gX4_turn_X4_isThing : GoodIn wsX4_turn (wsV RX4 94 RX4 yX4_isThing wsX4_isThing) := goodIn_app (goodIn_of _ (by decide +kernel)) ggX4_turn_X4_isThing
set_option maxRecDepth 20000 in
theorem ggX4_turn_X4_in : GoodIn wsX4_turn wsX4_in := goodIn_r _ [10] (by decide +kernel) (by decide +kernel)
set_option maxRecDepth 20000 in
theorem gX4_turn_X4_in : GoodIn wsX4_turn (va_wsS RX4 41 yX4_in wsX4_in) := goodIn_app (goodIn_of _ (by decide +kernel)) ggX4_turn_X4_in
set_option maxRecDepth 20000 in
theorem ggX4_turn_X4_becomes : GoodIn wsX4_turn wsX4_becomes := goodIn_r _ [14, 7, 20, 21, 22, 23, 24, 25, 26, 27, 28, 29, 30, 31, 32, 33, 34] (by decide +kernel) (by decide +kernel)
set_option maxRecDepth 20000 in
theorem gX4_turn_X4_becomes : GoodIn wsX4_turn (wsV RX4 75 RX4 yX4_becomes wsX4_becomes) := goodIn_app (goodIn_of _ (by decide +kernel)) ggX4_turn_X4_becomes
set_option maxRecDepth 20000 in
theorem ggX4_turn_X4_finds : GoodIn wsX4_turn wsX4_finds := goodIn_r _ [18, 19, 1, 20, 21, 22, 23, 24, 25, 26, 27, 28, 29, 30, 31, 32, 33, 34] (by decide +kernel) (by decide +kernel)
set_option maxRecDepth 20000 in
theorem gX4_turn_X4_finds : GoodIn wsX4_turn (wsV RX4 37 RX4 yX4_finds wsX4_finds) := goodIn_app (goodIn_of _ (by decide +kernel)) ggX4_turn_X4_finds
theorem dX4_turn_0 : decode cX4_turn 0 = .ok (.aload_n 0, 1) := by decide +kernel
theorem dX4_turn_1 : decode cX4_turn 1 = .ok (.iload_n 1, 1) := by decide +kernel
theorem dX4_turn_2 : decode cX4_turn 2 = .ok (.invokevirtual 94, 3) := by decide +kernel
theorem dX4_turn_5 : decode cX4_turn 5 = .ok (.ifCond .eq 27, 3) := by decide +kernel
theorem dX4_turn_8 : decode cX4_turn 8 = .ok (.iload_n 2, 1) := by decide +kernel
theorem dX4_turn_9 : decode cX4_turn 9 = .ok (.i2l, 1) := by decide +kernel
theorem dX4_turn_10 : decode cX4_turn 10 = .ok (.iconst 0, 1) := by decide +kernel
theorem dX4_turn_11 : decode cX4_turn 11 = .ok (.iconst 5, 1) := by decide +kernel
theorem dX4_turn_12 : decode cX4_turn 12 = .ok (.invokestatic 41, 3) := by decide +kernel
theorem dX4_turn_15 : decode cX4_turn 15 = .ok (.ifCond .eq 17, 3) := by decide +kernel
theorem dX4_turn_18 : decode cX4_turn 18 = .ok (.aload_n 0, 1) := by decide +kernel
theorem dX4_turn_19 : decode cX4_turn 19 = .ok (.iconst 5, 1) := by decide +kernel
theorem dX4_turn_20 : decode cX4_turn 20 = .ok (.bipush 8, 2) := by decide +kernel
theorem dX4_turn_22 : decode cX4_turn 22 = .ok (.iload_n 1, 1) := by decide +kernel
theorem dX4_turn_23 : decode cX4_turn 23 = .ok (.imul, 1) := by decide +kernel
theorem dX4_turn_24 : decode cX4_turn 24 = .ok (.iadd, 1) := by decide +kernel
theorem dX4_turn_25 : decode cX4_turn 25 = .ok (.iload_n 2, 1) := by decide +kernel
theorem dX4_turn_26 : decode cX4_turn 26 = .ok (.invokevirtual 75, 3) := by decide +kernel
theorem dX4_turn_29 : decode cX4_turn 29 = .ok (.goto 9, 3) := by decide +kernel
theorem dX4_turn_32 : decode cX4_turn 32 = .ok (.aload_n 0, 1) := by decide +kernel
theorem dX4_turn_33 : decode cX4_turn 33 = .ok (.ldc 35, 2) := by decide +kernel
theorem dX4_turn_35 : decode cX4_turn 35 = .ok (.invokevirtual 37, 3) := by decide +kernel
theorem dX4_turn_38 : decode cX4_turn 38 = .ok (.ireturn, 1) := by decide +kernel
set_option maxRecDepth 20000 in
theorem ggX4_as_X4_isThing : GoodIn wsX4_as wsX4_isThing := goodIn_r _ [7, 8, 9, 10, 6, 11, 21, 22, 23, 24, 25, 26, 27, 28, 29, 30, 31, 32, 33, 34, 35] (by decide +kernel) (by decide +kernel)
set_option maxRecDepth 20000 in
theorem gX4_as_X4_isThing : GoodIn wsX4_as (wsV RX4 94 RX4 yX4_isThing wsX4_isThing) := goodIn_app (goodIn_of _ (by decide +kernel)) ggX4_as_X4_isThing
set_option maxRecDepth 20000 in
theorem ggX4_as_X4_in : GoodIn wsX4_as wsX4_in := goodIn_r _ [11] (by decide +kernel) (by decide +kernel)
set_option maxRecDepth 20000 in
theorem gX4_as_X4_in : GoodIn wsX4_as (va_wsS RX4 41 yX4_in wsX4_in) := goodIn_app (goodIn_of _ (by decide +kernel)) ggX4_as_X4_in
set_option maxRecDepth 20000 in
theorem ggX4_as_X4_finds : GoodIn wsX4_as wsX4_finds := goodIn_r _ [15, 16, 1, 21, 22, 23, 24, 25, 26, 27, 28, 29, 30, 31, 32, 33, 34, 35] (by decide +kernel) (by decide +kernel)
set_option maxRecDepth 20000 in
theorem gX4_as_X4_finds : GoodIn wsX4_as (wsV RX4 37 RX4 yX4_finds wsX4_finds) := goodIn_app (goodIn_of _ (by decide +kernel)) ggX4_as_X4_finds
set_option maxRecDepth 20000 in
theorem ggX4_as_X4_it : GoodIn wsX4_as wsX4_it := goodIn_r _ [20, 8, 21, 22, 23, 24, 25, 26, 27, 28, 29, 30, 31, 32, 33, 34, 35] (by decide +kernel) (by decide +kernel)
set_option maxRecDepth 20000 in
theorem gX4_as_X4_it : GoodIn wsX4_as (wsV RX4 45 RX4 yX4_it wsX4_it) := goodIn_app (goodIn_of _ (by decide +kernel)) ggX4_as_X4_it
theorem dX4_as_0 : decode cX4_as 0 = .ok (.aload_n 0, 1) := by decide +kernel
theorem dX4_as_1 : decode cX4_as 1 = .ok (.iload_n 1, 1) := by decide +kernel
theorem dX4_as_2 : decode cX4_as 2 = .ok (.invokevirtual 94, 3) := by decide +kernel
theorem dX4_as_5 : decode cX4_as 5 = .ok (.ifCond .eq 13, 3) := by decide +kernel
theorem dX4_as_8 : decode cX4_as 8 = .ok (.iload_n 2, 1) := by decide +kernel
theorem dX4_as_9 : decode cX4_as 9 = .ok (.i2l, 1) := by decide +kernel
theorem dX4_as_10 : decode cX4_as 10 = .ok (.iconst 0, 1) := by decide +kernel
theorem dX4_as_11 : decode cX4_as 11 = .ok (.iconst 5, 1) := by decide +kernel
theorem dX4_as_12 : decode cX4_as 12 = .ok (.invokestatic 41, 3) := by decide +kernel
theorem dX4_as_15 : decode cX4_as 15 = .ok (.ifCond .ne 10, 3) := by decide +kernel
theorem dX4_as_18 : decode cX4_as 18 = .ok (.aload_n 0, 1) := by decide +kernel
theorem dX4_as_19 : decode cX4_as 19 = .ok (.ldc 35, 2) := by decide +kernel
theorem dX4_as_21 : decode cX4_as 21 = .ok (.invokevirtual 37, 3) := by decide +kernel
theorem dX4_as_24 : decode cX4_as 24 = .ok (.ireturn, 1) := by decide +kernel
theorem dX4_as_25 : decode cX4_as 25 = .ok (.aload_n 0, 1) := by decide +kernel
theorem dX4_as_26 : decode cX4_as 26 = .ok (.iload_n 1, 1) := by decide +kernel
theorem dX4_as_27 : decode cX4_as 27 = .ok (.iconst 0, 1) := by decide +kernel
theorem dX4_as_28 : decode cX4_as 28 = .ok (.invokevirtual 45, 3) := by decide +kernel
theorem dX4_as_31 : decode cX4_as 31 = .ok (.istore_n 3, 1) := by decide +kernel
theorem dX4_as_32 : decode cX4_as 32 = .ok (.iload_n 2, 1) := by decide +kernel
theorem dX4_as_33 : decode cX4_as 33 = .ok (.ifCond .eq 28, 3) := by decide +kernel
theorem dX4_as_36 : decode cX4_as 36 = .ok (.iload_n 2, 1) := by decide +kernel
theorem dX4_as_37 : decode cX4_as 37 = .ok (.iload_n 3, 1) := by decide +kernel
theorem dX4_as_38 : decode cX4_as 38 = .ok (.if_icmp .eq 23, 3) := by decide +kernel
theorem dX4_as_41 : decode cX4_as 41 = .ok (.iload_n 2, 1) := by decide +kernel
theorem dX4_as_42 : decode cX4_as 42 = .ok (.iconst 1, 1) := by decide +kernel
theorem dX4_as_43 : decode cX4_as 43 = .ok (.if_icmp .ne 8, 3) := by decide +kernel
theorem dX4_as_46 : decode cX4_as 46 = .ok (.iload_n 3, 1) := by decide +kernel
theorem dX4_as_47 : decode cX4_as 47 = .ok (.iconst 4, 1) := by decide +kernel
theorem dX4_as_48 : decode cX4_as 48 = .ok (.if_icmp .eq 13, 3) := by decide +kernel
theorem dX4_as_51 : decode cX4_as 51 = .ok (.iload_n 2, 1) := by decide +kernel
theorem dX4_as_52 : decode cX4_as 52 = .ok (.iconst 2, 1) := by decide +kernel
theorem dX4_as_53 : decode cX4_as 53 = .ok (.if_icmp .ne 12, 3) := by decide +kernel
theorem dX4_as_56 : decode cX4_as 56 = .ok (.iload_n 3, 1) := by decide +kernel
theorem dX4_as_57 : decode cX4_as 57 = .ok (.iconst 5, 1) := by decide +kernel
theorem dX4_as_58 : decode cX4_as 58 = .ok (.if_icmp .ne 7, 3) := by decide +kernel
theorem dX4_as_61 : decode cX4_as 61 = .ok (.iconst 1, 1) := by decide +kernel
theorem dX4_as_62 : decode cX4_as 62 = .ok (.goto 4, 3) := by decide +kernel
theorem dX4_as_65 : decode cX4_as 65 = .ok (.iconst 0, 1) := by decide +kernel
theorem dX4_as_66 : decode cX4_as 66 = .ok (.istore 4, 2) := by decide +kernel
theorem dX4_as_68 : decode cX4_as 68 = .ok (.iload 4, 2) := by decide +kernel
theorem dX4_as_70 : decode cX4_as 70 = .ok (.ifCond .eq 12, 3) := by decide +kernel
theorem dX4_as_73 : decode cX4_as 73 = .ok (.aload_n 0, 1) := by decide +kernel
theorem dX4_as_74 : decode cX4_as 74 = .ok (.iload_n 1, 1) := by decide +kernel
theorem dX4_as_75 : decode cX4_as 75 = .ok (.iconst 4, 1) := by decide +kernel
theorem dX4_as_76 : decode cX4_as 76 = .ok (.invokevirtual 45, 3) := by decide +kernel
theorem dX4_as_79 : decode cX4_as 79 = .ok (.goto 9, 3) := by decide +kernel
theorem dX4_as_82 : decode cX4_as 82 = .ok (.aload_n 0, 1) := by decide +kernel
theorem dX4_as_83 : decode cX4_as 83 = .ok (.ldc 104, 2) := by decide +kernel
theorem dX4_as_85 : decode cX4_as 85 = .ok (.invokevirtual 37, 3) := by decide +kernel
theorem dX4_as_88 : decode cX4_as 88 = .ok (.ireturn, 1) := by decide +kernel
set_option maxRecDepth 20000 in
theorem ggX4_comesOn_X4_put : GoodIn wsX4_comesOn wsX4_put := goodIn_r _ [5, 6, 14, 15, 16, 17, 18, 19, 20, 21, 22, 23, 24, 25, 26, 27, 28] (by decide +kernel) (by decide +kernel)
set_option maxRecDepth 20000 in
theorem gX4_comesOn_X4_put : GoodIn wsX4_comesOn (wsV RX4 82 RX4 yX4_put wsX4_put) := goodIn_app (goodIn_of _ (by decide +kernel)) ggX4_comesOn_X4_put
set_option maxRecDepth 20000 in
theorem ggX4_comesOn_X4_it : GoodIn wsX4_comesOn wsX4_it := goodIn_r _ [10, 6, 14, 15, 16, 17, 18, 19, 20, 21, 22, 23, 24, 25, 26, 27, 28] (by decide +kernel) (by decide +kernel)
set_option maxRecDepth 20000 in
theorem gX4_comesOn_X4_it : GoodIn wsX4_comesOn (wsV RX4 45 RX4 yX4_it wsX4_it) := goodIn_app (goodIn_of _ (by decide +kernel)) ggX4_comesOn_X4_it
set_option maxRecDepth 20000 in
theorem ggX4_comesOn_X4_held : GoodIn wsX4_comesOn wsX4_held := goodIn_r _ [13] (by decide +kernel) (by decide +kernel)
set_option maxRecDepth 20000 in
theorem gX4_comesOn_X4_held : GoodIn wsX4_comesOn (va_wsS RX4 58 yX4_held wsX4_held) := goodIn_app (goodIn_of _ (by decide +kernel)) ggX4_comesOn_X4_held
theorem dX4_comesOn_0 : decode cX4_comesOn 0 = .ok (.aload_n 0, 1) := by decide +kernel
theorem dX4_comesOn_1 : decode cX4_comesOn 1 = .ok (.iload_n 1, 1) := by decide +kernel
theorem dX4_comesOn_2 : decode cX4_comesOn 2 = .ok (.iconst 3, 1) := by decide +kernel
theorem dX4_comesOn_3 : decode cX4_comesOn 3 = .ok (.iconst 1, 1) := by decide +kernel
theorem dX4_comesOn_4 : decode cX4_comesOn 4 = .ok (.invokevirtual 82, 3) := by decide +kernel
theorem dX4_comesOn_7 : decode cX4_comesOn 7 = .ok (.aload_n 0, 1) := by decide +kernel
theorem dX4_comesOn_8 : decode cX4_comesOn 8 = .ok (.iload_n 1, 1) := by decide +kernel
theorem dX4_comesOn_9 : decode cX4_comesOn 9 = .ok (.bipush 7, 2) := by decide +kernel
theorem dX4_comesOn_11 : decode cX4_comesOn 11 = .ok (.aload_n 0, 1) := by decide +kernel
theorem dX4_comesOn_12 : decode cX4_comesOn 12 = .ok (.iload_n 1, 1) := by decide +kernel
theorem dX4_comesOn_13 : decode cX4_comesOn 13 = .ok (.bipush 7, 2) := by decide +kernel
theorem dX4_comesOn_15 : decode cX4_comesOn 15 = .ok (.invokevirtual 45, 3) := by decide +kernel
theorem dX4_comesOn_18 : decode cX4_comesOn 18 = .ok (.iconst 1, 1) := by decide +kernel
theorem dX4_comesOn_19 : decode cX4_comesOn 19 = .ok (.iadd, 1) := by decide +kernel
theorem dX4_comesOn_20 : decode cX4_comesOn 20 = .ok (.iconst 0, 1) := by decide +kernel
theorem dX4_comesOn_21 : decode cX4_comesOn 21 = .ok (.sipush 9999, 3) := by decide +kernel
theorem dX4_comesOn_24 : decode cX4_comesOn 24 = .ok (.invokestatic 58, 3) := by decide +kernel
theorem dX4_comesOn_27 : decode cX4_comesOn 27 = .ok (.invokevirtual 82, 3) := by decide +kernel
theorem dX4_comesOn_30 : decode cX4_comesOn 30 = .ok (.return_, 1) := by decide +kernel
set_option maxRecDepth 20000 in
theorem ggX4_goesOff_X4_put : GoodIn wsX4_goesOff wsX4_put := goodIn_r _ [5, 6, 7, 8, 9, 10, 11, 12, 13, 14, 15, 16, 17, 18, 19, 20, 21] (by decide +kernel) (by decide +kernel)
set_option maxRecDepth 20000 in
theorem gX4_goesOff_X4_put : GoodIn wsX4_goesOff (wsV RX4 82 RX4 yX4_put wsX4_put) := goodIn_app (goodIn_of _ (by decide +kernel)) ggX4_goesOff_X4_put
theorem dX4_goesOff_0 : decode cX4_goesOff 0 = .ok (.aload_n 0, 1) := by decide +kernel
theorem dX4_goesOff_1 : decode cX4_goesOff 1 = .ok (.iload_n 1, 1) := by decide +kernel
theorem dX4_goesOff_2 : decode cX4_goesOff 2 = .ok (.iconst 3, 1) := by decide +kernel
theorem dX4_goesOff_3 : decode cX4_goesOff 3 = .ok (.iconst 0, 1) := by decide +kernel
theorem dX4_goesOff_4 : decode cX4_goesOff 4 = .ok (.invokevirtual 82, 3) := by decide +kernel
theorem dX4_goesOff_7 : decode cX4_goesOff 7 = .ok (.aload_n 0, 1) := by decide +kernel
theorem dX4_goesOff_8 : decode cX4_goesOff 8 = .ok (.iload_n 1, 1) := by decide +kernel
theorem dX4_goesOff_9 : decode cX4_goesOff 9 = .ok (.iconst 1, 1) := by decide +kernel
theorem dX4_goesOff_10 : decode cX4_goesOff 10 = .ok (.iload_n 2, 1) := by decide +kernel
theorem dX4_goesOff_11 : decode cX4_goesOff 11 = .ok (.invokevirtual 82, 3) := by decide +kernel
theorem dX4_goesOff_14 : decode cX4_goesOff 14 = .ok (.return_, 1) := by decide +kernel
set_option maxRecDepth 20000 in
theorem ggX4_lay_X4_isThing : GoodIn wsX4_lay wsX4_isThing := goodIn_r _ [9, 4, 10, 11, 8, 12, 53, 54, 55, 56, 57, 58, 59, 60, 61, 62, 63, 64, 65, 66, 67] (by decide +kernel) (by decide +kernel)
set_option maxRecDepth 20000 in
theorem gX4_lay_X4_isThing : GoodIn wsX4_lay (wsV RX4 94 RX4 yX4_isThing wsX4_isThing) := goodIn_app (goodIn_of _ (by decide +kernel)) ggX4_lay_X4_isThing
set_option maxRecDepth 20000 in
theorem ggX4_lay_X4_finds : GoodIn wsX4_lay wsX4_finds := goodIn_r _ [16, 17, 1, 53, 54, 55, 56, 57, 58, 59, 60, 61, 62, 63, 64, 65, 66, 67] (by decide +kernel) (by decide +kernel)
set_option maxRecDepth 20000 in
theorem gX4_lay_X4_finds : GoodIn wsX4_lay (wsV RX4 37 RX4 yX4_finds wsX4_finds) := goodIn_app (goodIn_of _ (by decide +kernel)) ggX4_lay_X4_finds
set_option maxRecDepth 20000 in
theorem ggX4_lay_X4_isOn : GoodIn wsX4_lay wsX4_isOn := goodIn_r _ [21, 22, 23, 24, 8, 25, 4, 53, 54, 55, 56, 57, 58, 59, 60, 61, 62, 63, 64, 65, 66, 67] (by decide +kernel) (by decide +kernel)
set_option maxRecDepth 20000 in
theorem gX4_lay_X4_isOn : GoodIn wsX4_lay (wsV RX4 62 RX4 yX4_isOn wsX4_isOn) := goodIn_app (goodIn_of _ (by decide +kernel)) ggX4_lay_X4_isOn
set_option maxRecDepth 20000 in
theorem ggX4_lay_X4_it : GoodIn wsX4_lay wsX4_it := goodIn_r _ [25, 4, 53, 54, 55, 56, 57, 58, 59, 60, 61, 62, 63, 64, 65, 66, 67] (by decide +kernel) (by decide +kernel)
set_option maxRecDepth 20000 in
theorem gX4_lay_X4_it : GoodIn wsX4_lay (wsV RX4 45 RX4 yX4_it wsX4_it) := goodIn_app (goodIn_of _ (by decide +kernel)) ggX4_lay_X4_it
set_option maxRecDepth 20000 in
theorem ggX4_lay_X4_isBorne : GoodIn wsX4_lay wsX4_isBorne := goodIn_r _ [29, 22, 23, 24, 8, 25, 4, 30, 31, 32, 33, 18, 19, 20, 21, 34, 35, 36, 37, 38, 39, 40, 41, 42, 43, 44, 53, 54, 55, 56, 57, 58, 59, 60, 61, 62, 63, 64, 65, 66, 67] (by decide +kernel) (by decide +kernel)
set_option maxRecDepth 20000 in
theorem gX4_lay_X4_isBorne : GoodIn wsX4_lay (wsV RX4 105 RX4 yX4_isBorne wsX4_isBorne) := goodIn_app (goodIn_of _ (by decide +kernel)) ggX4_lay_X4_isBorne
set_option maxRecDepth 20000 in
theorem ggX4_lay_X4_comesOn : GoodIn wsX4_lay wsX4_comesOn := goodIn_r _ [48, 49, 50, 51, 8, 52, 4, 22, 23, 24, 25, 42, 43, 44, 53, 54, 55, 56, 57, 58, 59, 60, 61, 62, 63, 64, 65, 66, 67] (by decide +kernel) (by decide +kernel)
set_option maxRecDepth 20000 in
theorem gX4_lay_X4_comesOn : GoodIn wsX4_lay (wsV RX4 108 RX4 yX4_comesOn wsX4_comesOn) := goodIn_app (goodIn_of _ (by decide +kernel)) ggX4_lay_X4_comesOn
set_option maxRecDepth 20000 in
theorem ggX4_lay_X4_put : GoodIn wsX4_lay wsX4_put := goodIn_r _ [52, 4, 53, 54, 55, 56, 57, 58, 59, 60, 61, 62, 63, 64, 65, 66, 67] (by decide +kernel) (by decide +kernel)
set_option maxRecDepth 20000 in
theorem gX4_lay_X4_put : GoodIn wsX4_lay (wsV RX4 82 RX4 yX4_put wsX4_put) := goodIn_app (goodIn_of _ (by decide +kernel)) ggX4_lay_X4_put
set_option maxRecDepth 20000 in
theorem ggX4_lay_X4_loadAt : GoodIn wsX4_lay wsX4_loadAt := goodIn_r _ [33, 4, 18, 19, 20, 8, 21, 22, 23, 24, 25, 34, 35, 36, 37, 53, 54, 55, 56, 57, 58, 59, 60, 61, 62, 63, 64, 65, 66, 67] (by decide +kernel) (by decide +kernel)
set_option maxRecDepth 20000 in
theorem gX4_lay_X4_loadAt : GoodIn wsX4_lay (wsV RX4 69 RX4 yX4_loadAt wsX4_loadAt) := goodIn_app (goodIn_of _ (by decide +kernel)) ggX4_lay_X4_loadAt
theorem dX4_lay_0 : decode cX4_lay 0 = .ok (.aload_n 0, 1) := by decide +kernel
theorem dX4_lay_1 : decode cX4_lay 1 = .ok (.iload_n 1, 1) := by decide +kernel
theorem dX4_lay_2 : decode cX4_lay 2 = .ok (.invokevirtual 94, 3) := by decide +kernel
theorem dX4_lay_5 : decode cX4_lay 5 = .ok (.ifCond .ne 10, 3) := by decide +kernel
theorem dX4_lay_8 : decode cX4_lay 8 = .ok (.aload_n 0, 1) := by decide +kernel
theorem dX4_lay_9 : decode cX4_lay 9 = .ok (.ldc 35, 2) := by decide +kernel
theorem dX4_lay_11 : decode cX4_lay 11 = .ok (.invokevirtual 37, 3) := by decide +kernel
theorem dX4_lay_14 : decode cX4_lay 14 = .ok (.ireturn, 1) := by decide +kernel
theorem dX4_lay_15 : decode cX4_lay 15 = .ok (.aload_n 0, 1) := by decide +kernel
theorem dX4_lay_16 : decode cX4_lay 16 = .ok (.iload_n 1, 1) := by decide +kernel
theorem dX4_lay_17 : decode cX4_lay 17 = .ok (.invokevirtual 62, 3) := by decide +kernel
theorem dX4_lay_20 : decode cX4_lay 20 = .ok (.ifCond .ne 14, 3) := by decide +kernel
theorem dX4_lay_23 : decode cX4_lay 23 = .ok (.aload_n 0, 1) := by decide +kernel
theorem dX4_lay_24 : decode cX4_lay 24 = .ok (.iload_n 1, 1) := by decide +kernel
theorem dX4_lay_25 : decode cX4_lay 25 = .ok (.bipush 6, 2) := by decide +kernel
theorem dX4_lay_27 : decode cX4_lay 27 = .ok (.invokevirtual 45, 3) := by decide +kernel
theorem dX4_lay_30 : decode cX4_lay 30 = .ok (.iconst 1, 1) := by decide +kernel
theorem dX4_lay_31 : decode cX4_lay 31 = .ok (.if_icmp .ne 10, 3) := by decide +kernel
theorem dX4_lay_34 : decode cX4_lay 34 = .ok (.aload_n 0, 1) := by decide +kernel
theorem dX4_lay_35 : decode cX4_lay 35 = .ok (.ldc 103, 2) := by decide +kernel
theorem dX4_lay_37 : decode cX4_lay 37 = .ok (.invokevirtual 37, 3) := by decide +kernel
theorem dX4_lay_40 : decode cX4_lay 40 = .ok (.ireturn, 1) := by decide +kernel
theorem dX4_lay_41 : decode cX4_lay 41 = .ok (.aload_n 0, 1) := by decide +kernel
theorem dX4_lay_42 : decode cX4_lay 42 = .ok (.iload_n 1, 1) := by decide +kernel
theorem dX4_lay_43 : decode cX4_lay 43 = .ok (.invokevirtual 105, 3) := by decide +kernel
theorem dX4_lay_46 : decode cX4_lay 46 = .ok (.ifCond .ne 10, 3) := by decide +kernel
theorem dX4_lay_49 : decode cX4_lay 49 = .ok (.aload_n 0, 1) := by decide +kernel
theorem dX4_lay_50 : decode cX4_lay 50 = .ok (.ldc 89, 2) := by decide +kernel
theorem dX4_lay_52 : decode cX4_lay 52 = .ok (.invokevirtual 37, 3) := by decide +kernel
theorem dX4_lay_55 : decode cX4_lay 55 = .ok (.ireturn, 1) := by decide +kernel
theorem dX4_lay_56 : decode cX4_lay 56 = .ok (.aload_n 0, 1) := by decide +kernel
theorem dX4_lay_57 : decode cX4_lay 57 = .ok (.iload_n 1, 1) := by decide +kernel
theorem dX4_lay_58 : decode cX4_lay 58 = .ok (.invokevirtual 108, 3) := by decide +kernel
theorem dX4_lay_61 : decode cX4_lay 61 = .ok (.aload_n 0, 1) := by decide +kernel
theorem dX4_lay_62 : decode cX4_lay 62 = .ok (.iload_n 1, 1) := by decide +kernel
theorem dX4_lay_63 : decode cX4_lay 63 = .ok (.iconst 1, 1) := by decide +kernel
theorem dX4_lay_64 : decode cX4_lay 64 = .ok (.aload_n 0, 1) := by decide +kernel
theorem dX4_lay_65 : decode cX4_lay 65 = .ok (.getfield 9, 3) := by decide +kernel
theorem dX4_lay_68 : decode cX4_lay 68 = .ok (.iconst 1, 1) := by decide +kernel
theorem dX4_lay_69 : decode cX4_lay 69 = .ok (.iaload, 1) := by decide +kernel
theorem dX4_lay_70 : decode cX4_lay 70 = .ok (.invokevirtual 82, 3) := by decide +kernel
theorem dX4_lay_73 : decode cX4_lay 73 = .ok (.aload_n 0, 1) := by decide +kernel
theorem dX4_lay_74 : decode cX4_lay 74 = .ok (.aload_n 0, 1) := by decide +kernel
theorem dX4_lay_75 : decode cX4_lay 75 = .ok (.iload_n 1, 1) := by decide +kernel
theorem dX4_lay_76 : decode cX4_lay 76 = .ok (.iconst 2, 1) := by decide +kernel
theorem dX4_lay_77 : decode cX4_lay 77 = .ok (.invokevirtual 45, 3) := by decide +kernel
theorem dX4_lay_80 : decode cX4_lay 80 = .ok (.invokevirtual 69, 3) := by decide +kernel
theorem dX4_lay_83 : decode cX4_lay 83 = .ok (.ireturn, 1) := by decide +kernel
set_option maxRecDepth 20000 in
theorem ggX4_take_X4_isThing : GoodIn wsX4_take wsX4_isThing := goodIn_r _ [8, 3, 9, 10, 7, 11, 33, 34, 35, 36, 37, 38, 39, 40, 41, 42, 43, 44, 45, 46, 47] (by decide +kernel) (by decide +kernel)
set_option maxRecDepth 20000 in
theorem gX4_take_X4_isThing : GoodIn wsX4_take (wsV RX4 94 RX4 yX4_isThing wsX4_isThing) := goodIn_app (goodIn_of _ (by decide +kernel)) ggX4_take_X4_isThing
set_option maxRecDepth 20000 in
theorem ggX4_take_X4_finds : GoodIn wsX4_take wsX4_finds := goodIn_r _ [15, 16, 1, 33, 34, 35, 36, 37, 38, 39, 40, 41, 42, 43, 44, 45, 46, 47] (by decide +kernel) (by decide +kernel)
set_option maxRecDepth 20000 in
theorem gX4_take_X4_finds : GoodIn wsX4_take (wsV RX4 37 RX4 yX4_finds wsX4_finds) := goodIn_app (goodIn_of _ (by decide +kernel)) ggX4_take_X4_finds
set_option maxRecDepth 20000 in
theorem ggX4_take_X4_isOn : GoodIn wsX4_take wsX4_isOn := goodIn_r _ [20, 21, 22, 23, 7, 24, 3, 33, 34, 35, 36, 37, 38, 39, 40, 41, 42, 43, 44, 45, 46, 47] (by decide +kernel) (by decide +kernel)
set_option maxRecDepth 20000 in
theorem gX4_take_X4_isOn : GoodIn wsX4_take (wsV RX4 62 RX4 yX4_isOn wsX4_isOn) := goodIn_app (goodIn_of _ (by decide +kernel)) ggX4_take_X4_isOn
set_option maxRecDepth 20000 in
theorem ggX4_take_X4_goesOff : GoodIn wsX4_take wsX4_goesOff := goodIn_r _ [28, 29, 30, 31, 7, 32, 3, 33, 34, 35, 36, 37, 38, 39, 40, 41, 42, 43, 44, 45, 46, 47] (by decide +kernel) (by decide +kernel)
set_option maxRecDepth 20000 in
theorem gX4_take_X4_goesOff : GoodIn wsX4_take (wsV RX4 112 RX4 yX4_goesOff wsX4_goesOff) := goodIn_app (goodIn_of _ (by decide +kernel)) ggX4_take_X4_goesOff
theorem dX4_take_0 : decode cX4_take 0 = .ok (.aload_n 0, 1) := by decide +kernel
theorem dX4_take_1 : decode cX4_take 1 = .ok (.iload_n 1, 1) := by decide +kernel
theorem dX4_take_2 : decode cX4_take 2 = .ok (.invokevirtual 94, 3) := by decide +kernel
theorem dX4_take_5 : decode cX4_take 5 = .ok (.ifCond .ne 10, 3) := by decide +kernel
theorem dX4_take_8 : decode cX4_take 8 = .ok (.aload_n 0, 1) := by decide +kernel
theorem dX4_take_9 : decode cX4_take 9 = .ok (.ldc 35, 2) := by decide +kernel
theorem dX4_take_11 : decode cX4_take 11 = .ok (.invokevirtual 37, 3) := by decide +kernel
theorem dX4_take_14 : decode cX4_take 14 = .ok (.ireturn, 1) := by decide +kernel
theorem dX4_take_15 : decode cX4_take 15 = .ok (.aload_n 0, 1) := by decide +kernel
theorem dX4_take_16 : decode cX4_take 16 = .ok (.iload_n 1, 1) := by decide +kernel
theorem dX4_take_17 : decode cX4_take 17 = .ok (.invokevirtual 62, 3) := by decide +kernel
theorem dX4_take_20 : decode cX4_take 20 = .ok (.ifCond .ne 10, 3) := by decide +kernel
theorem dX4_take_23 : decode cX4_take 23 = .ok (.aload_n 0, 1) := by decide +kernel
theorem dX4_take_24 : decode cX4_take 24 = .ok (.ldc 103, 2) := by decide +kernel
theorem dX4_take_26 : decode cX4_take 26 = .ok (.invokevirtual 37, 3) := by decide +kernel
theorem dX4_take_29 : decode cX4_take 29 = .ok (.ireturn, 1) := by decide +kernel
theorem dX4_take_30 : decode cX4_take 30 = .ok (.aload_n 0, 1) := by decide +kernel
theorem dX4_take_31 : decode cX4_take 31 = .ok (.iload_n 1, 1) := by decide +kernel
theorem dX4_take_32 : decode cX4_take 32 = .ok (.aload_n 0, 1) := by decide +kernel
theorem dX4_take_33 : decode cX4_take 33 = .ok (.getfield 9, 3) := by decide +kernel
theorem dX4_take_36 : decode cX4_take 36 = .ok (.iconst 1, 1) := by decide +kernel
theorem dX4_take_37 : decode cX4_take 37 = .ok (.iaload, 1) := by decide +kernel
theorem dX4_take_38 : decode cX4_take 38 = .ok (.invokevirtual 112, 3) := by decide +kernel
theorem dX4_take_41 : decode cX4_take 41 = .ok (.aload_n 0, 1) := by decide +kernel
theorem dX4_take_42 : decode cX4_take 42 = .ok (.getfield 9, 3) := by decide +kernel
theorem dX4_take_45 : decode cX4_take 45 = .ok (.iconst 1, 1) := by decide +kernel
theorem dX4_take_46 : decode cX4_take 46 = .ok (.iaload, 1) := by decide +kernel
theorem dX4_take_47 : decode cX4_take 47 = .ok (.ireturn, 1) := by decide +kernel
set_option maxRecDepth 20000 in
theorem ggX4_passes_X4_isOn : GoodIn wsX4_passes wsX4_isOn := goodIn_r _ [5, 6, 7, 8, 4, 9, 10, 61, 62, 63, 64, 65, 66, 67, 68, 69, 70, 71, 72, 73, 74, 75] (by decide +kernel) (by decide +kernel)
set_option maxRecDepth 20000 in
theorem gX4_passes_X4_isOn : GoodIn wsX4_passes (wsV RX4 62 RX4 yX4_isOn wsX4_isOn) := goodIn_app (goodIn_of _ (by decide +kernel)) ggX4_passes_X4_isOn
set_option maxRecDepth 20000 in
theorem ggX4_passes_X4_getsOff : GoodIn wsX4_passes wsX4_getsOff := goodIn_r _ [14, 6, 7, 8, 4, 9, 10, 15, 16, 17, 18, 19, 20, 21, 22, 23, 24, 25, 61, 62, 63, 64, 65, 66, 67, 68, 69, 70, 71, 72, 73, 74, 75] (by decide +kernel) (by decide +kernel)
set_option maxRecDepth 20000 in
theorem gX4_passes_X4_getsOff : GoodIn wsX4_passes (wsV RX4 116 RX4 yX4_getsOff wsX4_getsOff) := goodIn_app (goodIn_of _ (by decide +kernel)) ggX4_passes_X4_getsOff
set_option maxRecDepth 20000 in
theorem ggX4_passes_X4_goesOff : GoodIn wsX4_passes wsX4_goesOff := goodIn_r _ [29, 30, 31, 32, 4, 33, 10, 61, 62, 63, 64, 65, 66, 67, 68, 69, 70, 71, 72, 73, 74, 75] (by decide +kernel) (by decide +kernel)
set_option maxRecDepth 20000 in
theorem gX4_passes_X4_goesOff : GoodIn wsX4_passes (wsV RX4 112 RX4 yX4_goesOff wsX4_goesOff) := goodIn_app (goodIn_of _ (by decide +kernel)) ggX4_passes_X4_goesOff
set_option maxRecDepth 20000 in
theorem ggX4_passes_X4_put : GoodIn wsX4_passes wsX4_put := goodIn_r _ [33, 10, 61, 62, 63, 64, 65, 66, 67, 68, 69, 70, 71, 72, 73, 74, 75] (by decide +kernel) (by decide +kernel)
set_option maxRecDepth 20000 in
theorem gX4_passes_X4_put : GoodIn wsX4_passes (wsV RX4 82 RX4 yX4_put wsX4_put) := goodIn_app (goodIn_of _ (by decide +kernel)) ggX4_passes_X4_put
set_option maxRecDepth 20000 in
theorem ggX4_passes_X4_it : GoodIn wsX4_passes wsX4_it := goodIn_r _ [9, 10, 61, 62, 63, 64, 65, 66, 67, 68, 69, 70, 71, 72, 73, 74, 75] (by decide +kernel) (by decide +kernel)
set_option maxRecDepth 20000 in
theorem gX4_passes_X4_it : GoodIn wsX4_passes (wsV RX4 45 RX4 yX4_it wsX4_it) := goodIn_app (goodIn_of _ (by decide +kernel)) ggX4_passes_X4_it
set_option maxRecDepth 20000 in
theorem ggX4_passes_X4_getsOn : GoodIn wsX4_passes wsX4_getsOn := goodIn_r _ [37, 10, 6, 7, 8, 4, 9, 15, 16, 17, 18, 19, 20, 21, 22, 23, 24, 25, 61, 62, 63, 64, 65, 66, 67, 68, 69, 70, 71, 72, 73, 74, 75] (by decide +kernel) (by decide +kernel)
set_option maxRecDepth 20000 in
theorem gX4_passes_X4_getsOn : GoodIn wsX4_passes (wsV RX4 120 RX4 yX4_getsOn wsX4_getsOn) := goodIn_app (goodIn_of _ (by decide +kernel)) ggX4_passes_X4_getsOn
set_option maxRecDepth 20000 in
theorem ggX4_passes_X4_isBorne : GoodIn wsX4_passes wsX4_isBorne := goodIn_r _ [41, 6, 7, 8, 4, 9, 10, 42, 43, 44, 45, 1, 2, 3, 5, 46, 47, 48, 49, 50, 51, 52, 53, 54, 55, 56, 61, 62, 63, 64, 65, 66, 67, 68, 69, 70, 71, 72, 73, 74, 75] (by decide +kernel) (by decide +kernel)
set_option maxRecDepth 20000 in
theorem gX4_passes_X4_isBorne : GoodIn wsX4_passes (wsV RX4 105 RX4 yX4_isBorne wsX4_isBorne) := goodIn_app (goodIn_of _ (by decide +kernel)) ggX4_passes_X4_isBorne
set_option maxRecDepth 20000 in
theorem ggX4_passes_X4_comesOn : GoodIn wsX4_passes wsX4_comesOn := goodIn_r _ [60, 30, 31, 32, 4, 33, 10, 6, 7, 8, 9, 54, 55, 56, 61, 62, 63, 64, 65, 66, 67, 68, 69, 70, 71, 72, 73, 74, 75] (by decide +kernel) (by decide +kernel)
set_option maxRecDepth 20000 in
theorem gX4_passes_X4_comesOn : GoodIn wsX4_passes (wsV RX4 108 RX4 yX4_comesOn wsX4_comesOn) := goodIn_app (goodIn_of _ (by decide +kernel)) ggX4_passes_X4_comesOn
theorem dX4_passes_0 : decode cX4_passes 0 = .ok (.aload_n 0, 1) := by decide +kernel
theorem dX4_passes_1 : decode cX4_passes 1 = .ok (.iload_n 1, 1) := by decide +kernel
theorem dX4_passes_2 : decode cX4_passes 2 = .ok (.invokevirtual 62, 3) := by decide +kernel
theorem dX4_passes_5 : decode cX4_passes 5 = .ok (.ifCond .eq 21, 3) := by decide +kernel
theorem dX4_passes_8 : decode cX4_passes 8 = .ok (.aload_n 0, 1) := by decide +kernel
theorem dX4_passes_9 : decode cX4_passes 9 = .ok (.iload_n 1, 1) := by decide +kernel
theorem dX4_passes_10 : decode cX4_passes 10 = .ok (.iload_n 2, 1) := by decide +kernel
theorem dX4_passes_11 : decode cX4_passes 11 = .ok (.invokevirtual 116, 3) := by decide +kernel
theorem dX4_passes_14 : decode cX4_passes 14 = .ok (.ifCond .eq 12, 3) := by decide +kernel
theorem dX4_passes_17 : decode cX4_passes 17 = .ok (.aload_n 0, 1) := by decide +kernel
theorem dX4_passes_18 : decode cX4_passes 18 = .ok (.iload_n 1, 1) := by decide +kernel
theorem dX4_passes_19 : decode cX4_passes 19 = .ok (.iload_n 2, 1) := by decide +kernel
theorem dX4_passes_20 : decode cX4_passes 20 = .ok (.invokevirtual 112, 3) := by decide +kernel
theorem dX4_passes_23 : decode cX4_passes 23 = .ok (.goto 91, 3) := by decide +kernel
theorem dX4_passes_26 : decode cX4_passes 26 = .ok (.aload_n 0, 1) := by decide +kernel
theorem dX4_passes_27 : decode cX4_passes 27 = .ok (.iload_n 1, 1) := by decide +kernel
theorem dX4_passes_28 : decode cX4_passes 28 = .ok (.invokevirtual 62, 3) := by decide +kernel
theorem dX4_passes_31 : decode cX4_passes 31 = .ok (.ifCond .eq 26, 3) := by decide +kernel
theorem dX4_passes_34 : decode cX4_passes 34 = .ok (.iload_n 2, 1) := by decide +kernel
theorem dX4_passes_35 : decode cX4_passes 35 = .ok (.bipush 58, 2) := by decide +kernel
theorem dX4_passes_37 : decode cX4_passes 37 = .ok (.if_icmp .ne 20, 3) := by decide +kernel
theorem dX4_passes_40 : decode cX4_passes 40 = .ok (.aload_n 0, 1) := by decide +kernel
theorem dX4_passes_41 : decode cX4_passes 41 = .ok (.iload_n 1, 1) := by decide +kernel
theorem dX4_passes_42 : decode cX4_passes 42 = .ok (.iload_n 2, 1) := by decide +kernel
theorem dX4_passes_43 : decode cX4_passes 43 = .ok (.invokevirtual 112, 3) := by decide +kernel
theorem dX4_passes_46 : decode cX4_passes 46 = .ok (.aload_n 0, 1) := by decide +kernel
theorem dX4_passes_47 : decode cX4_passes 47 = .ok (.iload_n 1, 1) := by decide +kernel
theorem dX4_passes_48 : decode cX4_passes 48 = .ok (.bipush 6, 2) := by decide +kernel
theorem dX4_passes_50 : decode cX4_passes 50 = .ok (.iconst 1, 1) := by decide +kernel
theorem dX4_passes_51 : decode cX4_passes 51 = .ok (.invokevirtual 82, 3) := by decide +kernel
theorem dX4_passes_54 : decode cX4_passes 54 = .ok (.goto 60, 3) := by decide +kernel
theorem dX4_passes_57 : decode cX4_passes 57 = .ok (.aload_n 0, 1) := by decide +kernel
theorem dX4_passes_58 : decode cX4_passes 58 = .ok (.iload_n 1, 1) := by decide +kernel
theorem dX4_passes_59 : decode cX4_passes 59 = .ok (.invokevirtual 62, 3) := by decide +kernel
theorem dX4_passes_62 : decode cX4_passes 62 = .ok (.ifCond .ne 52, 3) := by decide +kernel
theorem dX4_passes_65 : decode cX4_passes 65 = .ok (.iload_n 3, 1) := by decide +kernel
theorem dX4_passes_66 : decode cX4_passes 66 = .ok (.iload_n 1, 1) := by decide +kernel
theorem dX4_passes_67 : decode cX4_passes 67 = .ok (.ishr, 1) := by decide +kernel
theorem dX4_passes_68 : decode cX4_passes 68 = .ok (.iconst 1, 1) := by decide +kernel
theorem dX4_passes_69 : decode cX4_passes 69 = .ok (.iand, 1) := by decide +kernel
theorem dX4_passes_70 : decode cX4_passes 70 = .ok (.ifCond .ne 44, 3) := by decide +kernel
theorem dX4_passes_73 : decode cX4_passes 73 = .ok (.aload_n 0, 1) := by decide +kernel
theorem dX4_passes_74 : decode cX4_passes 74 = .ok (.iload_n 1, 1) := by decide +kernel
theorem dX4_passes_75 : decode cX4_passes 75 = .ok (.bipush 6, 2) := by decide +kernel
theorem dX4_passes_77 : decode cX4_passes 77 = .ok (.invokevirtual 45, 3) := by decide +kernel
theorem dX4_passes_80 : decode cX4_passes 80 = .ok (.ifCond .ne 34, 3) := by decide +kernel
theorem dX4_passes_83 : decode cX4_passes 83 = .ok (.aload_n 0, 1) := by decide +kernel
theorem dX4_passes_84 : decode cX4_passes 84 = .ok (.iload_n 1, 1) := by decide +kernel
theorem dX4_passes_85 : decode cX4_passes 85 = .ok (.iconst 1, 1) := by decide +kernel
theorem dX4_passes_86 : decode cX4_passes 86 = .ok (.invokevirtual 45, 3) := by decide +kernel
theorem dX4_passes_89 : decode cX4_passes 89 = .ok (.iload_n 2, 1) := by decide +kernel
theorem dX4_passes_90 : decode cX4_passes 90 = .ok (.if_icmp .ne 24, 3) := by decide +kernel
theorem dX4_passes_93 : decode cX4_passes 93 = .ok (.aload_n 0, 1) := by decide +kernel
theorem dX4_passes_94 : decode cX4_passes 94 = .ok (.iload_n 1, 1) := by decide +kernel
theorem dX4_passes_95 : decode cX4_passes 95 = .ok (.invokevirtual 120, 3) := by decide +kernel
theorem dX4_passes_98 : decode cX4_passes 98 = .ok (.ifCond .eq 16, 3) := by decide +kernel
theorem dX4_passes_101 : decode cX4_passes 101 = .ok (.aload_n 0, 1) := by decide +kernel
theorem dX4_passes_102 : decode cX4_passes 102 = .ok (.iload_n 1, 1) := by decide +kernel
theorem dX4_passes_103 : decode cX4_passes 103 = .ok (.invokevirtual 105, 3) := by decide +kernel
theorem dX4_passes_106 : decode cX4_passes 106 = .ok (.ifCond .eq 8, 3) := by decide +kernel
theorem dX4_passes_109 : decode cX4_passes 109 = .ok (.aload_n 0, 1) := by decide +kernel
theorem dX4_passes_110 : decode cX4_passes 110 = .ok (.iload_n 1, 1) := by decide +kernel
theorem dX4_passes_111 : decode cX4_passes 111 = .ok (.invokevirtual 108, 3) := by decide +kernel
theorem dX4_passes_114 : decode cX4_passes 114 = .ok (.return_, 1) := by decide +kernel
set_option maxRecDepth 20000 in
theorem ggX4_allDry_X4_isOn : GoodIn wsX4_allDry wsX4_isOn := goodIn_r _ [6, 7, 8, 9, 5, 10, 1, 22, 23, 24, 25, 26, 27, 28, 29, 30, 31, 32, 33, 34, 35, 36] (by decide +kernel) (by decide +kernel)
set_option maxRecDepth 20000 in
theorem gX4_allDry_X4_isOn : GoodIn wsX4_allDry (wsV RX4 62 RX4 yX4_isOn wsX4_isOn) := goodIn_app (goodIn_of _ (by decide +kernel)) ggX4_allDry_X4_isOn
set_option maxRecDepth 20000 in
theorem ggX4_allDry_X4_it : GoodIn wsX4_allDry wsX4_it := goodIn_r _ [10, 1, 22, 23, 24, 25, 26, 27, 28, 29, 30, 31, 32, 33, 34, 35, 36] (by decide +kernel) (by decide +kernel)
set_option maxRecDepth 20000 in
theorem gX4_allDry_X4_it : GoodIn wsX4_allDry (wsV RX4 45 RX4 yX4_it wsX4_it) := goodIn_app (goodIn_of _ (by decide +kernel)) ggX4_allDry_X4_it
set_option maxRecDepth 20000 in
theorem ggX4_allDry_X4_dries : GoodIn wsX4_allDry wsX4_dries := goodIn_r _ [14, 1, 7, 8, 9, 5, 10, 22, 23, 24, 25, 26, 27, 28, 29, 30, 31, 32, 33, 34, 35, 36] (by decide +kernel) (by decide +kernel)
set_option maxRecDepth 20000 in
theorem gX4_allDry_X4_dries : GoodIn wsX4_allDry (wsV RX4 97 RX4 yX4_dries wsX4_dries) := goodIn_app (goodIn_of _ (by decide +kernel)) ggX4_allDry_X4_dries
set_option maxRecDepth 20000 in
theorem ggX4_allDry_X4_held : GoodIn wsX4_allDry wsX4_held := goodIn_r _ [17] (by decide +kernel) (by decide +kernel)
set_option maxRecDepth 20000 in
theorem gX4_allDry_X4_held : GoodIn wsX4_allDry (va_wsS RX4 58 yX4_held wsX4_held) := goodIn_app (goodIn_of _ (by decide +kernel)) ggX4_allDry_X4_held
set_option maxRecDepth 20000 in
theorem ggX4_allDry_X4_put : GoodIn wsX4_allDry wsX4_put := goodIn_r _ [21, 1, 22, 23, 24, 25, 26, 27, 28, 29, 30, 31, 32, 33, 34, 35, 36] (by decide +kernel) (by decide +kernel)
set_option maxRecDepth 20000 in
theorem gX4_allDry_X4_put : GoodIn wsX4_allDry (wsV RX4 82 RX4 yX4_put wsX4_put) := goodIn_app (goodIn_of _ (by decide +kernel)) ggX4_allDry_X4_put
theorem dX4_allDry_0 : decode cX4_allDry 0 = .ok (.iconst 0, 1) := by decide +kernel
theorem dX4_allDry_1 : decode cX4_allDry 1 = .ok (.istore_n 1, 1) := by decide +kernel
theorem dX4_allDry_2 : decode cX4_allDry 2 = .ok (.iload_n 1, 1) := by decide +kernel
theorem dX4_allDry_3 : decode cX4_allDry 3 = .ok (.aload_n 0, 1) := by decide +kernel
theorem dX4_allDry_4 : decode cX4_allDry 4 = .ok (.getfield 9, 3) := by decide +kernel
theorem dX4_allDry_7 : decode cX4_allDry 7 = .ok (.iconst 4, 1) := by decide +kernel
theorem dX4_allDry_8 : decode cX4_allDry 8 = .ok (.iaload, 1) := by decide +kernel
theorem dX4_allDry_9 : decode cX4_allDry 9 = .ok (.if_icmp .ge 53, 3) := by decide +kernel
theorem dX4_allDry_12 : decode cX4_allDry 12 = .ok (.aload_n 0, 1) := by decide +kernel
theorem dX4_allDry_13 : decode cX4_allDry 13 = .ok (.iload_n 1, 1) := by decide +kernel
theorem dX4_allDry_14 : decode cX4_allDry 14 = .ok (.invokevirtual 62, 3) := by decide +kernel
theorem dX4_allDry_17 : decode cX4_allDry 17 = .ok (.ifCond .eq 39, 3) := by decide +kernel
theorem dX4_allDry_20 : decode cX4_allDry 20 = .ok (.aload_n 0, 1) := by decide +kernel
theorem dX4_allDry_21 : decode cX4_allDry 21 = .ok (.iload_n 1, 1) := by decide +kernel
theorem dX4_allDry_22 : decode cX4_allDry 22 = .ok (.iconst 4, 1) := by decide +kernel
theorem dX4_allDry_23 : decode cX4_allDry 23 = .ok (.aload_n 0, 1) := by decide +kernel
theorem dX4_allDry_24 : decode cX4_allDry 24 = .ok (.iload_n 1, 1) := by decide +kernel
theorem dX4_allDry_25 : decode cX4_allDry 25 = .ok (.iconst 4, 1) := by decide +kernel
theorem dX4_allDry_26 : decode cX4_allDry 26 = .ok (.invokevirtual 45, 3) := by decide +kernel
theorem dX4_allDry_29 : decode cX4_allDry 29 = .ok (.aload_n 0, 1) := by decide +kernel
theorem dX4_allDry_30 : decode cX4_allDry 30 = .ok (.iload_n 1, 1) := by decide +kernel
theorem dX4_allDry_31 : decode cX4_allDry 31 = .ok (.invokevirtual 97, 3) := by decide +kernel
theorem dX4_allDry_34 : decode cX4_allDry 34 = .ok (.isub, 1) := by decide +kernel
theorem dX4_allDry_35 : decode cX4_allDry 35 = .ok (.iconst 0, 1) := by decide +kernel
theorem dX4_allDry_36 : decode cX4_allDry 36 = .ok (.bipush 99, 2) := by decide +kernel
theorem dX4_allDry_38 : decode cX4_allDry 38 = .ok (.invokestatic 58, 3) := by decide +kernel
theorem dX4_allDry_41 : decode cX4_allDry 41 = .ok (.invokevirtual 82, 3) := by decide +kernel
theorem dX4_allDry_44 : decode cX4_allDry 44 = .ok (.aload_n 0, 1) := by decide +kernel
theorem dX4_allDry_45 : decode cX4_allDry 45 = .ok (.iload_n 1, 1) := by decide +kernel
theorem dX4_allDry_46 : decode cX4_allDry 46 = .ok (.iconst 1, 1) := by decide +kernel
theorem dX4_allDry_47 : decode cX4_allDry 47 = .ok (.aload_n 0, 1) := by decide +kernel
theorem dX4_allDry_48 : decode cX4_allDry 48 = .ok (.getfield 9, 3) := by decide +kernel
theorem dX4_allDry_51 : decode cX4_allDry 51 = .ok (.iconst 1, 1) := by decide +kernel
theorem dX4_allDry_52 : decode cX4_allDry 52 = .ok (.iaload, 1) := by decide +kernel
theorem dX4_allDry_53 : decode cX4_allDry 53 = .ok (.invokevirtual 82, 3) := by decide +kernel
theorem dX4_allDry_56 : decode cX4_allDry 56 = .ok (.iinc 1 1, 3) := by decide +kernel
theorem dX4_allDry_59 : decode cX4_allDry 59 = .ok (.goto (-57), 3) := by decide +kernel
theorem dX4_allDry_62 : decode cX4_allDry 62 = .ok (.return_, 1) := by decide +kernel
set_option maxRecDepth 20000 in
theorem ggX4_goes_X4_setOf : GoodIn wsX4_goes wsX4_setOf := goodIn_r _ [6, 1, 7, 8, 9, 5, 10, 73, 74, 75, 76, 77, 78, 79, 80, 81, 82, 83, 84, 85, 86, 87] (by decide +kernel) (by decide +kernel)
set_option maxRecDepth 20000 in
theorem gX4_goes_X4_setOf : GoodIn wsX4_goes (wsV RX4 49 RX4 yX4_setOf wsX4_setOf) := goodIn_app (goodIn_of _ (by decide +kernel)) ggX4_goes_X4_setOf
set_option maxRecDepth 20000 in
theorem ggX4_goes_X4_passes : GoodIn wsX4_goes wsX4_passes := goodIn_r _ [14, 15, 16, 17, 5, 18, 7, 8, 9, 10, 1, 19, 20, 21, 22, 23, 24, 25, 26, 2, 3, 4, 6, 27, 28, 29, 30, 31, 32, 33, 34, 35, 36, 37, 38, 39, 40, 41, 42, 43, 44, 45, 46, 47, 48, 49, 50, 51, 52, 53, 54, 55, 56, 57, 58, 59, 60, 61, 62, 63, 64, 73, 74, 75, 76, 77, 78, 79, 80, 81, 82, 83, 84, 85, 86, 87] (by decide +kernel) (by decide +kernel)
set_option maxRecDepth 20000 in
theorem gX4_goes_X4_passes : GoodIn wsX4_goes (wsV RX4 123 RX4 yX4_passes wsX4_passes) := goodIn_app (goodIn_of _ (by decide +kernel)) ggX4_goes_X4_passes
set_option maxRecDepth 20000 in
theorem ggX4_goes_X4_allDry : GoodIn wsX4_goes wsX4_allDry := goodIn_r _ [68, 1, 15, 16, 17, 5, 18, 7, 8, 9, 10, 69, 70, 71, 72, 58, 59, 60, 34, 35, 36, 37, 73, 74, 75, 76, 77, 78, 79, 80, 81, 82, 83, 84, 85, 86, 87] (by decide +kernel) (by decide +kernel)
set_option maxRecDepth 20000 in
theorem gX4_goes_X4_allDry : GoodIn wsX4_goes (wsV RX4 126 RX4 yX4_allDry wsX4_allDry) := goodIn_app (goodIn_of _ (by decide +kernel)) ggX4_goes_X4_allDry
theorem dX4_goes_0 : decode cX4_goes 0 = .ok (.aload_n 0, 1) := by decide +kernel
theorem dX4_goes_1 : decode cX4_goes 1 = .ok (.iconst 3, 1) := by decide +kernel
theorem dX4_goes_2 : decode cX4_goes 2 = .ok (.invokevirtual 49, 3) := by decide +kernel
theorem dX4_goes_5 : decode cX4_goes 5 = .ok (.istore_n 1, 1) := by decide +kernel
theorem dX4_goes_6 : decode cX4_goes 6 = .ok (.iconst 0, 1) := by decide +kernel
theorem dX4_goes_7 : decode cX4_goes 7 = .ok (.istore_n 2, 1) := by decide +kernel
theorem dX4_goes_8 : decode cX4_goes 8 = .ok (.iload_n 2, 1) := by decide +kernel
theorem dX4_goes_9 : decode cX4_goes 9 = .ok (.aload_n 0, 1) := by decide +kernel
theorem dX4_goes_10 : decode cX4_goes 10 = .ok (.getfield 9, 3) := by decide +kernel
theorem dX4_goes_13 : decode cX4_goes 13 = .ok (.iconst 2, 1) := by decide +kernel
theorem dX4_goes_14 : decode cX4_goes 14 = .ok (.iaload, 1) := by decide +kernel
theorem dX4_goes_15 : decode cX4_goes 15 = .ok (.if_icmp .ge 56, 3) := by decide +kernel
theorem dX4_goes_18 : decode cX4_goes 18 = .ok (.aload_n 0, 1) := by decide +kernel
theorem dX4_goes_19 : decode cX4_goes 19 = .ok (.getfield 9, 3) := by decide +kernel
theorem dX4_goes_22 : decode cX4_goes 22 = .ok (.iconst 1, 1) := by decide +kernel
theorem dX4_goes_23 : decode cX4_goes 23 = .ok (.aload_n 0, 1) := by decide +kernel
theorem dX4_goes_24 : decode cX4_goes 24 = .ok (.getfield 9, 3) := by decide +kernel
theorem dX4_goes_27 : decode cX4_goes 27 = .ok (.iconst 1, 1) := by decide +kernel
theorem dX4_goes_28 : decode cX4_goes 28 = .ok (.iaload, 1) := by decide +kernel
theorem dX4_goes_29 : decode cX4_goes 29 = .ok (.iconst 1, 1) := by decide +kernel
theorem dX4_goes_30 : decode cX4_goes 30 = .ok (.iadd, 1) := by decide +kernel
theorem dX4_goes_31 : decode cX4_goes 31 = .ok (.bipush 60, 2) := by decide +kernel
theorem dX4_goes_33 : decode cX4_goes 33 = .ok (.irem, 1) := by decide +kernel
theorem dX4_goes_34 : decode cX4_goes 34 = .ok (.iastore, 1) := by decide +kernel
theorem dX4_goes_35 : decode cX4_goes 35 = .ok (.iconst 0, 1) := by decide +kernel
theorem dX4_goes_36 : decode cX4_goes 36 = .ok (.istore_n 3, 1) := by decide +kernel
theorem dX4_goes_37 : decode cX4_goes 37 = .ok (.iload_n 3, 1) := by decide +kernel
theorem dX4_goes_38 : decode cX4_goes 38 = .ok (.aload_n 0, 1) := by decide +kernel
theorem dX4_goes_39 : decode cX4_goes 39 = .ok (.getfield 9, 3) := by decide +kernel
theorem dX4_goes_42 : decode cX4_goes 42 = .ok (.iconst 4, 1) := by decide +kernel
theorem dX4_goes_43 : decode cX4_goes 43 = .ok (.iaload, 1) := by decide +kernel
theorem dX4_goes_44 : decode cX4_goes 44 = .ok (.if_icmp .ge 21, 3) := by decide +kernel
theorem dX4_goes_47 : decode cX4_goes 47 = .ok (.aload_n 0, 1) := by decide +kernel
theorem dX4_goes_48 : decode cX4_goes 48 = .ok (.iload_n 3, 1) := by decide +kernel
theorem dX4_goes_49 : decode cX4_goes 49 = .ok (.aload_n 0, 1) := by decide +kernel
theorem dX4_goes_50 : decode cX4_goes 50 = .ok (.getfield 9, 3) := by decide +kernel
theorem dX4_goes_53 : decode cX4_goes 53 = .ok (.iconst 1, 1) := by decide +kernel
theorem dX4_goes_54 : decode cX4_goes 54 = .ok (.iaload, 1) := by decide +kernel
theorem dX4_goes_55 : decode cX4_goes 55 = .ok (.iload_n 1, 1) := by decide +kernel
theorem dX4_goes_56 : decode cX4_goes 56 = .ok (.invokevirtual 123, 3) := by decide +kernel
theorem dX4_goes_59 : decode cX4_goes 59 = .ok (.iinc 3 1, 3) := by decide +kernel
theorem dX4_goes_62 : decode cX4_goes 62 = .ok (.goto (-25), 3) := by decide +kernel
theorem dX4_goes_65 : decode cX4_goes 65 = .ok (.iinc 2 1, 3) := by decide +kernel
theorem dX4_goes_68 : decode cX4_goes 68 = .ok (.goto (-60), 3) := by decide +kernel
theorem dX4_goes_71 : decode cX4_goes 71 = .ok (.aload_n 0, 1) := by decide +kernel
theorem dX4_goes_72 : decode cX4_goes 72 = .ok (.invokevirtual 126, 3) := by decide +kernel
theorem dX4_goes_75 : decode cX4_goes 75 = .ok (.aload_n 0, 1) := by decide +kernel
theorem dX4_goes_76 : decode cX4_goes 76 = .ok (.getfield 9, 3) := by decide +kernel
theorem dX4_goes_79 : decode cX4_goes 79 = .ok (.iconst 0, 1) := by decide +kernel
theorem dX4_goes_80 : decode cX4_goes 80 = .ok (.dup2, 1) := by decide +kernel
theorem dX4_goes_81 : decode cX4_goes 81 = .ok (.iaload, 1) := by decide +kernel
theorem dX4_goes_82 : decode cX4_goes 82 = .ok (.iconst 1, 1) := by decide +kernel
theorem dX4_goes_83 : decode cX4_goes 83 = .ok (.iadd, 1) := by decide +kernel
theorem dX4_goes_84 : decode cX4_goes 84 = .ok (.iastore, 1) := by decide +kernel
theorem dX4_goes_85 : decode cX4_goes 85 = .ok (.return_, 1) := by decide +kernel
set_option maxRecDepth 20000 in
theorem ggX4_goesFor_X4_goes : GoodIn wsX4_goesFor wsX4_goes := goodIn_r _ [5, 6, 7, 8, 9, 4, 10, 11, 12, 13, 14, 15, 16, 17, 18, 19, 20, 21, 22, 23, 24, 25, 26, 27, 28, 29, 30, 31, 32, 33, 34, 35, 36, 37, 38, 39, 40, 41, 42, 43, 44, 45, 46, 47, 48, 49, 50, 51, 52, 53, 54, 55, 56, 57, 58, 59, 60, 61, 62, 63, 64, 65, 66, 67, 68, 69, 70, 71, 72, 73, 74, 75, 76, 77, 78, 79, 80, 81, 82, 83, 84, 85, 86, 87, 88, 89, 90, 91] (by decide +kernel) (by decide +kernel)
set_option maxRecDepth 20000 in
theorem gX4_goesFor_X4_goes : GoodIn wsX4_goesFor (wsV RX4 129 RX4 yX4_goes wsX4_goes) := goodIn_app (goodIn_of _ (by decide +kernel)) ggX4_goesFor_X4_goes
theorem dX4_goesFor_0 : decode cX4_goesFor 0 = .ok (.iconst 0, 1) := by decide +kernel
theorem dX4_goesFor_1 : decode cX4_goesFor 1 = .ok (.istore_n 2, 1) := by decide +kernel
theorem dX4_goesFor_2 : decode cX4_goesFor 2 = .ok (.iload_n 2, 1) := by decide +kernel
theorem dX4_goesFor_3 : decode cX4_goesFor 3 = .ok (.iload_n 1, 1) := by decide +kernel
theorem dX4_goesFor_4 : decode cX4_goesFor 4 = .ok (.if_icmp .ge 13, 3) := by decide +kernel
theorem dX4_goesFor_7 : decode cX4_goesFor 7 = .ok (.aload_n 0, 1) := by decide +kernel
theorem dX4_goesFor_8 : decode cX4_goesFor 8 = .ok (.invokevirtual 129, 3) := by decide +kernel
theorem dX4_goesFor_11 : decode cX4_goesFor 11 = .ok (.iinc 2 1, 3) := by decide +kernel
theorem dX4_goesFor_14 : decode cX4_goesFor 14 = .ok (.goto (-12), 3) := by decide +kernel
theorem dX4_goesFor_17 : decode cX4_goesFor 17 = .ok (.return_, 1) := by decide +kernel
set_option maxRecDepth 20000 in
theorem ggX4_seconds_X4_in : GoodIn wsX4_seconds wsX4_in := goodIn_r _ [8] (by decide +kernel) (by decide +kernel)
set_option maxRecDepth 20000 in
theorem gX4_seconds_X4_in : GoodIn wsX4_seconds (va_wsS RX4 41 yX4_in wsX4_in) := goodIn_app (goodIn_of _ (by decide +kernel)) ggX4_seconds_X4_in
set_option maxRecDepth 20000 in
theorem ggX4_seconds_X4_finds : GoodIn wsX4_seconds wsX4_finds := goodIn_r _ [12, 13, 1, 92, 93, 94, 95, 96, 97, 98, 99, 100, 101, 102, 103, 104, 105, 106] (by decide +kernel) (by decide +kernel)
set_option maxRecDepth 20000 in
theorem gX4_seconds_X4_finds : GoodIn wsX4_seconds (wsV RX4 37 RX4 yX4_finds wsX4_finds) := goodIn_app (goodIn_of _ (by decide +kernel)) ggX4_seconds_X4_finds
set_option maxRecDepth 20000 in
theorem ggX4_seconds_X4_goesFor : GoodIn wsX4_seconds wsX4_goesFor := goodIn_r _ [17, 18, 19, 20, 7, 21, 2, 22, 23, 24, 25, 26, 27, 28, 29, 30, 31, 32, 33, 34, 35, 36, 37, 38, 39, 40, 41, 42, 43, 44, 45, 46, 47, 48, 49, 50, 51, 52, 53, 54, 55, 56, 57, 58, 59, 60, 61, 62, 63, 64, 65, 66, 67, 68, 69, 70, 71, 72, 73, 74, 75, 76, 77, 78, 79, 80, 81, 82, 83, 84, 85, 86, 87, 88, 89, 90, 91, 92, 93, 94, 95, 96, 97, 98, 99, 100, 101, 102, 103, 104, 105, 106] (by decide +kernel) (by decide +kernel)
set_option maxRecDepth 20000 in
theorem gX4_seconds_X4_goesFor : GoodIn wsX4_seconds (wsV RX4 133 RX4 yX4_goesFor wsX4_goesFor) := goodIn_app (goodIn_of _ (by decide +kernel)) ggX4_seconds_X4_goesFor
set_option maxRecDepth 20000 in
theorem ggX4_seconds_X4_setOf : GoodIn wsX4_seconds wsX4_setOf := goodIn_r _ [25, 2, 26, 27, 28, 7, 29, 92, 93, 94, 95, 96, 97, 98, 99, 100, 101, 102, 103, 104, 105, 106] (by decide +kernel) (by decide +kernel)
set_option maxRecDepth 20000 in
theorem gX4_seconds_X4_setOf : GoodIn wsX4_seconds (wsV RX4 49 RX4 yX4_setOf wsX4_setOf) := goodIn_app (goodIn_of _ (by decide +kernel)) ggX4_seconds_X4_setOf
theorem dX4_seconds_0 : decode cX4_seconds 0 = .ok (.iload_n 1, 1) := by decide +kernel
theorem dX4_seconds_1 : decode cX4_seconds 1 = .ok (.i2l, 1) := by decide +kernel
theorem dX4_seconds_2 : decode cX4_seconds 2 = .ok (.iconst 1, 1) := by decide +kernel
theorem dX4_seconds_3 : decode cX4_seconds 3 = .ok (.sipush 200, 3) := by decide +kernel
theorem dX4_seconds_6 : decode cX4_seconds 6 = .ok (.invokestatic 41, 3) := by decide +kernel
theorem dX4_seconds_9 : decode cX4_seconds 9 = .ok (.ifCond .ne 10, 3) := by decide +kernel
theorem dX4_seconds_12 : decode cX4_seconds 12 = .ok (.aload_n 0, 1) := by decide +kernel
theorem dX4_seconds_13 : decode cX4_seconds 13 = .ok (.ldc 35, 2) := by decide +kernel
theorem dX4_seconds_15 : decode cX4_seconds 15 = .ok (.invokevirtual 37, 3) := by decide +kernel
theorem dX4_seconds_18 : decode cX4_seconds 18 = .ok (.ireturn, 1) := by decide +kernel
theorem dX4_seconds_19 : decode cX4_seconds 19 = .ok (.aload_n 0, 1) := by decide +kernel
theorem dX4_seconds_20 : decode cX4_seconds 20 = .ok (.getfield 9, 3) := by decide +kernel
theorem dX4_seconds_23 : decode cX4_seconds 23 = .ok (.iconst 0, 1) := by decide +kernel
theorem dX4_seconds_24 : decode cX4_seconds 24 = .ok (.iaload, 1) := by decide +kernel
theorem dX4_seconds_25 : decode cX4_seconds 25 = .ok (.iload_n 1, 1) := by decide +kernel
theorem dX4_seconds_26 : decode cX4_seconds 26 = .ok (.iadd, 1) := by decide +kernel
theorem dX4_seconds_27 : decode cX4_seconds 27 = .ok (.ldc 132, 2) := by decide +kernel
theorem dX4_seconds_29 : decode cX4_seconds 29 = .ok (.if_icmp .le 10, 3) := by decide +kernel
theorem dX4_seconds_32 : decode cX4_seconds 32 = .ok (.aload_n 0, 1) := by decide +kernel
theorem dX4_seconds_33 : decode cX4_seconds 33 = .ok (.ldc 103, 2) := by decide +kernel
theorem dX4_seconds_35 : decode cX4_seconds 35 = .ok (.invokevirtual 37, 3) := by decide +kernel
theorem dX4_seconds_38 : decode cX4_seconds 38 = .ok (.ireturn, 1) := by decide +kernel
theorem dX4_seconds_39 : decode cX4_seconds 39 = .ok (.aload_n 0, 1) := by decide +kernel
theorem dX4_seconds_40 : decode cX4_seconds 40 = .ok (.iload_n 1, 1) := by decide +kernel
theorem dX4_seconds_41 : decode cX4_seconds 41 = .ok (.invokevirtual 133, 3) := by decide +kernel
theorem dX4_seconds_44 : decode cX4_seconds 44 = .ok (.aload_n 0, 1) := by decide +kernel
theorem dX4_seconds_45 : decode cX4_seconds 45 = .ok (.iconst 3, 1) := by decide +kernel
theorem dX4_seconds_46 : decode cX4_seconds 46 = .ok (.invokevirtual 49, 3) := by decide +kernel
theorem dX4_seconds_49 : decode cX4_seconds 49 = .ok (.ireturn, 1) := by decide +kernel
set_option maxRecDepth 20000 in
theorem ggX4_thinks_X4_copyAll : GoodIn wsX4_thinks wsX4_copyAll := goodIn_r _ [6] (by decide +kernel) (by decide +kernel)
set_option maxRecDepth 20000 in
theorem gX4_thinks_X4_copyAll : GoodIn wsX4_thinks (va_wsS RX4 136 yX4_copyAll wsX4_copyAll) := goodIn_app (goodIn_of _ (by decide +kernel)) ggX4_thinks_X4_copyAll
theorem dX4_thinks_0 : decode cX4_thinks 0 = .ok (.aload_n 0, 1) := by decide +kernel
theorem dX4_thinks_1 : decode cX4_thinks 1 = .ok (.getfield 9, 3) := by decide +kernel
theorem dX4_thinks_4 : decode cX4_thinks 4 = .ok (.aload_n 0, 1) := by decide +kernel
theorem dX4_thinks_5 : decode cX4_thinks 5 = .ok (.getfield 16, 3) := by decide +kernel
theorem dX4_thinks_8 : decode cX4_thinks 8 = .ok (.invokestatic 136, 3) := by decide +kernel
theorem dX4_thinks_11 : decode cX4_thinks 11 = .ok (.return_, 1) := by decide +kernel
set_option maxRecDepth 20000 in
theorem ggX4_putsBack_X4_copyAll : GoodIn wsX4_putsBack wsX4_copyAll := goodIn_r _ [6] (by decide +kernel) (by decide +kernel)
set_option maxRecDepth 20000 in
theorem gX4_putsBack_X4_copyAll : GoodIn wsX4_putsBack (va_wsS RX4 136 yX4_copyAll wsX4_copyAll) := goodIn_app (goodIn_of _ (by decide +kernel)) ggX4_putsBack_X4_copyAll
theorem dX4_putsBack_0 : decode cX4_putsBack 0 = .ok (.aload_n 0, 1) := by decide +kernel
theorem dX4_putsBack_1 : decode cX4_putsBack 1 = .ok (.getfield 16, 3) := by decide +kernel
theorem dX4_putsBack_4 : decode cX4_putsBack 4 = .ok (.aload_n 0, 1) := by decide +kernel
theorem dX4_putsBack_5 : decode cX4_putsBack 5 = .ok (.getfield 9, 3) := by decide +kernel
theorem dX4_putsBack_8 : decode cX4_putsBack 8 = .ok (.invokestatic 136, 3) := by decide +kernel
theorem dX4_putsBack_11 : decode cX4_putsBack 11 = .ok (.return_, 1) := by decide +kernel
set_option maxRecDepth 20000 in
theorem ggX4_on_X4_isThing : GoodIn wsX4_on wsX4_isThing := goodIn_r _ [6, 7, 8, 9, 5, 10, 106, 107, 108, 109, 110, 111, 112, 113, 114, 115, 116, 117, 118, 119, 120] (by decide +kernel) (by decide +kernel)
set_option maxRecDepth 20000 in
theorem gX4_on_X4_isThing : GoodIn wsX4_on (wsV RX4 94 RX4 yX4_isThing wsX4_isThing) := goodIn_app (goodIn_of _ (by decide +kernel)) ggX4_on_X4_isThing
set_option maxRecDepth 20000 in
theorem ggX4_on_X4_in : GoodIn wsX4_on wsX4_in := goodIn_r _ [10] (by decide +kernel) (by decide +kernel)
set_option maxRecDepth 20000 in
theorem gX4_on_X4_in : GoodIn wsX4_on (va_wsS RX4 41 yX4_in wsX4_in) := goodIn_app (goodIn_of _ (by decide +kernel)) ggX4_on_X4_in
set_option maxRecDepth 20000 in
theorem ggX4_on_X4_finds : GoodIn wsX4_on wsX4_finds := goodIn_r _ [14, 15, 1, 106, 107, 108, 109, 110, 111, 112, 113, 114, 115, 116, 117, 118, 119, 120] (by decide +kernel) (by decide +kernel)
set_option maxRecDepth 20000 in
theorem gX4_on_X4_finds : GoodIn wsX4_on (wsV RX4 37 RX4 yX4_finds wsX4_finds) := goodIn_app (goodIn_of _ (by decide +kernel)) ggX4_on_X4_finds
set_option maxRecDepth 20000 in
theorem ggX4_on_X4_thinks : GoodIn wsX4_on wsX4_thinks := goodIn_r _ [19, 7, 20, 21, 22, 5, 23, 106, 107, 108, 109, 110, 111, 112, 113, 114, 115, 116, 117, 118, 119, 120] (by decide +kernel) (by decide +kernel)
set_option maxRecDepth 20000 in
theorem gX4_on_X4_thinks : GoodIn wsX4_on (wsV RX4 140 RX4 yX4_thinks wsX4_thinks) := goodIn_app (goodIn_of _ (by decide +kernel)) ggX4_on_X4_thinks
set_option maxRecDepth 20000 in
theorem ggX4_on_X4_goesFor : GoodIn wsX4_on wsX4_goesFor := goodIn_r _ [27, 28, 29, 30, 5, 31, 7, 32, 33, 34, 35, 36, 37, 38, 39, 40, 41, 42, 43, 44, 45, 46, 47, 48, 49, 50, 51, 52, 53, 54, 55, 56, 57, 58, 59, 60, 61, 62, 63, 64, 65, 66, 67, 68, 69, 70, 71, 72, 73, 74, 75, 76, 77, 78, 79, 80, 81, 82, 83, 84, 85, 86, 87, 88, 89, 90, 91, 92, 93, 94, 95, 96, 97, 98, 99, 100, 101, 106, 107, 108, 109, 110, 111, 112, 113, 114, 115, 116, 117, 118, 119, 120] (by decide +kernel) (by decide +kernel)
set_option maxRecDepth 20000 in
theorem gX4_on_X4_goesFor : GoodIn wsX4_on (wsV RX4 133 RX4 yX4_goesFor wsX4_goesFor) := goodIn_app (goodIn_of _ (by decide +kernel)) ggX4_on_X4_goesFor
set_option maxRecDepth 20000 in
theorem ggX4_on_X4_it : GoodIn wsX4_on wsX4_it := goodIn_r _ [39, 7, 106, 107, 108, 109, 110, 111, 112, 113, 114, 115, 116, 117, 118, 119, 120] (by decide +kernel) (by decide +kernel)
set_option maxRecDepth 20000 in
theorem gX4_on_X4_it : GoodIn wsX4_on (wsV RX4 45 RX4 yX4_it wsX4_it) := goodIn_app (goodIn_of _ (by decide +kernel)) ggX4_on_X4_it
set_option maxRecDepth 20000 in
theorem ggX4_on_X4_putsBack : GoodIn wsX4_on wsX4_putsBack := goodIn_r _ [105, 20, 7, 21, 22, 5, 23, 106, 107, 108, 109, 110, 111, 112, 113, 114, 115, 116, 117, 118, 119, 120] (by decide +kernel) (by decide +kernel)
set_option maxRecDepth 20000 in
theorem gX4_on_X4_putsBack : GoodIn wsX4_on (wsV RX4 143 RX4 yX4_putsBack wsX4_putsBack) := goodIn_app (goodIn_of _ (by decide +kernel)) ggX4_on_X4_putsBack
theorem dX4_on_0 : decode cX4_on 0 = .ok (.aload_n 0, 1) := by decide +kernel
theorem dX4_on_1 : decode cX4_on 1 = .ok (.iload_n 1, 1) := by decide +kernel
theorem dX4_on_2 : decode cX4_on 2 = .ok (.invokevirtual 94, 3) := by decide +kernel
theorem dX4_on_5 : decode cX4_on 5 = .ok (.ifCond .eq 25, 3) := by decide +kernel
theorem dX4_on_8 : decode cX4_on 8 = .ok (.iload_n 2, 1) := by decide +kernel
theorem dX4_on_9 : decode cX4_on 9 = .ok (.i2l, 1) := by decide +kernel
theorem dX4_on_10 : decode cX4_on 10 = .ok (.iconst 0, 1) := by decide +kernel
theorem dX4_on_11 : decode cX4_on 11 = .ok (.sipush 400, 3) := by decide +kernel
theorem dX4_on_14 : decode cX4_on 14 = .ok (.invokestatic 41, 3) := by decide +kernel
theorem dX4_on_17 : decode cX4_on 17 = .ok (.ifCond .eq 13, 3) := by decide +kernel
theorem dX4_on_20 : decode cX4_on 20 = .ok (.iload_n 3, 1) := by decide +kernel
theorem dX4_on_21 : decode cX4_on 21 = .ok (.i2l, 1) := by decide +kernel
theorem dX4_on_22 : decode cX4_on 22 = .ok (.iconst 0, 1) := by decide +kernel
theorem dX4_on_23 : decode cX4_on 23 = .ok (.iconst 4, 1) := by decide +kernel
theorem dX4_on_24 : decode cX4_on 24 = .ok (.invokestatic 41, 3) := by decide +kernel
theorem dX4_on_27 : decode cX4_on 27 = .ok (.ifCond .ne 10, 3) := by decide +kernel
theorem dX4_on_30 : decode cX4_on 30 = .ok (.aload_n 0, 1) := by decide +kernel
theorem dX4_on_31 : decode cX4_on 31 = .ok (.ldc 35, 2) := by decide +kernel
theorem dX4_on_33 : decode cX4_on 33 = .ok (.invokevirtual 37, 3) := by decide +kernel
theorem dX4_on_36 : decode cX4_on 36 = .ok (.ireturn, 1) := by decide +kernel
theorem dX4_on_37 : decode cX4_on 37 = .ok (.aload_n 0, 1) := by decide +kernel
theorem dX4_on_38 : decode cX4_on 38 = .ok (.invokevirtual 140, 3) := by decide +kernel
theorem dX4_on_41 : decode cX4_on 41 = .ok (.aload_n 0, 1) := by decide +kernel
theorem dX4_on_42 : decode cX4_on 42 = .ok (.iload_n 2, 1) := by decide +kernel
theorem dX4_on_43 : decode cX4_on 43 = .ok (.invokevirtual 133, 3) := by decide +kernel
theorem dX4_on_46 : decode cX4_on 46 = .ok (.aload_n 0, 1) := by decide +kernel
theorem dX4_on_47 : decode cX4_on 47 = .ok (.iload_n 1, 1) := by decide +kernel
theorem dX4_on_48 : decode cX4_on 48 = .ok (.iload_n 3, 1) := by decide +kernel
theorem dX4_on_49 : decode cX4_on 49 = .ok (.ifCond .ne 7, 3) := by decide +kernel
theorem dX4_on_52 : decode cX4_on 52 = .ok (.iconst 1, 1) := by decide +kernel
theorem dX4_on_53 : decode cX4_on 53 = .ok (.goto 33, 3) := by decide +kernel
theorem dX4_on_56 : decode cX4_on 56 = .ok (.iload_n 3, 1) := by decide +kernel
theorem dX4_on_57 : decode cX4_on 57 = .ok (.iconst 1, 1) := by decide +kernel
theorem dX4_on_58 : decode cX4_on 58 = .ok (.if_icmp .ne 7, 3) := by decide +kernel
theorem dX4_on_61 : decode cX4_on 61 = .ok (.iconst 3, 1) := by decide +kernel
theorem dX4_on_62 : decode cX4_on 62 = .ok (.goto 24, 3) := by decide +kernel
theorem dX4_on_65 : decode cX4_on 65 = .ok (.iload_n 3, 1) := by decide +kernel
theorem dX4_on_66 : decode cX4_on 66 = .ok (.iconst 2, 1) := by decide +kernel
theorem dX4_on_67 : decode cX4_on 67 = .ok (.if_icmp .ne 7, 3) := by decide +kernel
theorem dX4_on_70 : decode cX4_on 70 = .ok (.iconst 4, 1) := by decide +kernel
theorem dX4_on_71 : decode cX4_on 71 = .ok (.goto 15, 3) := by decide +kernel
theorem dX4_on_74 : decode cX4_on 74 = .ok (.iload_n 3, 1) := by decide +kernel
theorem dX4_on_75 : decode cX4_on 75 = .ok (.iconst 3, 1) := by decide +kernel
theorem dX4_on_76 : decode cX4_on 76 = .ok (.if_icmp .ne 8, 3) := by decide +kernel
theorem dX4_on_79 : decode cX4_on 79 = .ok (.bipush 6, 2) := by decide +kernel
theorem dX4_on_81 : decode cX4_on 81 = .ok (.goto 5, 3) := by decide +kernel
theorem dX4_on_84 : decode cX4_on 84 = .ok (.bipush 7, 2) := by decide +kernel
theorem dX4_on_86 : decode cX4_on 86 = .ok (.invokevirtual 45, 3) := by decide +kernel
theorem dX4_on_89 : decode cX4_on 89 = .ok (.istore 4, 2) := by decide +kernel
theorem dX4_on_91 : decode cX4_on 91 = .ok (.aload_n 0, 1) := by decide +kernel
theorem dX4_on_92 : decode cX4_on 92 = .ok (.invokevirtual 143, 3) := by decide +kernel
theorem dX4_on_95 : decode cX4_on 95 = .ok (.iload 4, 2) := by decide +kernel
theorem dX4_on_97 : decode cX4_on 97 = .ok (.ireturn, 1) := by decide +kernel
set_option maxRecDepth 20000 in
theorem ggX4_then_X4_in : GoodIn wsX4_then wsX4_in := goodIn_r _ [5] (by decide +kernel) (by decide +kernel)
set_option maxRecDepth 20000 in
theorem gX4_then_X4_in : GoodIn wsX4_then (va_wsS RX4 41 yX4_in wsX4_in) := goodIn_app (goodIn_of _ (by decide +kernel)) ggX4_then_X4_in
set_option maxRecDepth 20000 in
theorem ggX4_then_X4_finds : GoodIn wsX4_then wsX4_finds := goodIn_r _ [9, 10, 1, 102, 103, 104, 105, 106, 107, 108, 109, 110, 111, 112, 113, 114, 115, 116] (by decide +kernel) (by decide +kernel)
set_option maxRecDepth 20000 in
theorem gX4_then_X4_finds : GoodIn wsX4_then (wsV RX4 37 RX4 yX4_finds wsX4_finds) := goodIn_app (goodIn_of _ (by decide +kernel)) ggX4_then_X4_finds
set_option maxRecDepth 20000 in
theorem ggX4_then_X4_thinks : GoodIn wsX4_then wsX4_thinks := goodIn_r _ [14, 15, 16, 17, 18, 4, 19, 102, 103, 104, 105, 106, 107, 108, 109, 110, 111, 112, 113, 114, 115, 116] (by decide +kernel) (by decide +kernel)
set_option maxRecDepth 20000 in
theorem gX4_then_X4_thinks : GoodIn wsX4_then (wsV RX4 140 RX4 yX4_thinks wsX4_thinks) := goodIn_app (goodIn_of _ (by decide +kernel)) ggX4_then_X4_thinks
set_option maxRecDepth 20000 in
theorem ggX4_then_X4_goesFor : GoodIn wsX4_then wsX4_goesFor := goodIn_r _ [23, 24, 25, 26, 4, 27, 15, 28, 29, 30, 31, 32, 33, 34, 35, 36, 37, 38, 39, 40, 41, 42, 43, 44, 45, 46, 47, 48, 49, 50, 51, 52, 53, 54, 55, 56, 57, 58, 59, 60, 61, 62, 63, 64, 65, 66, 67, 68, 69, 70, 71, 72, 73, 74, 75, 76, 77, 78, 79, 80, 81, 82, 83, 84, 85, 86, 87, 88, 89, 90, 91, 92, 93, 94, 95, 96, 97, 102, 103, 104, 105, 106, 107, 108, 109, 110, 111, 112, 113, 114, 115, 116] (by decide +kernel) (by decide +kernel)
set_option maxRecDepth 20000 in
theorem gX4_then_X4_goesFor : GoodIn wsX4_then (wsV RX4 133 RX4 yX4_goesFor wsX4_goesFor) := goodIn_app (goodIn_of _ (by decide +kernel)) ggX4_then_X4_goesFor
set_option maxRecDepth 20000 in
theorem ggX4_then_X4_setOf : GoodIn wsX4_then wsX4_setOf := goodIn_r _ [31, 15, 32, 33, 34, 4, 35, 102, 103, 104, 105, 106, 107, 108, 109, 110, 111, 112, 113, 114, 115, 116] (by decide +kernel) (by decide +kernel)
set_option maxRecDepth 20000 in
theorem gX4_then_X4_setOf : GoodIn wsX4_then (wsV RX4 49 RX4 yX4_setOf wsX4_setOf) := goodIn_app (goodIn_of _ (by decide +kernel)) ggX4_then_X4_setOf
set_option maxRecDepth 20000 in
theorem ggX4_then_X4_bits : GoodIn wsX4_then wsX4_bits := goodIn_r _ [54] (by decide +kernel) (by decide +kernel)
set_option maxRecDepth 20000 in
theorem gX4_then_X4_bits : GoodIn wsX4_then (va_wsS RX4 52 yX4_bits wsX4_bits) := goodIn_app (goodIn_of _ (by decide +kernel)) ggX4_then_X4_bits
set_option maxRecDepth 20000 in
theorem ggX4_then_X4_putsBack : GoodIn wsX4_then wsX4_putsBack := goodIn_r _ [101, 16, 15, 17, 18, 4, 19, 102, 103, 104, 105, 106, 107, 108, 109, 110, 111, 112, 113, 114, 115, 116] (by decide +kernel) (by decide +kernel)
set_option maxRecDepth 20000 in
theorem gX4_then_X4_putsBack : GoodIn wsX4_then (wsV RX4 143 RX4 yX4_putsBack wsX4_putsBack) := goodIn_app (goodIn_of _ (by decide +kernel)) ggX4_then_X4_putsBack
theorem dX4_then_0 : decode cX4_then 0 = .ok (.iload_n 1, 1) := by decide +kernel
theorem dX4_then_1 : decode cX4_then 1 = .ok (.i2l, 1) := by decide +kernel
theorem dX4_then_2 : decode cX4_then 2 = .ok (.iconst 0, 1) := by decide +kernel
theorem dX4_then_3 : decode cX4_then 3 = .ok (.sipush 400, 3) := by decide +kernel
theorem dX4_then_6 : decode cX4_then 6 = .ok (.invokestatic 41, 3) := by decide +kernel
theorem dX4_then_9 : decode cX4_then 9 = .ok (.ifCond .eq 13, 3) := by decide +kernel
theorem dX4_then_12 : decode cX4_then 12 = .ok (.iload_n 2, 1) := by decide +kernel
theorem dX4_then_13 : decode cX4_then 13 = .ok (.i2l, 1) := by decide +kernel
theorem dX4_then_14 : decode cX4_then 14 = .ok (.iconst 0, 1) := by decide +kernel
theorem dX4_then_15 : decode cX4_then 15 = .ok (.iconst 1, 1) := by decide +kernel
theorem dX4_then_16 : decode cX4_then 16 = .ok (.invokestatic 41, 3) := by decide +kernel
theorem dX4_then_19 : decode cX4_then 19 = .ok (.ifCond .ne 10, 3) := by decide +kernel
theorem dX4_then_22 : decode cX4_then 22 = .ok (.aload_n 0, 1) := by decide +kernel
theorem dX4_then_23 : decode cX4_then 23 = .ok (.ldc 35, 2) := by decide +kernel
theorem dX4_then_25 : decode cX4_then 25 = .ok (.invokevirtual 37, 3) := by decide +kernel
theorem dX4_then_28 : decode cX4_then 28 = .ok (.ireturn, 1) := by decide +kernel
theorem dX4_then_29 : decode cX4_then 29 = .ok (.aload_n 0, 1) := by decide +kernel
theorem dX4_then_30 : decode cX4_then 30 = .ok (.invokevirtual 140, 3) := by decide +kernel
theorem dX4_then_33 : decode cX4_then 33 = .ok (.aload_n 0, 1) := by decide +kernel
theorem dX4_then_34 : decode cX4_then 34 = .ok (.iload_n 1, 1) := by decide +kernel
theorem dX4_then_35 : decode cX4_then 35 = .ok (.invokevirtual 133, 3) := by decide +kernel
theorem dX4_then_38 : decode cX4_then 38 = .ok (.aload_n 0, 1) := by decide +kernel
theorem dX4_then_39 : decode cX4_then 39 = .ok (.iload_n 2, 1) := by decide +kernel
theorem dX4_then_40 : decode cX4_then 40 = .ok (.ifCond .ne 7, 3) := by decide +kernel
theorem dX4_then_43 : decode cX4_then 43 = .ok (.iconst 3, 1) := by decide +kernel
theorem dX4_then_44 : decode cX4_then 44 = .ok (.goto 5, 3) := by decide +kernel
theorem dX4_then_47 : decode cX4_then 47 = .ok (.bipush 6, 2) := by decide +kernel
theorem dX4_then_49 : decode cX4_then 49 = .ok (.invokevirtual 49, 3) := by decide +kernel
theorem dX4_then_52 : decode cX4_then 52 = .ok (.invokestatic 52, 3) := by decide +kernel
theorem dX4_then_55 : decode cX4_then 55 = .ok (.istore_n 3, 1) := by decide +kernel
theorem dX4_then_56 : decode cX4_then 56 = .ok (.aload_n 0, 1) := by decide +kernel
theorem dX4_then_57 : decode cX4_then 57 = .ok (.invokevirtual 143, 3) := by decide +kernel
theorem dX4_then_60 : decode cX4_then 60 = .ok (.iload_n 3, 1) := by decide +kernel
theorem dX4_then_61 : decode cX4_then 61 = .ok (.ireturn, 1) := by decide +kernel
set_option maxRecDepth 20000 in
theorem ggX4_soIn_X4_it : GoodIn wsX4_soIn wsX4_it := goodIn_r _ [5, 6, 85, 86, 87, 88, 89, 90, 91, 92, 93, 94, 95, 96, 97, 98, 99] (by decide +kernel) (by decide +kernel)
set_option maxRecDepth 20000 in
theorem gX4_soIn_X4_it : GoodIn wsX4_soIn (wsV RX4 45 RX4 yX4_it wsX4_it) := goodIn_app (goodIn_of _ (by decide +kernel)) ggX4_soIn_X4_it
set_option maxRecDepth 20000 in
theorem ggX4_soIn_X4_goes : GoodIn wsX4_soIn wsX4_goes := goodIn_r _ [10, 6, 11, 12, 13, 4, 14, 1, 2, 3, 5, 15, 16, 17, 18, 19, 20, 21, 22, 23, 24, 25, 26, 27, 28, 29, 30, 31, 32, 33, 34, 35, 36, 37, 38, 39, 40, 41, 42, 43, 44, 45, 46, 47, 48, 49, 50, 51, 52, 53, 54, 55, 56, 57, 58, 59, 60, 61, 62, 63, 64, 65, 66, 67, 68, 69, 70, 71, 72, 73, 74, 75, 76, 85, 86, 87, 88, 89, 90, 91, 92, 93, 94, 95, 96, 97, 98, 99] (by decide +kernel) (by decide +kernel)
set_option maxRecDepth 20000 in
theorem gX4_soIn_X4_goes : GoodIn wsX4_soIn (wsV RX4 129 RX4 yX4_goes wsX4_goes) := goodIn_app (goodIn_of _ (by decide +kernel)) ggX4_soIn_X4_goes
set_option maxRecDepth 20000 in
theorem ggX4_soIn_X4_putsBack : GoodIn wsX4_soIn wsX4_putsBack := goodIn_r _ [80, 81, 6, 82, 83, 4, 84, 85, 86, 87, 88, 89, 90, 91, 92, 93, 94, 95, 96, 97, 98, 99] (by decide +kernel) (by decide +kernel)
set_option maxRecDepth 20000 in
theorem gX4_soIn_X4_putsBack : GoodIn wsX4_soIn (wsV RX4 143 RX4 yX4_putsBack wsX4_putsBack) := goodIn_app (goodIn_of _ (by decide +kernel)) ggX4_soIn_X4_putsBack
theorem dX4_soIn_0 : decode cX4_soIn 0 = .ok (.iconst 0, 1) := by decide +kernel
theorem dX4_soIn_1 : decode cX4_soIn 1 = .ok (.istore 5, 2) := by decide +kernel
theorem dX4_soIn_3 : decode cX4_soIn 3 = .ok (.iload 5, 2) := by decide +kernel
theorem dX4_soIn_5 : decode cX4_soIn 5 = .ok (.iload 4, 2) := by decide +kernel
theorem dX4_soIn_7 : decode cX4_soIn 7 = .ok (.if_icmp .gt 23, 3) := by decide +kernel
theorem dX4_soIn_10 : decode cX4_soIn 10 = .ok (.aload_n 0, 1) := by decide +kernel
theorem dX4_soIn_11 : decode cX4_soIn 11 = .ok (.iload_n 1, 1) := by decide +kernel
theorem dX4_soIn_12 : decode cX4_soIn 12 = .ok (.iload_n 2, 1) := by decide +kernel
theorem dX4_soIn_13 : decode cX4_soIn 13 = .ok (.invokevirtual 45, 3) := by decide +kernel
theorem dX4_soIn_16 : decode cX4_soIn 16 = .ok (.iload_n 3, 1) := by decide +kernel
theorem dX4_soIn_17 : decode cX4_soIn 17 = .ok (.if_icmp .eq 13, 3) := by decide +kernel
theorem dX4_soIn_20 : decode cX4_soIn 20 = .ok (.aload_n 0, 1) := by decide +kernel
theorem dX4_soIn_21 : decode cX4_soIn 21 = .ok (.invokevirtual 129, 3) := by decide +kernel
theorem dX4_soIn_24 : decode cX4_soIn 24 = .ok (.iinc 5 1, 3) := by decide +kernel
theorem dX4_soIn_27 : decode cX4_soIn 27 = .ok (.goto (-24), 3) := by decide +kernel
theorem dX4_soIn_30 : decode cX4_soIn 30 = .ok (.aload_n 0, 1) := by decide +kernel
theorem dX4_soIn_31 : decode cX4_soIn 31 = .ok (.invokevirtual 143, 3) := by decide +kernel
theorem dX4_soIn_34 : decode cX4_soIn 34 = .ok (.iload 5, 2) := by decide +kernel
theorem dX4_soIn_36 : decode cX4_soIn 36 = .ok (.iload 4, 2) := by decide +kernel
theorem dX4_soIn_38 : decode cX4_soIn 38 = .ok (.if_icmp .le 7, 3) := by decide +kernel
theorem dX4_soIn_41 : decode cX4_soIn 41 = .ok (.iconst (-1), 1) := by decide +kernel
theorem dX4_soIn_42 : decode cX4_soIn 42 = .ok (.goto 5, 3) := by decide +kernel
theorem dX4_soIn_45 : decode cX4_soIn 45 = .ok (.iload 5, 2) := by decide +kernel
theorem dX4_soIn_47 : decode cX4_soIn 47 = .ok (.ireturn, 1) := by decide +kernel
set_option maxRecDepth 20000 in
theorem ggX4_gets_X4_isThing : GoodIn wsX4_gets wsX4_isThing := goodIn_r _ [6, 7, 8, 9, 5, 10, 111, 112, 113, 114, 115, 116, 117, 118, 119, 120, 121, 122, 123, 124, 125] (by decide +kernel) (by decide +kernel)
set_option maxRecDepth 20000 in
theorem gX4_gets_X4_isThing : GoodIn wsX4_gets (wsV RX4 94 RX4 yX4_isThing wsX4_isThing) := goodIn_app (goodIn_of _ (by decide +kernel)) ggX4_gets_X4_isThing
set_option maxRecDepth 20000 in
theorem ggX4_gets_X4_finds : GoodIn wsX4_gets wsX4_finds := goodIn_r _ [14, 15, 1, 111, 112, 113, 114, 115, 116, 117, 118, 119, 120, 121, 122, 123, 124, 125] (by decide +kernel) (by decide +kernel)
set_option maxRecDepth 20000 in
theorem gX4_gets_X4_finds : GoodIn wsX4_gets (wsV RX4 37 RX4 yX4_finds wsX4_finds) := goodIn_app (goodIn_of _ (by decide +kernel)) ggX4_gets_X4_finds
set_option maxRecDepth 20000 in
theorem ggX4_gets_X4_thinks : GoodIn wsX4_gets wsX4_thinks := goodIn_r _ [19, 7, 20, 21, 22, 5, 23, 111, 112, 113, 114, 115, 116, 117, 118, 119, 120, 121, 122, 123, 124, 125] (by decide +kernel) (by decide +kernel)
set_option maxRecDepth 20000 in
theorem gX4_gets_X4_thinks : GoodIn wsX4_gets (wsV RX4 140 RX4 yX4_thinks wsX4_thinks) := goodIn_app (goodIn_of _ (by decide +kernel)) ggX4_gets_X4_thinks
set_option maxRecDepth 20000 in
theorem ggX4_gets_X4_soIn : GoodIn wsX4_gets wsX4_soIn := goodIn_r _ [27, 28, 29, 30, 5, 31, 7, 32, 33, 34, 35, 36, 37, 38, 39, 40, 41, 42, 43, 44, 45, 46, 47, 48, 49, 50, 51, 52, 53, 54, 55, 56, 57, 58, 59, 60, 61, 62, 63, 64, 65, 66, 67, 68, 69, 70, 71, 72, 73, 74, 75, 76, 77, 78, 79, 80, 81, 82, 83, 84, 85, 86, 87, 88, 89, 90, 91, 92, 93, 94, 95, 96, 97, 98, 99, 100, 101, 102, 103, 104, 105, 20, 21, 22, 23, 111, 112, 113, 114, 115, 116, 117, 118, 119, 120, 121, 122, 123, 124, 125] (by decide +kernel) (by decide +kernel)
set_option maxRecDepth 20000 in
theorem gX4_gets_X4_soIn : GoodIn wsX4_gets (wsV RX4 146 RX4 yX4_soIn wsX4_soIn) := goodIn_app (goodIn_of _ (by decide +kernel)) ggX4_gets_X4_soIn
set_option maxRecDepth 20000 in
theorem ggX4_gets_X4_orNone : GoodIn wsX4_gets wsX4_orNone := goodIn_r _ [109, 110, 11, 12, 13, 5, 14, 15, 1, 111, 112, 113, 114, 115, 116, 117, 118, 119, 120, 121, 122, 123, 124, 125] (by decide +kernel) (by decide +kernel)
set_option maxRecDepth 20000 in
theorem gX4_gets_X4_orNone : GoodIn wsX4_gets (wsV RX4 150 RX4 yX4_orNone wsX4_orNone) := goodIn_app (goodIn_of _ (by decide +kernel)) ggX4_gets_X4_orNone
theorem dX4_gets_0 : decode cX4_gets 0 = .ok (.aload_n 0, 1) := by decide +kernel
theorem dX4_gets_1 : decode cX4_gets 1 = .ok (.iload_n 1, 1) := by decide +kernel
theorem dX4_gets_2 : decode cX4_gets 2 = .ok (.invokevirtual 94, 3) := by decide +kernel
theorem dX4_gets_5 : decode cX4_gets 5 = .ok (.ifCond .ne 10, 3) := by decide +kernel
theorem dX4_gets_8 : decode cX4_gets 8 = .ok (.aload_n 0, 1) := by decide +kernel
theorem dX4_gets_9 : decode cX4_gets 9 = .ok (.ldc 35, 2) := by decide +kernel
theorem dX4_gets_11 : decode cX4_gets 11 = .ok (.invokevirtual 37, 3) := by decide +kernel
theorem dX4_gets_14 : decode cX4_gets 14 = .ok (.ireturn, 1) := by decide +kernel
theorem dX4_gets_15 : decode cX4_gets 15 = .ok (.aload_n 0, 1) := by decide +kernel
theorem dX4_gets_16 : decode cX4_gets 16 = .ok (.invokevirtual 140, 3) := by decide +kernel
theorem dX4_gets_19 : decode cX4_gets 19 = .ok (.aload_n 0, 1) := by decide +kernel
theorem dX4_gets_20 : decode cX4_gets 20 = .ok (.aload_n 0, 1) := by decide +kernel
theorem dX4_gets_21 : decode cX4_gets 21 = .ok (.iload_n 1, 1) := by decide +kernel
theorem dX4_gets_22 : decode cX4_gets 22 = .ok (.iconst 3, 1) := by decide +kernel
theorem dX4_gets_23 : decode cX4_gets 23 = .ok (.iconst 1, 1) := by decide +kernel
theorem dX4_gets_24 : decode cX4_gets 24 = .ok (.sipush 400, 3) := by decide +kernel
theorem dX4_gets_27 : decode cX4_gets 27 = .ok (.invokevirtual 146, 3) := by decide +kernel
theorem dX4_gets_30 : decode cX4_gets 30 = .ok (.invokevirtual 150, 3) := by decide +kernel
theorem dX4_gets_33 : decode cX4_gets 33 = .ok (.ireturn, 1) := by decide +kernel
set_option maxRecDepth 20000 in
theorem ggX4_dry_X4_isThing : GoodIn wsX4_dry wsX4_isThing := goodIn_r _ [6, 7, 8, 9, 5, 10, 111, 112, 113, 114, 115, 116, 117, 118, 119, 120, 121, 122, 123, 124, 125] (by decide +kernel) (by decide +kernel)
set_option maxRecDepth 20000 in
theorem gX4_dry_X4_isThing : GoodIn wsX4_dry (wsV RX4 94 RX4 yX4_isThing wsX4_isThing) := goodIn_app (goodIn_of _ (by decide +kernel)) ggX4_dry_X4_isThing
set_option maxRecDepth 20000 in
theorem ggX4_dry_X4_finds : GoodIn wsX4_dry wsX4_finds := goodIn_r _ [14, 15, 1, 111, 112, 113, 114, 115, 116, 117, 118, 119, 120, 121, 122, 123, 124, 125] (by decide +kernel) (by decide +kernel)
set_option maxRecDepth 20000 in
theorem gX4_dry_X4_finds : GoodIn wsX4_dry (wsV RX4 37 RX4 yX4_finds wsX4_finds) := goodIn_app (goodIn_of _ (by decide +kernel)) ggX4_dry_X4_finds
set_option maxRecDepth 20000 in
theorem ggX4_dry_X4_thinks : GoodIn wsX4_dry wsX4_thinks := goodIn_r _ [19, 7, 20, 21, 22, 5, 23, 111, 112, 113, 114, 115, 116, 117, 118, 119, 120, 121, 122, 123, 124, 125] (by decide +kernel) (by decide +kernel)
set_option maxRecDepth 20000 in
theorem gX4_dry_X4_thinks : GoodIn wsX4_dry (wsV RX4 140 RX4 yX4_thinks wsX4_thinks) := goodIn_app (goodIn_of _ (by decide +kernel)) ggX4_dry_X4_thinks
set_option maxRecDepth 20000 in
theorem ggX4_dry_X4_soIn : GoodIn wsX4_dry wsX4_soIn := goodIn_r _ [27, 28, 29, 30, 5, 31, 7, 32, 33, 34, 35, 36, 37, 38, 39, 40, 41, 42, 43, 44, 45, 46, 47, 48, 49, 50, 51, 52, 53, 54, 55, 56, 57, 58, 59, 60, 61, 62, 63, 64, 65, 66, 67, 68, 69, 70, 71, 72, 73, 74, 75, 76, 77, 78, 79, 80, 81, 82, 83, 84, 85, 86, 87, 88, 89, 90, 91, 92, 93, 94, 95, 96, 97, 98, 99, 100, 101, 102, 103, 104, 105, 20, 21, 22, 23, 111, 112, 113, 114, 115, 116, 117, 118, 119, 120, 121, 122, 123, 124, 125] (by decide +kernel) (by decide +kernel)
set_option maxRecDepth 20000 in
theorem gX4_dry_X4_soIn : GoodIn wsX4_dry (wsV RX4 146 RX4 yX4_soIn wsX4_soIn) := goodIn_app (goodIn_of _ (by decide +kernel)) ggX4_dry_X4_soIn
set_option maxRecDepth 20000 in
theorem ggX4_dry_X4_orNone : GoodIn wsX4_dry wsX4_orNone := goodIn_r _ [109, 110, 11, 12, 13, 5, 14, 15, 1, 111, 112, 113, 114, 115, 116, 117, 118, 119, 120, 121, 122, 123, 124, 125] (by decide +kernel) (by decide +kernel)
set_option maxRecDepth 20000 in
theorem gX4_dry_X4_orNone : GoodIn wsX4_dry (wsV RX4 150 RX4 yX4_orNone wsX4_orNone) := goodIn_app (goodIn_of _ (by decide +kernel)) ggX4_dry_X4_orNone
theorem dX4_dry_0 : decode cX4_dry 0 = .ok (.aload_n 0, 1) := by decide +kernel
theorem dX4_dry_1 : decode cX4_dry 1 = .ok (.iload_n 1, 1) := by decide +kernel
theorem dX4_dry_2 : decode cX4_dry 2 = .ok (.invokevirtual 94, 3) := by decide +kernel
theorem dX4_dry_5 : decode cX4_dry 5 = .ok (.ifCond .ne 10, 3) := by decide +kernel
theorem dX4_dry_8 : decode cX4_dry 8 = .ok (.aload_n 0, 1) := by decide +kernel
theorem dX4_dry_9 : decode cX4_dry 9 = .ok (.ldc 35, 2) := by decide +kernel
theorem dX4_dry_11 : decode cX4_dry 11 = .ok (.invokevirtual 37, 3) := by decide +kernel
theorem dX4_dry_14 : decode cX4_dry 14 = .ok (.ireturn, 1) := by decide +kernel
theorem dX4_dry_15 : decode cX4_dry 15 = .ok (.aload_n 0, 1) := by decide +kernel
theorem dX4_dry_16 : decode cX4_dry 16 = .ok (.invokevirtual 140, 3) := by decide +kernel
theorem dX4_dry_19 : decode cX4_dry 19 = .ok (.aload_n 0, 1) := by decide +kernel
theorem dX4_dry_20 : decode cX4_dry 20 = .ok (.aload_n 0, 1) := by decide +kernel
theorem dX4_dry_21 : decode cX4_dry 21 = .ok (.iload_n 1, 1) := by decide +kernel
theorem dX4_dry_22 : decode cX4_dry 22 = .ok (.iconst 4, 1) := by decide +kernel
theorem dX4_dry_23 : decode cX4_dry 23 = .ok (.iconst 0, 1) := by decide +kernel
theorem dX4_dry_24 : decode cX4_dry 24 = .ok (.sipush 400, 3) := by decide +kernel
theorem dX4_dry_27 : decode cX4_dry 27 = .ok (.invokevirtual 146, 3) := by decide +kernel
theorem dX4_dry_30 : decode cX4_dry 30 = .ok (.invokevirtual 150, 3) := by decide +kernel
theorem dX4_dry_33 : decode cX4_dry 33 = .ok (.ireturn, 1) := by decide +kernel
set_option maxRecDepth 20000 in
theorem ggX4_lost_X4_isThing : GoodIn wsX4_lost wsX4_isThing := goodIn_r _ [6, 7, 8, 9, 5, 10, 111, 112, 113, 114, 115, 116, 117, 118, 119, 120, 121, 122, 123, 124, 125] (by decide +kernel) (by decide +kernel)
set_option maxRecDepth 20000 in
theorem gX4_lost_X4_isThing : GoodIn wsX4_lost (wsV RX4 94 RX4 yX4_isThing wsX4_isThing) := goodIn_app (goodIn_of _ (by decide +kernel)) ggX4_lost_X4_isThing
set_option maxRecDepth 20000 in
theorem ggX4_lost_X4_finds : GoodIn wsX4_lost wsX4_finds := goodIn_r _ [14, 15, 1, 111, 112, 113, 114, 115, 116, 117, 118, 119, 120, 121, 122, 123, 124, 125] (by decide +kernel) (by decide +kernel)
set_option maxRecDepth 20000 in
theorem gX4_lost_X4_finds : GoodIn wsX4_lost (wsV RX4 37 RX4 yX4_finds wsX4_finds) := goodIn_app (goodIn_of _ (by decide +kernel)) ggX4_lost_X4_finds
set_option maxRecDepth 20000 in
theorem ggX4_lost_X4_thinks : GoodIn wsX4_lost wsX4_thinks := goodIn_r _ [19, 7, 20, 21, 22, 5, 23, 111, 112, 113, 114, 115, 116, 117, 118, 119, 120, 121, 122, 123, 124, 125] (by decide +kernel) (by decide +kernel)
set_option maxRecDepth 20000 in
theorem gX4_lost_X4_thinks : GoodIn wsX4_lost (wsV RX4 140 RX4 yX4_thinks wsX4_thinks) := goodIn_app (goodIn_of _ (by decide +kernel)) ggX4_lost_X4_thinks
set_option maxRecDepth 20000 in
theorem ggX4_lost_X4_soIn : GoodIn wsX4_lost wsX4_soIn := goodIn_r _ [27, 28, 29, 30, 5, 31, 7, 32, 33, 34, 35, 36, 37, 38, 39, 40, 41, 42, 43, 44, 45, 46, 47, 48, 49, 50, 51, 52, 53, 54, 55, 56, 57, 58, 59, 60, 61, 62, 63, 64, 65, 66, 67, 68, 69, 70, 71, 72, 73, 74, 75, 76, 77, 78, 79, 80, 81, 82, 83, 84, 85, 86, 87, 88, 89, 90, 91, 92, 93, 94, 95, 96, 97, 98, 99, 100, 101, 102, 103, 104, 105, 20, 21, 22, 23, 111, 112, 113, 114, 115, 116, 117, 118, 119, 120, 121, 122, 123, 124, 125] (by decide +kernel) (by decide +kernel)
set_option maxRecDepth 20000 in
theorem gX4_lost_X4_soIn : GoodIn wsX4_lost (wsV RX4 146 RX4 yX4_soIn wsX4_soIn) := goodIn_app (goodIn_of _ (by decide +kernel)) ggX4_lost_X4_soIn
set_option maxRecDepth 20000 in
theorem ggX4_lost_X4_orNone : GoodIn wsX4_lost wsX4_orNone := goodIn_r _ [109, 110, 11, 12, 13, 5, 14, 15, 1, 111, 112, 113, 114, 115, 116, 117, 118, 119, 120, 121, 122, 123, 124, 125] (by decide +kernel) (by decide +kernel)
set_option maxRecDepth 20000 in
theorem gX4_lost_X4_orNone : GoodIn wsX4_lost (wsV RX4 150 RX4 yX4_orNone wsX4_orNone) := goodIn_app (goodIn_of _ (by decide +kernel)) ggX4_lost_X4_orNone
theorem dX4_lost_0 : decode cX4_lost 0 = .ok (.aload_n 0, 1) := by decide +kernel
theorem dX4_lost_1 : decode cX4_lost 1 = .ok (.iload_n 1, 1) := by decide +kernel
theorem dX4_lost_2 : decode cX4_lost 2 = .ok (.invokevirtual 94, 3) := by decide +kernel
theorem dX4_lost_5 : decode cX4_lost 5 = .ok (.ifCond .ne 10, 3) := by decide +kernel
theorem dX4_lost_8 : decode cX4_lost 8 = .ok (.aload_n 0, 1) := by decide +kernel
theorem dX4_lost_9 : decode cX4_lost 9 = .ok (.ldc 35, 2) := by decide +kernel
theorem dX4_lost_11 : decode cX4_lost 11 = .ok (.invokevirtual 37, 3) := by decide +kernel
theorem dX4_lost_14 : decode cX4_lost 14 = .ok (.ireturn, 1) := by decide +kernel
theorem dX4_lost_15 : decode cX4_lost 15 = .ok (.aload_n 0, 1) := by decide +kernel
theorem dX4_lost_16 : decode cX4_lost 16 = .ok (.invokevirtual 140, 3) := by decide +kernel
theorem dX4_lost_19 : decode cX4_lost 19 = .ok (.aload_n 0, 1) := by decide +kernel
theorem dX4_lost_20 : decode cX4_lost 20 = .ok (.aload_n 0, 1) := by decide +kernel
theorem dX4_lost_21 : decode cX4_lost 21 = .ok (.iload_n 1, 1) := by decide +kernel
theorem dX4_lost_22 : decode cX4_lost 22 = .ok (.bipush 6, 2) := by decide +kernel
theorem dX4_lost_24 : decode cX4_lost 24 = .ok (.iconst 1, 1) := by decide +kernel
theorem dX4_lost_25 : decode cX4_lost 25 = .ok (.sipush 400, 3) := by decide +kernel
theorem dX4_lost_28 : decode cX4_lost 28 = .ok (.invokevirtual 146, 3) := by decide +kernel
theorem dX4_lost_31 : decode cX4_lost 31 = .ok (.invokevirtual 150, 3) := by decide +kernel
theorem dX4_lost_34 : decode cX4_lost 34 = .ok (.ireturn, 1) := by decide +kernel
set_option maxRecDepth 20000 in
theorem ggX4_arrivesIn_X4_isOn : GoodIn wsX4_arrivesIn wsX4_isOn := goodIn_r _ [5, 6, 7, 8, 4, 9, 10, 85, 86, 87, 88, 89, 90, 91, 92, 93, 94, 95, 96, 97, 98, 99] (by decide +kernel) (by decide +kernel)
set_option maxRecDepth 20000 in
theorem gX4_arrivesIn_X4_isOn : GoodIn wsX4_arrivesIn (wsV RX4 62 RX4 yX4_isOn wsX4_isOn) := goodIn_app (goodIn_of _ (by decide +kernel)) ggX4_arrivesIn_X4_isOn
set_option maxRecDepth 20000 in
theorem ggX4_arrivesIn_X4_it : GoodIn wsX4_arrivesIn wsX4_it := goodIn_r _ [9, 10, 85, 86, 87, 88, 89, 90, 91, 92, 93, 94, 95, 96, 97, 98, 99] (by decide +kernel) (by decide +kernel)
set_option maxRecDepth 20000 in
theorem gX4_arrivesIn_X4_it : GoodIn wsX4_arrivesIn (wsV RX4 45 RX4 yX4_it wsX4_it) := goodIn_app (goodIn_of _ (by decide +kernel)) ggX4_arrivesIn_X4_it
set_option maxRecDepth 20000 in
theorem ggX4_arrivesIn_X4_goes : GoodIn wsX4_arrivesIn wsX4_goes := goodIn_r _ [14, 10, 15, 16, 17, 4, 18, 6, 7, 8, 9, 19, 20, 21, 22, 1, 2, 3, 5, 23, 24, 25, 26, 27, 28, 29, 30, 31, 32, 33, 34, 35, 36, 37, 38, 39, 40, 41, 42, 43, 44, 45, 46, 47, 48, 49, 50, 51, 52, 53, 54, 55, 56, 57, 58, 59, 60, 61, 62, 63, 64, 65, 66, 67, 68, 69, 70, 71, 72, 73, 74, 75, 76, 85, 86, 87, 88, 89, 90, 91, 92, 93, 94, 95, 96, 97, 98, 99] (by decide +kernel) (by decide +kernel)
set_option maxRecDepth 20000 in
theorem gX4_arrivesIn_X4_goes : GoodIn wsX4_arrivesIn (wsV RX4 129 RX4 yX4_goes wsX4_goes) := goodIn_app (goodIn_of _ (by decide +kernel)) ggX4_arrivesIn_X4_goes
set_option maxRecDepth 20000 in
theorem ggX4_arrivesIn_X4_putsBack : GoodIn wsX4_arrivesIn wsX4_putsBack := goodIn_r _ [80, 81, 10, 82, 83, 4, 84, 85, 86, 87, 88, 89, 90, 91, 92, 93, 94, 95, 96, 97, 98, 99] (by decide +kernel) (by decide +kernel)
set_option maxRecDepth 20000 in
theorem gX4_arrivesIn_X4_putsBack : GoodIn wsX4_arrivesIn (wsV RX4 143 RX4 yX4_putsBack wsX4_putsBack) := goodIn_app (goodIn_of _ (by decide +kernel)) ggX4_arrivesIn_X4_putsBack
theorem dX4_arrivesIn_0 : decode cX4_arrivesIn 0 = .ok (.iconst 0, 1) := by decide +kernel
theorem dX4_arrivesIn_1 : decode cX4_arrivesIn 1 = .ok (.istore_n 3, 1) := by decide +kernel
theorem dX4_arrivesIn_2 : decode cX4_arrivesIn 2 = .ok (.iload_n 3, 1) := by decide +kernel
theorem dX4_arrivesIn_3 : decode cX4_arrivesIn 3 = .ok (.iload_n 2, 1) := by decide +kernel
theorem dX4_arrivesIn_4 : decode cX4_arrivesIn 4 = .ok (.if_icmp .gt 36, 3) := by decide +kernel
theorem dX4_arrivesIn_7 : decode cX4_arrivesIn 7 = .ok (.aload_n 0, 1) := by decide +kernel
theorem dX4_arrivesIn_8 : decode cX4_arrivesIn 8 = .ok (.iload_n 1, 1) := by decide +kernel
theorem dX4_arrivesIn_9 : decode cX4_arrivesIn 9 = .ok (.invokevirtual 62, 3) := by decide +kernel
theorem dX4_arrivesIn_12 : decode cX4_arrivesIn 12 = .ok (.ifCond .ne 18, 3) := by decide +kernel
theorem dX4_arrivesIn_15 : decode cX4_arrivesIn 15 = .ok (.aload_n 0, 1) := by decide +kernel
theorem dX4_arrivesIn_16 : decode cX4_arrivesIn 16 = .ok (.iload_n 1, 1) := by decide +kernel
theorem dX4_arrivesIn_17 : decode cX4_arrivesIn 17 = .ok (.iconst 1, 1) := by decide +kernel
theorem dX4_arrivesIn_18 : decode cX4_arrivesIn 18 = .ok (.invokevirtual 45, 3) := by decide +kernel
theorem dX4_arrivesIn_21 : decode cX4_arrivesIn 21 = .ok (.aload_n 0, 1) := by decide +kernel
theorem dX4_arrivesIn_22 : decode cX4_arrivesIn 22 = .ok (.iload_n 1, 1) := by decide +kernel
theorem dX4_arrivesIn_23 : decode cX4_arrivesIn 23 = .ok (.iconst 5, 1) := by decide +kernel
theorem dX4_arrivesIn_24 : decode cX4_arrivesIn 24 = .ok (.invokevirtual 45, 3) := by decide +kernel
theorem dX4_arrivesIn_27 : decode cX4_arrivesIn 27 = .ok (.if_icmp .eq 13, 3) := by decide +kernel
theorem dX4_arrivesIn_30 : decode cX4_arrivesIn 30 = .ok (.aload_n 0, 1) := by decide +kernel
theorem dX4_arrivesIn_31 : decode cX4_arrivesIn 31 = .ok (.invokevirtual 129, 3) := by decide +kernel
theorem dX4_arrivesIn_34 : decode cX4_arrivesIn 34 = .ok (.iinc 3 1, 3) := by decide +kernel
theorem dX4_arrivesIn_37 : decode cX4_arrivesIn 37 = .ok (.goto (-35), 3) := by decide +kernel
theorem dX4_arrivesIn_40 : decode cX4_arrivesIn 40 = .ok (.aload_n 0, 1) := by decide +kernel
theorem dX4_arrivesIn_41 : decode cX4_arrivesIn 41 = .ok (.invokevirtual 143, 3) := by decide +kernel
theorem dX4_arrivesIn_44 : decode cX4_arrivesIn 44 = .ok (.iload_n 3, 1) := by decide +kernel
theorem dX4_arrivesIn_45 : decode cX4_arrivesIn 45 = .ok (.iload_n 2, 1) := by decide +kernel
theorem dX4_arrivesIn_46 : decode cX4_arrivesIn 46 = .ok (.if_icmp .le 7, 3) := by decide +kernel
theorem dX4_arrivesIn_49 : decode cX4_arrivesIn 49 = .ok (.iconst (-1), 1) := by decide +kernel
theorem dX4_arrivesIn_50 : decode cX4_arrivesIn 50 = .ok (.goto 4, 3) := by decide +kernel
theorem dX4_arrivesIn_53 : decode cX4_arrivesIn 53 = .ok (.iload_n 3, 1) := by decide +kernel
theorem dX4_arrivesIn_54 : decode cX4_arrivesIn 54 = .ok (.ireturn, 1) := by decide +kernel
set_option maxRecDepth 20000 in
theorem ggX4_arrives_X4_isThing : GoodIn wsX4_arrives wsX4_isThing := goodIn_r _ [6, 7, 8, 9, 5, 10, 111, 112, 113, 114, 115, 116, 117, 118, 119, 120, 121, 122, 123, 124, 125] (by decide +kernel) (by decide +kernel)
set_option maxRecDepth 20000 in
theorem gX4_arrives_X4_isThing : GoodIn wsX4_arrives (wsV RX4 94 RX4 yX4_isThing wsX4_isThing) := goodIn_app (goodIn_of _ (by decide +kernel)) ggX4_arrives_X4_isThing
set_option maxRecDepth 20000 in
theorem ggX4_arrives_X4_finds : GoodIn wsX4_arrives wsX4_finds := goodIn_r _ [14, 15, 1, 111, 112, 113, 114, 115, 116, 117, 118, 119, 120, 121, 122, 123, 124, 125] (by decide +kernel) (by decide +kernel)
set_option maxRecDepth 20000 in
theorem gX4_arrives_X4_finds : GoodIn wsX4_arrives (wsV RX4 37 RX4 yX4_finds wsX4_finds) := goodIn_app (goodIn_of _ (by decide +kernel)) ggX4_arrives_X4_finds
set_option maxRecDepth 20000 in
theorem ggX4_arrives_X4_thinks : GoodIn wsX4_arrives wsX4_thinks := goodIn_r _ [19, 7, 20, 21, 22, 5, 23, 111, 112, 113, 114, 115, 116, 117, 118, 119, 120, 121, 122, 123, 124, 125] (by decide +kernel) (by decide +kernel)
set_option maxRecDepth 20000 in
theorem gX4_arrives_X4_thinks : GoodIn wsX4_arrives (wsV RX4 140 RX4 yX4_thinks wsX4_thinks) := goodIn_app (goodIn_of _ (by decide +kernel)) ggX4_arrives_X4_thinks
set_option maxRecDepth 20000 in
theorem ggX4_arrives_X4_arrivesIn : GoodIn wsX4_arrives wsX4_arrivesIn := goodIn_r _ [27, 28, 29, 30, 5, 31, 32, 33, 34, 35, 7, 36, 37, 38, 39, 40, 41, 42, 43, 44, 45, 46, 47, 48, 49, 50, 51, 52, 53, 54, 55, 56, 57, 58, 59, 60, 61, 62, 63, 64, 65, 66, 67, 68, 69, 70, 71, 72, 73, 74, 75, 76, 77, 78, 79, 80, 81, 82, 83, 84, 85, 86, 87, 88, 89, 90, 91, 92, 93, 94, 95, 96, 97, 98, 99, 100, 101, 102, 103, 104, 105, 20, 21, 22, 23, 111, 112, 113, 114, 115, 116, 117, 118, 119, 120, 121, 122, 123, 124, 125] (by decide +kernel) (by decide +kernel)
set_option maxRecDepth 20000 in
theorem gX4_arrives_X4_arrivesIn : GoodIn wsX4_arrives (wsV RX4 153 RX4 yX4_arrivesIn wsX4_arrivesIn) := goodIn_app (goodIn_of _ (by decide +kernel)) ggX4_arrives_X4_arrivesIn
set_option maxRecDepth 20000 in
theorem ggX4_arrives_X4_orNone : GoodIn wsX4_arrives wsX4_orNone := goodIn_r _ [109, 110, 11, 12, 13, 5, 14, 15, 1, 111, 112, 113, 114, 115, 116, 117, 118, 119, 120, 121, 122, 123, 124, 125] (by decide +kernel) (by decide +kernel)
set_option maxRecDepth 20000 in
theorem gX4_arrives_X4_orNone : GoodIn wsX4_arrives (wsV RX4 150 RX4 yX4_orNone wsX4_orNone) := goodIn_app (goodIn_of _ (by decide +kernel)) ggX4_arrives_X4_orNone
theorem dX4_arrives_0 : decode cX4_arrives 0 = .ok (.aload_n 0, 1) := by decide +kernel
theorem dX4_arrives_1 : decode cX4_arrives 1 = .ok (.iload_n 1, 1) := by decide +kernel
theorem dX4_arrives_2 : decode cX4_arrives 2 = .ok (.invokevirtual 94, 3) := by decide +kernel
theorem dX4_arrives_5 : decode cX4_arrives 5 = .ok (.ifCond .ne 10, 3) := by decide +kernel
theorem dX4_arrives_8 : decode cX4_arrives 8 = .ok (.aload_n 0, 1) := by decide +kernel
theorem dX4_arrives_9 : decode cX4_arrives 9 = .ok (.ldc 35, 2) := by decide +kernel
theorem dX4_arrives_11 : decode cX4_arrives 11 = .ok (.invokevirtual 37, 3) := by decide +kernel
theorem dX4_arrives_14 : decode cX4_arrives 14 = .ok (.ireturn, 1) := by decide +kernel
theorem dX4_arrives_15 : decode cX4_arrives 15 = .ok (.aload_n 0, 1) := by decide +kernel
theorem dX4_arrives_16 : decode cX4_arrives 16 = .ok (.invokevirtual 140, 3) := by decide +kernel
theorem dX4_arrives_19 : decode cX4_arrives 19 = .ok (.aload_n 0, 1) := by decide +kernel
theorem dX4_arrives_20 : decode cX4_arrives 20 = .ok (.aload_n 0, 1) := by decide +kernel
theorem dX4_arrives_21 : decode cX4_arrives 21 = .ok (.iload_n 1, 1) := by decide +kernel
theorem dX4_arrives_22 : decode cX4_arrives 22 = .ok (.sipush 400, 3) := by decide +kernel
theorem dX4_arrives_25 : decode cX4_arrives 25 = .ok (.invokevirtual 153, 3) := by decide +kernel
theorem dX4_arrives_28 : decode cX4_arrives 28 = .ok (.invokevirtual 150, 3) := by decide +kernel
theorem dX4_arrives_31 : decode cX4_arrives 31 = .ok (.ireturn, 1) := by decide +kernel
set_option maxRecDepth 20000 in
theorem ggX4_driest_X4_thinks : GoodIn wsX4_driest wsX4_thinks := goodIn_r _ [6, 1, 7, 8, 9, 5, 10, 93, 94, 95, 96, 97, 98, 99, 100, 101, 102, 103, 104, 105, 106, 107] (by decide +kernel) (by decide +kernel)
set_option maxRecDepth 20000 in
theorem gX4_driest_X4_thinks : GoodIn wsX4_driest (wsV RX4 140 RX4 yX4_thinks wsX4_thinks) := goodIn_app (goodIn_of _ (by decide +kernel)) ggX4_driest_X4_thinks
set_option maxRecDepth 20000 in
theorem ggX4_driest_X4_goesFor : GoodIn wsX4_driest wsX4_goesFor := goodIn_r _ [14, 15, 16, 17, 5, 18, 1, 19, 20, 21, 22, 23, 24, 25, 26, 27, 28, 29, 30, 31, 32, 33, 34, 35, 36, 37, 38, 39, 40, 41, 42, 43, 44, 45, 46, 47, 48, 49, 50, 51, 52, 53, 54, 55, 56, 57, 58, 59, 60, 61, 62, 63, 64, 65, 66, 67, 68, 69, 70, 71, 72, 73, 74, 75, 76, 77, 78, 79, 80, 81, 82, 83, 84, 85, 86, 87, 88, 93, 94, 95, 96, 97, 98, 99, 100, 101, 102, 103, 104, 105, 106, 107] (by decide +kernel) (by decide +kernel)
set_option maxRecDepth 20000 in
theorem gX4_driest_X4_goesFor : GoodIn wsX4_driest (wsV RX4 133 RX4 yX4_goesFor wsX4_goesFor) := goodIn_app (goodIn_of _ (by decide +kernel)) ggX4_driest_X4_goesFor
set_option maxRecDepth 20000 in
theorem ggX4_driest_X4_it : GoodIn wsX4_driest wsX4_it := goodIn_r _ [26, 1, 93, 94, 95, 96, 97, 98, 99, 100, 101, 102, 103, 104, 105, 106, 107] (by decide +kernel) (by decide +kernel)
set_option maxRecDepth 20000 in
theorem gX4_driest_X4_it : GoodIn wsX4_driest (wsV RX4 45 RX4 yX4_it wsX4_it) := goodIn_app (goodIn_of _ (by decide +kernel)) ggX4_driest_X4_it
set_option maxRecDepth 20000 in
theorem ggX4_driest_X4_putsBack : GoodIn wsX4_driest wsX4_putsBack := goodIn_r _ [92, 7, 1, 8, 9, 5, 10, 93, 94, 95, 96, 97, 98, 99, 100, 101, 102, 103, 104, 105, 106, 107] (by decide +kernel) (by decide +kernel)
set_option maxRecDepth 20000 in
theorem gX4_driest_X4_putsBack : GoodIn wsX4_driest (wsV RX4 143 RX4 yX4_putsBack wsX4_putsBack) := goodIn_app (goodIn_of _ (by decide +kernel)) ggX4_driest_X4_putsBack
theorem dX4_driest_0 : decode cX4_driest 0 = .ok (.aload_n 0, 1) := by decide +kernel
theorem dX4_driest_1 : decode cX4_driest 1 = .ok (.invokevirtual 140, 3) := by decide +kernel
theorem dX4_driest_4 : decode cX4_driest 4 = .ok (.iload_n 2, 1) := by decide +kernel
theorem dX4_driest_5 : decode cX4_driest 5 = .ok (.istore 6, 2) := by decide +kernel
theorem dX4_driest_7 : decode cX4_driest 7 = .ok (.bipush 100, 2) := by decide +kernel
theorem dX4_driest_9 : decode cX4_driest 9 = .ok (.istore 7, 2) := by decide +kernel
theorem dX4_driest_11 : decode cX4_driest 11 = .ok (.iload_n 2, 1) := by decide +kernel
theorem dX4_driest_12 : decode cX4_driest 12 = .ok (.istore 8, 2) := by decide +kernel
theorem dX4_driest_14 : decode cX4_driest 14 = .ok (.iload 8, 2) := by decide +kernel
theorem dX4_driest_16 : decode cX4_driest 16 = .ok (.iload_n 3, 1) := by decide +kernel
theorem dX4_driest_17 : decode cX4_driest 17 = .ok (.if_icmp .gt 68, 3) := by decide +kernel
theorem dX4_driest_20 : decode cX4_driest 20 = .ok (.aload_n 0, 1) := by decide +kernel
theorem dX4_driest_21 : decode cX4_driest 21 = .ok (.getfield 9, 3) := by decide +kernel
theorem dX4_driest_24 : decode cX4_driest 24 = .ok (.iload_n 1, 1) := by decide +kernel
theorem dX4_driest_25 : decode cX4_driest 25 = .ok (.iload 8, 2) := by decide +kernel
theorem dX4_driest_27 : decode cX4_driest 27 = .ok (.iastore, 1) := by decide +kernel
theorem dX4_driest_28 : decode cX4_driest 28 = .ok (.aload_n 0, 1) := by decide +kernel
theorem dX4_driest_29 : decode cX4_driest 29 = .ok (.iload 5, 2) := by decide +kernel
theorem dX4_driest_31 : decode cX4_driest 31 = .ok (.invokevirtual 133, 3) := by decide +kernel
theorem dX4_driest_34 : decode cX4_driest 34 = .ok (.aload_n 0, 1) := by decide +kernel
theorem dX4_driest_35 : decode cX4_driest 35 = .ok (.iload 4, 2) := by decide +kernel
theorem dX4_driest_37 : decode cX4_driest 37 = .ok (.iconst 4, 1) := by decide +kernel
theorem dX4_driest_38 : decode cX4_driest 38 = .ok (.invokevirtual 45, 3) := by decide +kernel
theorem dX4_driest_41 : decode cX4_driest 41 = .ok (.istore 9, 2) := by decide +kernel
theorem dX4_driest_43 : decode cX4_driest 43 = .ok (.aload_n 0, 1) := by decide +kernel
theorem dX4_driest_44 : decode cX4_driest 44 = .ok (.invokevirtual 143, 3) := by decide +kernel
theorem dX4_driest_47 : decode cX4_driest 47 = .ok (.iload 9, 2) := by decide +kernel
theorem dX4_driest_49 : decode cX4_driest 49 = .ok (.iload 7, 2) := by decide +kernel
theorem dX4_driest_51 : decode cX4_driest 51 = .ok (.if_icmp .ge 8, 3) := by decide +kernel
theorem dX4_driest_54 : decode cX4_driest 54 = .ok (.iload 8, 2) := by decide +kernel
theorem dX4_driest_56 : decode cX4_driest 56 = .ok (.goto 5, 3) := by decide +kernel
theorem dX4_driest_59 : decode cX4_driest 59 = .ok (.iload 6, 2) := by decide +kernel
theorem dX4_driest_61 : decode cX4_driest 61 = .ok (.istore 6, 2) := by decide +kernel
theorem dX4_driest_63 : decode cX4_driest 63 = .ok (.iload 9, 2) := by decide +kernel
theorem dX4_driest_65 : decode cX4_driest 65 = .ok (.iload 7, 2) := by decide +kernel
theorem dX4_driest_67 : decode cX4_driest 67 = .ok (.if_icmp .ge 8, 3) := by decide +kernel
theorem dX4_driest_70 : decode cX4_driest 70 = .ok (.iload 9, 2) := by decide +kernel
theorem dX4_driest_72 : decode cX4_driest 72 = .ok (.goto 5, 3) := by decide +kernel
theorem dX4_driest_75 : decode cX4_driest 75 = .ok (.iload 7, 2) := by decide +kernel
theorem dX4_driest_77 : decode cX4_driest 77 = .ok (.istore 7, 2) := by decide +kernel
theorem dX4_driest_79 : decode cX4_driest 79 = .ok (.iinc 8 1, 3) := by decide +kernel
theorem dX4_driest_82 : decode cX4_driest 82 = .ok (.goto (-68), 3) := by decide +kernel
theorem dX4_driest_85 : decode cX4_driest 85 = .ok (.iload 6, 2) := by decide +kernel
theorem dX4_driest_87 : decode cX4_driest 87 = .ok (.ireturn, 1) := by decide +kernel
set_option maxRecDepth 20000 in
theorem ggX4_speed_X4_isThing : GoodIn wsX4_speed wsX4_isThing := goodIn_r _ [6, 7, 8, 9, 5, 10, 110, 111, 112, 113, 114, 115, 116, 117, 118, 119, 120, 121, 122, 123, 124] (by decide +kernel) (by decide +kernel)
set_option maxRecDepth 20000 in
theorem gX4_speed_X4_isThing : GoodIn wsX4_speed (wsV RX4 94 RX4 yX4_isThing wsX4_isThing) := goodIn_app (goodIn_of _ (by decide +kernel)) ggX4_speed_X4_isThing
set_option maxRecDepth 20000 in
theorem ggX4_speed_X4_in : GoodIn wsX4_speed wsX4_in := goodIn_r _ [10] (by decide +kernel) (by decide +kernel)
set_option maxRecDepth 20000 in
theorem gX4_speed_X4_in : GoodIn wsX4_speed (va_wsS RX4 41 yX4_in wsX4_in) := goodIn_app (goodIn_of _ (by decide +kernel)) ggX4_speed_X4_in
set_option maxRecDepth 20000 in
theorem ggX4_speed_X4_driest : GoodIn wsX4_speed wsX4_driest := goodIn_r _ [14, 7, 15, 16, 17, 5, 18, 19, 20, 21, 22, 23, 24, 25, 26, 27, 28, 29, 30, 31, 32, 33, 34, 35, 36, 37, 38, 39, 40, 41, 42, 43, 44, 45, 46, 47, 48, 49, 50, 51, 52, 53, 54, 55, 56, 57, 58, 59, 60, 61, 62, 63, 64, 65, 66, 67, 68, 69, 70, 71, 72, 73, 74, 75, 76, 77, 78, 79, 80, 81, 82, 83, 84, 85, 86, 87, 88, 89, 90, 91, 92, 93, 94, 95, 96, 97, 98, 99, 100, 101, 102, 103, 104, 110, 111, 112, 113, 114, 115, 116, 117, 118, 119, 120, 121, 122, 123, 124] (by decide +kernel) (by decide +kernel)
set_option maxRecDepth 20000 in
theorem gX4_speed_X4_driest : GoodIn wsX4_speed (wsV RX4 156 RX4 yX4_driest wsX4_driest) := goodIn_app (goodIn_of _ (by decide +kernel)) ggX4_speed_X4_driest
set_option maxRecDepth 20000 in
theorem ggX4_speed_X4_finds : GoodIn wsX4_speed wsX4_finds := goodIn_r _ [108, 109, 1, 110, 111, 112, 113, 114, 115, 116, 117, 118, 119, 120, 121, 122, 123, 124] (by decide +kernel) (by decide +kernel)
set_option maxRecDepth 20000 in
theorem gX4_speed_X4_finds : GoodIn wsX4_speed (wsV RX4 37 RX4 yX4_finds wsX4_finds) := goodIn_app (goodIn_of _ (by decide +kernel)) ggX4_speed_X4_finds
theorem dX4_speed_0 : decode cX4_speed 0 = .ok (.aload_n 0, 1) := by decide +kernel
theorem dX4_speed_1 : decode cX4_speed 1 = .ok (.iload_n 1, 1) := by decide +kernel
theorem dX4_speed_2 : decode cX4_speed 2 = .ok (.invokevirtual 94, 3) := by decide +kernel
theorem dX4_speed_5 : decode cX4_speed 5 = .ok (.ifCond .eq 27, 3) := by decide +kernel
theorem dX4_speed_8 : decode cX4_speed 8 = .ok (.iload_n 2, 1) := by decide +kernel
theorem dX4_speed_9 : decode cX4_speed 9 = .ok (.i2l, 1) := by decide +kernel
theorem dX4_speed_10 : decode cX4_speed 10 = .ok (.iconst 1, 1) := by decide +kernel
theorem dX4_speed_11 : decode cX4_speed 11 = .ok (.bipush 120, 2) := by decide +kernel
theorem dX4_speed_13 : decode cX4_speed 13 = .ok (.invokestatic 41, 3) := by decide +kernel
theorem dX4_speed_16 : decode cX4_speed 16 = .ok (.ifCond .eq 16, 3) := by decide +kernel
theorem dX4_speed_19 : decode cX4_speed 19 = .ok (.aload_n 0, 1) := by decide +kernel
theorem dX4_speed_20 : decode cX4_speed 20 = .ok (.iconst 2, 1) := by decide +kernel
theorem dX4_speed_21 : decode cX4_speed 21 = .ok (.iconst 1, 1) := by decide +kernel
theorem dX4_speed_22 : decode cX4_speed 22 = .ok (.bipush 10, 2) := by decide +kernel
theorem dX4_speed_24 : decode cX4_speed 24 = .ok (.iload_n 1, 1) := by decide +kernel
theorem dX4_speed_25 : decode cX4_speed 25 = .ok (.iload_n 2, 1) := by decide +kernel
theorem dX4_speed_26 : decode cX4_speed 26 = .ok (.invokevirtual 156, 3) := by decide +kernel
theorem dX4_speed_29 : decode cX4_speed 29 = .ok (.goto 9, 3) := by decide +kernel
theorem dX4_speed_32 : decode cX4_speed 32 = .ok (.aload_n 0, 1) := by decide +kernel
theorem dX4_speed_33 : decode cX4_speed 33 = .ok (.ldc 35, 2) := by decide +kernel
theorem dX4_speed_35 : decode cX4_speed 35 = .ok (.invokevirtual 37, 3) := by decide +kernel
theorem dX4_speed_38 : decode cX4_speed 38 = .ok (.ireturn, 1) := by decide +kernel
set_option maxRecDepth 20000 in
theorem ggX4_far_X4_isThing : GoodIn wsX4_far wsX4_isThing := goodIn_r _ [6, 7, 8, 9, 5, 10, 106, 107, 108, 109, 110, 111, 112, 113, 114, 115, 116, 117, 118, 119, 120] (by decide +kernel) (by decide +kernel)
set_option maxRecDepth 20000 in
theorem gX4_far_X4_isThing : GoodIn wsX4_far (wsV RX4 94 RX4 yX4_isThing wsX4_isThing) := goodIn_app (goodIn_of _ (by decide +kernel)) ggX4_far_X4_isThing
set_option maxRecDepth 20000 in
theorem ggX4_far_X4_in : GoodIn wsX4_far wsX4_in := goodIn_r _ [10] (by decide +kernel) (by decide +kernel)
set_option maxRecDepth 20000 in
theorem gX4_far_X4_in : GoodIn wsX4_far (va_wsS RX4 41 yX4_in wsX4_in) := goodIn_app (goodIn_of _ (by decide +kernel)) ggX4_far_X4_in
set_option maxRecDepth 20000 in
theorem ggX4_far_X4_finds : GoodIn wsX4_far wsX4_finds := goodIn_r _ [14, 15, 1, 106, 107, 108, 109, 110, 111, 112, 113, 114, 115, 116, 117, 118, 119, 120] (by decide +kernel) (by decide +kernel)
set_option maxRecDepth 20000 in
theorem gX4_far_X4_finds : GoodIn wsX4_far (wsV RX4 37 RX4 yX4_finds wsX4_finds) := goodIn_app (goodIn_of _ (by decide +kernel)) ggX4_far_X4_finds
set_option maxRecDepth 20000 in
theorem ggX4_far_X4_thinks : GoodIn wsX4_far wsX4_thinks := goodIn_r _ [19, 7, 20, 21, 22, 5, 23, 106, 107, 108, 109, 110, 111, 112, 113, 114, 115, 116, 117, 118, 119, 120] (by decide +kernel) (by decide +kernel)
set_option maxRecDepth 20000 in
theorem gX4_far_X4_thinks : GoodIn wsX4_far (wsV RX4 140 RX4 yX4_thinks wsX4_thinks) := goodIn_app (goodIn_of _ (by decide +kernel)) ggX4_far_X4_thinks
set_option maxRecDepth 20000 in
theorem ggX4_far_X4_put : GoodIn wsX4_far wsX4_put := goodIn_r _ [27, 7, 106, 107, 108, 109, 110, 111, 112, 113, 114, 115, 116, 117, 118, 119, 120] (by decide +kernel) (by decide +kernel)
set_option maxRecDepth 20000 in
theorem gX4_far_X4_put : GoodIn wsX4_far (wsV RX4 82 RX4 yX4_put wsX4_put) := goodIn_app (goodIn_of _ (by decide +kernel)) ggX4_far_X4_put
set_option maxRecDepth 20000 in
theorem ggX4_far_X4_goesFor : GoodIn wsX4_far wsX4_goesFor := goodIn_r _ [31, 32, 33, 34, 5, 35, 7, 36, 37, 38, 39, 40, 41, 42, 43, 44, 45, 46, 47, 48, 49, 50, 51, 52, 53, 54, 55, 56, 57, 58, 59, 60, 61, 62, 63, 64, 65, 66, 24, 25, 26, 27, 67, 68, 69, 70, 71, 72, 73, 74, 75, 76, 77, 78, 79, 80, 81, 82, 83, 84, 85, 86, 87, 88, 89, 90, 91, 92, 93, 94, 95, 96, 97, 98, 99, 100, 101, 106, 107, 108, 109, 110, 111, 112, 113, 114, 115, 116, 117, 118, 119, 120] (by decide +kernel) (by decide +kernel)
set_option maxRecDepth 20000 in
theorem gX4_far_X4_goesFor : GoodIn wsX4_far (wsV RX4 133 RX4 yX4_goesFor wsX4_goesFor) := goodIn_app (goodIn_of _ (by decide +kernel)) ggX4_far_X4_goesFor
set_option maxRecDepth 20000 in
theorem ggX4_far_X4_it : GoodIn wsX4_far wsX4_it := goodIn_r _ [43, 7, 106, 107, 108, 109, 110, 111, 112, 113, 114, 115, 116, 117, 118, 119, 120] (by decide +kernel) (by decide +kernel)
set_option maxRecDepth 20000 in
theorem gX4_far_X4_it : GoodIn wsX4_far (wsV RX4 45 RX4 yX4_it wsX4_it) := goodIn_app (goodIn_of _ (by decide +kernel)) ggX4_far_X4_it
set_option maxRecDepth 20000 in
theorem ggX4_far_X4_putsBack : GoodIn wsX4_far wsX4_putsBack := goodIn_r _ [105, 20, 7, 21, 22, 5, 23, 106, 107, 108, 109, 110, 111, 112, 113, 114, 115, 116, 117, 118, 119, 120] (by decide +kernel) (by decide +kernel)
set_option maxRecDepth 20000 in
theorem gX4_far_X4_putsBack : GoodIn wsX4_far (wsV RX4 143 RX4 yX4_putsBack wsX4_putsBack) := goodIn_app (goodIn_of _ (by decide +kernel)) ggX4_far_X4_putsBack
theorem dX4_far_0 : decode cX4_far 0 = .ok (.aload_n 0, 1) := by decide +kernel
theorem dX4_far_1 : decode cX4_far 1 = .ok (.iload_n 1, 1) := by decide +kernel
theorem dX4_far_2 : decode cX4_far 2 = .ok (.invokevirtual 94, 3) := by decide +kernel
theorem dX4_far_5 : decode cX4_far 5 = .ok (.ifCond .eq 14, 3) := by decide +kernel
theorem dX4_far_8 : decode cX4_far 8 = .ok (.iload_n 2, 1) := by decide +kernel
theorem dX4_far_9 : decode cX4_far 9 = .ok (.i2l, 1) := by decide +kernel
theorem dX4_far_10 : decode cX4_far 10 = .ok (.iconst 1, 1) := by decide +kernel
theorem dX4_far_11 : decode cX4_far 11 = .ok (.bipush 120, 2) := by decide +kernel
theorem dX4_far_13 : decode cX4_far 13 = .ok (.invokestatic 41, 3) := by decide +kernel
theorem dX4_far_16 : decode cX4_far 16 = .ok (.ifCond .ne 10, 3) := by decide +kernel
theorem dX4_far_19 : decode cX4_far 19 = .ok (.aload_n 0, 1) := by decide +kernel
theorem dX4_far_20 : decode cX4_far 20 = .ok (.ldc 35, 2) := by decide +kernel
theorem dX4_far_22 : decode cX4_far 22 = .ok (.invokevirtual 37, 3) := by decide +kernel
theorem dX4_far_25 : decode cX4_far 25 = .ok (.ireturn, 1) := by decide +kernel
theorem dX4_far_26 : decode cX4_far 26 = .ok (.aload_n 0, 1) := by decide +kernel
theorem dX4_far_27 : decode cX4_far 27 = .ok (.invokevirtual 140, 3) := by decide +kernel
theorem dX4_far_30 : decode cX4_far 30 = .ok (.iconst 0, 1) := by decide +kernel
theorem dX4_far_31 : decode cX4_far 31 = .ok (.istore_n 3, 1) := by decide +kernel
theorem dX4_far_32 : decode cX4_far 32 = .ok (.iconst (-1), 1) := by decide +kernel
theorem dX4_far_33 : decode cX4_far 33 = .ok (.istore 4, 2) := by decide +kernel
theorem dX4_far_35 : decode cX4_far 35 = .ok (.iconst 0, 1) := by decide +kernel
theorem dX4_far_36 : decode cX4_far 36 = .ok (.istore 5, 2) := by decide +kernel
theorem dX4_far_38 : decode cX4_far 38 = .ok (.iload 5, 2) := by decide +kernel
theorem dX4_far_40 : decode cX4_far 40 = .ok (.bipush 9, 2) := by decide +kernel
theorem dX4_far_42 : decode cX4_far 42 = .ok (.if_icmp .gt 65, 3) := by decide +kernel
theorem dX4_far_45 : decode cX4_far 45 = .ok (.aload_n 0, 1) := by decide +kernel
theorem dX4_far_46 : decode cX4_far 46 = .ok (.iload_n 1, 1) := by decide +kernel
theorem dX4_far_47 : decode cX4_far 47 = .ok (.iconst 2, 1) := by decide +kernel
theorem dX4_far_48 : decode cX4_far 48 = .ok (.iload 5, 2) := by decide +kernel
theorem dX4_far_50 : decode cX4_far 50 = .ok (.invokevirtual 82, 3) := by decide +kernel
theorem dX4_far_53 : decode cX4_far 53 = .ok (.aload_n 0, 1) := by decide +kernel
theorem dX4_far_54 : decode cX4_far 54 = .ok (.iload_n 2, 1) := by decide +kernel
theorem dX4_far_55 : decode cX4_far 55 = .ok (.invokevirtual 133, 3) := by decide +kernel
theorem dX4_far_58 : decode cX4_far 58 = .ok (.aload_n 0, 1) := by decide +kernel
theorem dX4_far_59 : decode cX4_far 59 = .ok (.iload_n 1, 1) := by decide +kernel
theorem dX4_far_60 : decode cX4_far 60 = .ok (.bipush 7, 2) := by decide +kernel
theorem dX4_far_62 : decode cX4_far 62 = .ok (.invokevirtual 45, 3) := by decide +kernel
theorem dX4_far_65 : decode cX4_far 65 = .ok (.istore 6, 2) := by decide +kernel
theorem dX4_far_67 : decode cX4_far 67 = .ok (.aload_n 0, 1) := by decide +kernel
theorem dX4_far_68 : decode cX4_far 68 = .ok (.invokevirtual 143, 3) := by decide +kernel
theorem dX4_far_71 : decode cX4_far 71 = .ok (.iload 6, 2) := by decide +kernel
theorem dX4_far_73 : decode cX4_far 73 = .ok (.iload 4, 2) := by decide +kernel
theorem dX4_far_75 : decode cX4_far 75 = .ok (.if_icmp .le 8, 3) := by decide +kernel
theorem dX4_far_78 : decode cX4_far 78 = .ok (.iload 5, 2) := by decide +kernel
theorem dX4_far_80 : decode cX4_far 80 = .ok (.goto 4, 3) := by decide +kernel
theorem dX4_far_83 : decode cX4_far 83 = .ok (.iload_n 3, 1) := by decide +kernel
theorem dX4_far_84 : decode cX4_far 84 = .ok (.istore_n 3, 1) := by decide +kernel
theorem dX4_far_85 : decode cX4_far 85 = .ok (.iload 6, 2) := by decide +kernel
theorem dX4_far_87 : decode cX4_far 87 = .ok (.iload 4, 2) := by decide +kernel
theorem dX4_far_89 : decode cX4_far 89 = .ok (.if_icmp .le 8, 3) := by decide +kernel
theorem dX4_far_92 : decode cX4_far 92 = .ok (.iload 6, 2) := by decide +kernel
theorem dX4_far_94 : decode cX4_far 94 = .ok (.goto 5, 3) := by decide +kernel
theorem dX4_far_97 : decode cX4_far 97 = .ok (.iload 4, 2) := by decide +kernel
theorem dX4_far_99 : decode cX4_far 99 = .ok (.istore 4, 2) := by decide +kernel
theorem dX4_far_101 : decode cX4_far 101 = .ok (.iinc 5 1, 3) := by decide +kernel
theorem dX4_far_104 : decode cX4_far 104 = .ok (.goto (-66), 3) := by decide +kernel
theorem dX4_far_107 : decode cX4_far 107 = .ok (.iload_n 3, 1) := by decide +kernel
theorem dX4_far_108 : decode cX4_far 108 = .ok (.ireturn, 1) := by decide +kernel
set_option maxRecDepth 20000 in
theorem ggX4_kind_X4_isThing : GoodIn wsX4_kind wsX4_isThing := goodIn_r _ [6, 7, 8, 9, 5, 10, 110, 111, 112, 113, 114, 115, 116, 117, 118, 119, 120, 121, 122, 123, 124] (by decide +kernel) (by decide +kernel)
set_option maxRecDepth 20000 in
theorem gX4_kind_X4_isThing : GoodIn wsX4_kind (wsV RX4 94 RX4 yX4_isThing wsX4_isThing) := goodIn_app (goodIn_of _ (by decide +kernel)) ggX4_kind_X4_isThing
set_option maxRecDepth 20000 in
theorem ggX4_kind_X4_in : GoodIn wsX4_kind wsX4_in := goodIn_r _ [10] (by decide +kernel) (by decide +kernel)
set_option maxRecDepth 20000 in
theorem gX4_kind_X4_in : GoodIn wsX4_kind (va_wsS RX4 41 yX4_in wsX4_in) := goodIn_app (goodIn_of _ (by decide +kernel)) ggX4_kind_X4_in
set_option maxRecDepth 20000 in
theorem ggX4_kind_X4_driest : GoodIn wsX4_kind wsX4_driest := goodIn_r _ [14, 7, 15, 16, 17, 5, 18, 19, 20, 21, 22, 23, 24, 25, 26, 27, 28, 29, 30, 31, 32, 33, 34, 35, 36, 37, 38, 39, 40, 41, 42, 43, 44, 45, 46, 47, 48, 49, 50, 51, 52, 53, 54, 55, 56, 57, 58, 59, 60, 61, 62, 63, 64, 65, 66, 67, 68, 69, 70, 71, 72, 73, 74, 75, 76, 77, 78, 79, 80, 81, 82, 83, 84, 85, 86, 87, 88, 89, 90, 91, 92, 93, 94, 95, 96, 97, 98, 99, 100, 101, 102, 103, 104, 110, 111, 112, 113, 114, 115, 116, 117, 118, 119, 120, 121, 122, 123, 124] (by decide +kernel) (by decide +kernel)
set_option maxRecDepth 20000 in
theorem gX4_kind_X4_driest : GoodIn wsX4_kind (wsV RX4 156 RX4 yX4_driest wsX4_driest) := goodIn_app (goodIn_of _ (by decide +kernel)) ggX4_kind_X4_driest
set_option maxRecDepth 20000 in
theorem ggX4_kind_X4_finds : GoodIn wsX4_kind wsX4_finds := goodIn_r _ [108, 109, 1, 110, 111, 112, 113, 114, 115, 116, 117, 118, 119, 120, 121, 122, 123, 124] (by decide +kernel) (by decide +kernel)
set_option maxRecDepth 20000 in
theorem gX4_kind_X4_finds : GoodIn wsX4_kind (wsV RX4 37 RX4 yX4_finds wsX4_finds) := goodIn_app (goodIn_of _ (by decide +kernel)) ggX4_kind_X4_finds
theorem dX4_kind_0 : decode cX4_kind 0 = .ok (.aload_n 0, 1) := by decide +kernel
theorem dX4_kind_1 : decode cX4_kind 1 = .ok (.iload_n 1, 1) := by decide +kernel
theorem dX4_kind_2 : decode cX4_kind 2 = .ok (.invokevirtual 94, 3) := by decide +kernel
theorem dX4_kind_5 : decode cX4_kind 5 = .ok (.ifCond .eq 31, 3) := by decide +kernel
theorem dX4_kind_8 : decode cX4_kind 8 = .ok (.iload_n 2, 1) := by decide +kernel
theorem dX4_kind_9 : decode cX4_kind 9 = .ok (.i2l, 1) := by decide +kernel
theorem dX4_kind_10 : decode cX4_kind 10 = .ok (.iconst 1, 1) := by decide +kernel
theorem dX4_kind_11 : decode cX4_kind 11 = .ok (.bipush 120, 2) := by decide +kernel
theorem dX4_kind_13 : decode cX4_kind 13 = .ok (.invokestatic 41, 3) := by decide +kernel
theorem dX4_kind_16 : decode cX4_kind 16 = .ok (.ifCond .eq 20, 3) := by decide +kernel
theorem dX4_kind_19 : decode cX4_kind 19 = .ok (.aload_n 0, 1) := by decide +kernel
theorem dX4_kind_20 : decode cX4_kind 20 = .ok (.iconst 5, 1) := by decide +kernel
theorem dX4_kind_21 : decode cX4_kind 21 = .ok (.bipush 8, 2) := by decide +kernel
theorem dX4_kind_23 : decode cX4_kind 23 = .ok (.iload_n 1, 1) := by decide +kernel
theorem dX4_kind_24 : decode cX4_kind 24 = .ok (.imul, 1) := by decide +kernel
theorem dX4_kind_25 : decode cX4_kind 25 = .ok (.iadd, 1) := by decide +kernel
theorem dX4_kind_26 : decode cX4_kind 26 = .ok (.iconst 0, 1) := by decide +kernel
theorem dX4_kind_27 : decode cX4_kind 27 = .ok (.iconst 5, 1) := by decide +kernel
theorem dX4_kind_28 : decode cX4_kind 28 = .ok (.iload_n 1, 1) := by decide +kernel
theorem dX4_kind_29 : decode cX4_kind 29 = .ok (.iload_n 2, 1) := by decide +kernel
theorem dX4_kind_30 : decode cX4_kind 30 = .ok (.invokevirtual 156, 3) := by decide +kernel
theorem dX4_kind_33 : decode cX4_kind 33 = .ok (.goto 9, 3) := by decide +kernel
theorem dX4_kind_36 : decode cX4_kind 36 = .ok (.aload_n 0, 1) := by decide +kernel
theorem dX4_kind_37 : decode cX4_kind 37 = .ok (.ldc 35, 2) := by decide +kernel
theorem dX4_kind_39 : decode cX4_kind 39 = .ok (.invokevirtual 37, 3) := by decide +kernel
theorem dX4_kind_42 : decode cX4_kind 42 = .ok (.ireturn, 1) := by decide +kernel
set_option maxRecDepth 20000 in
theorem ggX4_thick_X4_in : GoodIn wsX4_thick wsX4_in := goodIn_r _ [6] (by decide +kernel) (by decide +kernel)
set_option maxRecDepth 20000 in
theorem gX4_thick_X4_in : GoodIn wsX4_thick (va_wsS RX4 41 yX4_in wsX4_in) := goodIn_app (goodIn_of _ (by decide +kernel)) ggX4_thick_X4_in
set_option maxRecDepth 20000 in
theorem ggX4_thick_X4_finds : GoodIn wsX4_thick wsX4_finds := goodIn_r _ [10, 11, 1, 107, 108, 109, 110, 111, 112, 113, 114, 115, 116, 117, 118, 119, 120, 121] (by decide +kernel) (by decide +kernel)
set_option maxRecDepth 20000 in
theorem gX4_thick_X4_finds : GoodIn wsX4_thick (wsV RX4 37 RX4 yX4_finds wsX4_finds) := goodIn_app (goodIn_of _ (by decide +kernel)) ggX4_thick_X4_finds
set_option maxRecDepth 20000 in
theorem ggX4_thick_X4_thinks : GoodIn wsX4_thick wsX4_thinks := goodIn_r _ [15, 2, 16, 17, 18, 5, 19, 107, 108, 109, 110, 111, 112, 113, 114, 115, 116, 117, 118, 119, 120, 121] (by decide +kernel) (by decide +kernel)
set_option maxRecDepth 20000 in
theorem gX4_thick_X4_thinks : GoodIn wsX4_thick (wsV RX4 140 RX4 yX4_thinks wsX4_thinks) := goodIn_app (goodIn_of _ (by decide +kernel)) ggX4_thick_X4_thinks
set_option maxRecDepth 20000 in
theorem ggX4_thick_X4_goesFor : GoodIn wsX4_thick wsX4_goesFor := goodIn_r _ [23, 24, 25, 26, 5, 27, 2, 28, 29, 30, 31, 32, 33, 34, 35, 36, 37, 38, 39, 40, 41, 42, 43, 44, 45, 46, 47, 48, 49, 50, 51, 52, 53, 54, 55, 56, 57, 58, 59, 60, 61, 62, 63, 64, 65, 66, 67, 68, 69, 70, 71, 72, 73, 74, 75, 76, 77, 78, 79, 80, 81, 82, 83, 84, 85, 86, 87, 88, 89, 90, 91, 92, 93, 94, 95, 96, 97, 107, 108, 109, 110, 111, 112, 113, 114, 115, 116, 117, 118, 119, 120, 121] (by decide +kernel) (by decide +kernel)
set_option maxRecDepth 20000 in
theorem gX4_thick_X4_goesFor : GoodIn wsX4_thick (wsV RX4 133 RX4 yX4_goesFor wsX4_goesFor) := goodIn_app (goodIn_of _ (by decide +kernel)) ggX4_thick_X4_goesFor
set_option maxRecDepth 20000 in
theorem ggX4_thick_X4_setOf : GoodIn wsX4_thick wsX4_setOf := goodIn_r _ [31, 2, 32, 33, 34, 5, 35, 107, 108, 109, 110, 111, 112, 113, 114, 115, 116, 117, 118, 119, 120, 121] (by decide +kernel) (by decide +kernel)
set_option maxRecDepth 20000 in
theorem gX4_thick_X4_setOf : GoodIn wsX4_thick (wsV RX4 49 RX4 yX4_setOf wsX4_setOf) := goodIn_app (goodIn_of _ (by decide +kernel)) ggX4_thick_X4_setOf
set_option maxRecDepth 20000 in
theorem ggX4_thick_X4_bits : GoodIn wsX4_thick wsX4_bits := goodIn_r _ [54] (by decide +kernel) (by decide +kernel)
set_option maxRecDepth 20000 in
theorem gX4_thick_X4_bits : GoodIn wsX4_thick (va_wsS RX4 52 yX4_bits wsX4_bits) := goodIn_app (goodIn_of _ (by decide +kernel)) ggX4_thick_X4_bits
set_option maxRecDepth 20000 in
theorem ggX4_thick_X4_putsBack : GoodIn wsX4_thick wsX4_putsBack := goodIn_r _ [101, 16, 2, 17, 18, 5, 19, 107, 108, 109, 110, 111, 112, 113, 114, 115, 116, 117, 118, 119, 120, 121] (by decide +kernel) (by decide +kernel)
set_option maxRecDepth 20000 in
theorem gX4_thick_X4_putsBack : GoodIn wsX4_thick (wsV RX4 143 RX4 yX4_putsBack wsX4_putsBack) := goodIn_app (goodIn_of _ (by decide +kernel)) ggX4_thick_X4_putsBack
set_option maxRecDepth 20000 in
theorem ggX4_thick_X4_orNone : GoodIn wsX4_thick wsX4_orNone := goodIn_r _ [105, 106, 7, 8, 9, 5, 10, 11, 1, 107, 108, 109, 110, 111, 112, 113, 114, 115, 116, 117, 118, 119, 120, 121] (by decide +kernel) (by decide +kernel)
set_option maxRecDepth 20000 in
theorem gX4_thick_X4_orNone : GoodIn wsX4_thick (wsV RX4 150 RX4 yX4_orNone wsX4_orNone) := goodIn_app (goodIn_of _ (by decide +kernel)) ggX4_thick_X4_orNone
theorem dX4_thick_0 : decode cX4_thick 0 = .ok (.iload_n 1, 1) := by decide +kernel
theorem dX4_thick_1 : decode cX4_thick 1 = .ok (.i2l, 1) := by decide +kernel
theorem dX4_thick_2 : decode cX4_thick 2 = .ok (.iconst 0, 1) := by decide +kernel
theorem dX4_thick_3 : decode cX4_thick 3 = .ok (.bipush 120, 2) := by decide +kernel
theorem dX4_thick_5 : decode cX4_thick 5 = .ok (.invokestatic 41, 3) := by decide +kernel
theorem dX4_thick_8 : decode cX4_thick 8 = .ok (.ifCond .eq 14, 3) := by decide +kernel
theorem dX4_thick_11 : decode cX4_thick 11 = .ok (.iload_n 2, 1) := by decide +kernel
theorem dX4_thick_12 : decode cX4_thick 12 = .ok (.i2l, 1) := by decide +kernel
theorem dX4_thick_13 : decode cX4_thick 13 = .ok (.iconst 0, 1) := by decide +kernel
theorem dX4_thick_14 : decode cX4_thick 14 = .ok (.bipush 8, 2) := by decide +kernel
theorem dX4_thick_16 : decode cX4_thick 16 = .ok (.invokestatic 41, 3) := by decide +kernel
theorem dX4_thick_19 : decode cX4_thick 19 = .ok (.ifCond .ne 10, 3) := by decide +kernel
theorem dX4_thick_22 : decode cX4_thick 22 = .ok (.aload_n 0, 1) := by decide +kernel
theorem dX4_thick_23 : decode cX4_thick 23 = .ok (.ldc 35, 2) := by decide +kernel
theorem dX4_thick_25 : decode cX4_thick 25 = .ok (.invokevirtual 37, 3) := by decide +kernel
theorem dX4_thick_28 : decode cX4_thick 28 = .ok (.ireturn, 1) := by decide +kernel
theorem dX4_thick_29 : decode cX4_thick 29 = .ok (.aload_n 0, 1) := by decide +kernel
theorem dX4_thick_30 : decode cX4_thick 30 = .ok (.invokevirtual 140, 3) := by decide +kernel
theorem dX4_thick_33 : decode cX4_thick 33 = .ok (.iconst (-1), 1) := by decide +kernel
theorem dX4_thick_34 : decode cX4_thick 34 = .ok (.istore_n 3, 1) := by decide +kernel
theorem dX4_thick_35 : decode cX4_thick 35 = .ok (.iconst 1, 1) := by decide +kernel
theorem dX4_thick_36 : decode cX4_thick 36 = .ok (.istore 4, 2) := by decide +kernel
theorem dX4_thick_38 : decode cX4_thick 38 = .ok (.iload 4, 2) := by decide +kernel
theorem dX4_thick_40 : decode cX4_thick 40 = .ok (.bipush 40, 2) := by decide +kernel
theorem dX4_thick_42 : decode cX4_thick 42 = .ok (.if_icmp .gt 49, 3) := by decide +kernel
theorem dX4_thick_45 : decode cX4_thick 45 = .ok (.iload_n 3, 1) := by decide +kernel
theorem dX4_thick_46 : decode cX4_thick 46 = .ok (.ifCond .ge 45, 3) := by decide +kernel
theorem dX4_thick_49 : decode cX4_thick 49 = .ok (.aload_n 0, 1) := by decide +kernel
theorem dX4_thick_50 : decode cX4_thick 50 = .ok (.getfield 9, 3) := by decide +kernel
theorem dX4_thick_53 : decode cX4_thick 53 = .ok (.iconst 3, 1) := by decide +kernel
theorem dX4_thick_54 : decode cX4_thick 54 = .ok (.iload 4, 2) := by decide +kernel
theorem dX4_thick_56 : decode cX4_thick 56 = .ok (.iastore, 1) := by decide +kernel
theorem dX4_thick_57 : decode cX4_thick 57 = .ok (.aload_n 0, 1) := by decide +kernel
theorem dX4_thick_58 : decode cX4_thick 58 = .ok (.iload_n 1, 1) := by decide +kernel
theorem dX4_thick_59 : decode cX4_thick 59 = .ok (.invokevirtual 133, 3) := by decide +kernel
theorem dX4_thick_62 : decode cX4_thick 62 = .ok (.aload_n 0, 1) := by decide +kernel
theorem dX4_thick_63 : decode cX4_thick 63 = .ok (.iconst 3, 1) := by decide +kernel
theorem dX4_thick_64 : decode cX4_thick 64 = .ok (.invokevirtual 49, 3) := by decide +kernel
theorem dX4_thick_67 : decode cX4_thick 67 = .ok (.invokestatic 52, 3) := by decide +kernel
theorem dX4_thick_70 : decode cX4_thick 70 = .ok (.iload_n 2, 1) := by decide +kernel
theorem dX4_thick_71 : decode cX4_thick 71 = .ok (.if_icmp .lt 8, 3) := by decide +kernel
theorem dX4_thick_74 : decode cX4_thick 74 = .ok (.iload 4, 2) := by decide +kernel
theorem dX4_thick_76 : decode cX4_thick 76 = .ok (.goto 4, 3) := by decide +kernel
theorem dX4_thick_79 : decode cX4_thick 79 = .ok (.iconst (-1), 1) := by decide +kernel
theorem dX4_thick_80 : decode cX4_thick 80 = .ok (.istore_n 3, 1) := by decide +kernel
theorem dX4_thick_81 : decode cX4_thick 81 = .ok (.aload_n 0, 1) := by decide +kernel
theorem dX4_thick_82 : decode cX4_thick 82 = .ok (.invokevirtual 143, 3) := by decide +kernel
theorem dX4_thick_85 : decode cX4_thick 85 = .ok (.iinc 4 1, 3) := by decide +kernel
theorem dX4_thick_88 : decode cX4_thick 88 = .ok (.goto (-50), 3) := by decide +kernel
theorem dX4_thick_91 : decode cX4_thick 91 = .ok (.aload_n 0, 1) := by decide +kernel
theorem dX4_thick_92 : decode cX4_thick 92 = .ok (.iload_n 3, 1) := by decide +kernel
theorem dX4_thick_93 : decode cX4_thick 93 = .ok (.invokevirtual 150, 3) := by decide +kernel
theorem dX4_thick_96 : decode cX4_thick 96 = .ok (.ireturn, 1) := by decide +kernel
set_option maxRecDepth 20000 in
theorem ggX4_save_X4_in : GoodIn wsX4_save wsX4_in := goodIn_r _ [6] (by decide +kernel) (by decide +kernel)
set_option maxRecDepth 20000 in
theorem gX4_save_X4_in : GoodIn wsX4_save (va_wsS RX4 41 yX4_in wsX4_in) := goodIn_app (goodIn_of _ (by decide +kernel)) ggX4_save_X4_in
set_option maxRecDepth 20000 in
theorem ggX4_save_X4_finds : GoodIn wsX4_save wsX4_finds := goodIn_r _ [10, 11, 1, 107, 108, 109, 110, 111, 112, 113, 114, 115, 116, 117, 118, 119, 120, 121] (by decide +kernel) (by decide +kernel)
set_option maxRecDepth 20000 in
theorem gX4_save_X4_finds : GoodIn wsX4_save (wsV RX4 37 RX4 yX4_finds wsX4_finds) := goodIn_app (goodIn_of _ (by decide +kernel)) ggX4_save_X4_finds
set_option maxRecDepth 20000 in
theorem ggX4_save_X4_thinks : GoodIn wsX4_save wsX4_thinks := goodIn_r _ [15, 2, 16, 17, 18, 5, 19, 107, 108, 109, 110, 111, 112, 113, 114, 115, 116, 117, 118, 119, 120, 121] (by decide +kernel) (by decide +kernel)
set_option maxRecDepth 20000 in
theorem gX4_save_X4_thinks : GoodIn wsX4_save (wsV RX4 140 RX4 yX4_thinks wsX4_thinks) := goodIn_app (goodIn_of _ (by decide +kernel)) ggX4_save_X4_thinks
set_option maxRecDepth 20000 in
theorem ggX4_save_X4_isOn : GoodIn wsX4_save wsX4_isOn := goodIn_r _ [23, 24, 25, 26, 5, 27, 2, 107, 108, 109, 110, 111, 112, 113, 114, 115, 116, 117, 118, 119, 120, 121] (by decide +kernel) (by decide +kernel)
set_option maxRecDepth 20000 in
theorem gX4_save_X4_isOn : GoodIn wsX4_save (wsV RX4 62 RX4 yX4_isOn wsX4_isOn) := goodIn_app (goodIn_of _ (by decide +kernel)) ggX4_save_X4_isOn
set_option maxRecDepth 20000 in
theorem ggX4_save_X4_goesOff : GoodIn wsX4_save wsX4_goesOff := goodIn_r _ [31, 32, 33, 34, 5, 35, 2, 107, 108, 109, 110, 111, 112, 113, 114, 115, 116, 117, 118, 119, 120, 121] (by decide +kernel) (by decide +kernel)
set_option maxRecDepth 20000 in
theorem gX4_save_X4_goesOff : GoodIn wsX4_save (wsV RX4 112 RX4 yX4_goesOff wsX4_goesOff) := goodIn_app (goodIn_of _ (by decide +kernel)) ggX4_save_X4_goesOff
set_option maxRecDepth 20000 in
theorem ggX4_save_X4_goesFor : GoodIn wsX4_save wsX4_goesFor := goodIn_r _ [39, 40, 41, 42, 5, 43, 2, 44, 45, 46, 47, 24, 25, 26, 27, 48, 49, 50, 51, 20, 21, 22, 23, 52, 53, 54, 55, 56, 57, 58, 59, 60, 61, 62, 28, 29, 30, 31, 32, 33, 34, 35, 63, 64, 65, 66, 67, 68, 69, 70, 71, 72, 73, 74, 75, 76, 77, 78, 79, 80, 81, 82, 83, 84, 85, 86, 87, 88, 89, 90, 91, 92, 93, 94, 95, 96, 97, 107, 108, 109, 110, 111, 112, 113, 114, 115, 116, 117, 118, 119, 120, 121] (by decide +kernel) (by decide +kernel)
set_option maxRecDepth 20000 in
theorem gX4_save_X4_goesFor : GoodIn wsX4_save (wsV RX4 133 RX4 yX4_goesFor wsX4_goesFor) := goodIn_app (goodIn_of _ (by decide +kernel)) ggX4_save_X4_goesFor
set_option maxRecDepth 20000 in
theorem ggX4_save_X4_setOf : GoodIn wsX4_save wsX4_setOf := goodIn_r _ [47, 2, 24, 25, 26, 5, 27, 107, 108, 109, 110, 111, 112, 113, 114, 115, 116, 117, 118, 119, 120, 121] (by decide +kernel) (by decide +kernel)
set_option maxRecDepth 20000 in
theorem gX4_save_X4_setOf : GoodIn wsX4_save (wsV RX4 49 RX4 yX4_setOf wsX4_setOf) := goodIn_app (goodIn_of _ (by decide +kernel)) ggX4_save_X4_setOf
set_option maxRecDepth 20000 in
theorem ggX4_save_X4_bits : GoodIn wsX4_save wsX4_bits := goodIn_r _ [62] (by decide +kernel) (by decide +kernel)
set_option maxRecDepth 20000 in
theorem gX4_save_X4_bits : GoodIn wsX4_save (va_wsS RX4 52 yX4_bits wsX4_bits) := goodIn_app (goodIn_of _ (by decide +kernel)) ggX4_save_X4_bits
set_option maxRecDepth 20000 in
theorem ggX4_save_X4_putsBack : GoodIn wsX4_save wsX4_putsBack := goodIn_r _ [101, 16, 2, 17, 18, 5, 19, 107, 108, 109, 110, 111, 112, 113, 114, 115, 116, 117, 118, 119, 120, 121] (by decide +kernel) (by decide +kernel)
set_option maxRecDepth 20000 in
theorem gX4_save_X4_putsBack : GoodIn wsX4_save (wsV RX4 143 RX4 yX4_putsBack wsX4_putsBack) := goodIn_app (goodIn_of _ (by decide +kernel)) ggX4_save_X4_putsBack
set_option maxRecDepth 20000 in
theorem ggX4_save_X4_orNone : GoodIn wsX4_save wsX4_orNone := goodIn_r _ [105, 106, 7, 8, 9, 5, 10, 11, 1, 107, 108, 109, 110, 111, 112, 113, 114, 115, 116, 117, 118, 119, 120, 121] (by decide +kernel) (by decide +kernel)
set_option maxRecDepth 20000 in
theorem gX4_save_X4_orNone : GoodIn wsX4_save (wsV RX4 150 RX4 yX4_orNone wsX4_orNone) := goodIn_app (goodIn_of _ (by decide +kernel)) ggX4_save_X4_orNone
theorem dX4_save_0 : decode cX4_save 0 = .ok (.iload_n 1, 1) := by decide +kernel
theorem dX4_save_1 : decode cX4_save 1 = .ok (.i2l, 1) := by decide +kernel
theorem dX4_save_2 : decode cX4_save 2 = .ok (.iconst 1, 1) := by decide +kernel
theorem dX4_save_3 : decode cX4_save 3 = .ok (.bipush 120, 2) := by decide +kernel
theorem dX4_save_5 : decode cX4_save 5 = .ok (.invokestatic 41, 3) := by decide +kernel
theorem dX4_save_8 : decode cX4_save 8 = .ok (.ifCond .ne 10, 3) := by decide +kernel
theorem dX4_save_11 : decode cX4_save 11 = .ok (.aload_n 0, 1) := by decide +kernel
theorem dX4_save_12 : decode cX4_save 12 = .ok (.ldc 35, 2) := by decide +kernel
theorem dX4_save_14 : decode cX4_save 14 = .ok (.invokevirtual 37, 3) := by decide +kernel
theorem dX4_save_17 : decode cX4_save 17 = .ok (.ireturn, 1) := by decide +kernel
theorem dX4_save_18 : decode cX4_save 18 = .ok (.aload_n 0, 1) := by decide +kernel
theorem dX4_save_19 : decode cX4_save 19 = .ok (.invokevirtual 140, 3) := by decide +kernel
theorem dX4_save_22 : decode cX4_save 22 = .ok (.iconst (-1), 1) := by decide +kernel
theorem dX4_save_23 : decode cX4_save 23 = .ok (.istore_n 2, 1) := by decide +kernel
theorem dX4_save_24 : decode cX4_save 24 = .ok (.bipush 9, 2) := by decide +kernel
theorem dX4_save_26 : decode cX4_save 26 = .ok (.istore_n 3, 1) := by decide +kernel
theorem dX4_save_27 : decode cX4_save 27 = .ok (.iconst 0, 1) := by decide +kernel
theorem dX4_save_28 : decode cX4_save 28 = .ok (.istore 4, 2) := by decide +kernel
theorem dX4_save_30 : decode cX4_save 30 = .ok (.iload 4, 2) := by decide +kernel
theorem dX4_save_32 : decode cX4_save 32 = .ok (.aload_n 0, 1) := by decide +kernel
theorem dX4_save_33 : decode cX4_save 33 = .ok (.getfield 9, 3) := by decide +kernel
theorem dX4_save_36 : decode cX4_save 36 = .ok (.iconst 4, 1) := by decide +kernel
theorem dX4_save_37 : decode cX4_save 37 = .ok (.iaload, 1) := by decide +kernel
theorem dX4_save_38 : decode cX4_save 38 = .ok (.if_icmp .ge 76, 3) := by decide +kernel
theorem dX4_save_41 : decode cX4_save 41 = .ok (.aload_n 0, 1) := by decide +kernel
theorem dX4_save_42 : decode cX4_save 42 = .ok (.iload 4, 2) := by decide +kernel
theorem dX4_save_44 : decode cX4_save 44 = .ok (.invokevirtual 62, 3) := by decide +kernel
theorem dX4_save_47 : decode cX4_save 47 = .ok (.ifCond .eq 61, 3) := by decide +kernel
theorem dX4_save_50 : decode cX4_save 50 = .ok (.aload_n 0, 1) := by decide +kernel
theorem dX4_save_51 : decode cX4_save 51 = .ok (.iload 4, 2) := by decide +kernel
theorem dX4_save_53 : decode cX4_save 53 = .ok (.aload_n 0, 1) := by decide +kernel
theorem dX4_save_54 : decode cX4_save 54 = .ok (.getfield 9, 3) := by decide +kernel
theorem dX4_save_57 : decode cX4_save 57 = .ok (.iconst 1, 1) := by decide +kernel
theorem dX4_save_58 : decode cX4_save 58 = .ok (.iaload, 1) := by decide +kernel
theorem dX4_save_59 : decode cX4_save 59 = .ok (.invokevirtual 112, 3) := by decide +kernel
theorem dX4_save_62 : decode cX4_save 62 = .ok (.aload_n 0, 1) := by decide +kernel
theorem dX4_save_63 : decode cX4_save 63 = .ok (.iload_n 1, 1) := by decide +kernel
theorem dX4_save_64 : decode cX4_save 64 = .ok (.invokevirtual 133, 3) := by decide +kernel
theorem dX4_save_67 : decode cX4_save 67 = .ok (.aload_n 0, 1) := by decide +kernel
theorem dX4_save_68 : decode cX4_save 68 = .ok (.bipush 6, 2) := by decide +kernel
theorem dX4_save_70 : decode cX4_save 70 = .ok (.invokevirtual 49, 3) := by decide +kernel
theorem dX4_save_73 : decode cX4_save 73 = .ok (.invokestatic 52, 3) := by decide +kernel
theorem dX4_save_76 : decode cX4_save 76 = .ok (.istore 5, 2) := by decide +kernel
theorem dX4_save_78 : decode cX4_save 78 = .ok (.aload_n 0, 1) := by decide +kernel
theorem dX4_save_79 : decode cX4_save 79 = .ok (.invokevirtual 143, 3) := by decide +kernel
theorem dX4_save_82 : decode cX4_save 82 = .ok (.iload 5, 2) := by decide +kernel
theorem dX4_save_84 : decode cX4_save 84 = .ok (.iload_n 3, 1) := by decide +kernel
theorem dX4_save_85 : decode cX4_save 85 = .ok (.if_icmp .ge 8, 3) := by decide +kernel
theorem dX4_save_88 : decode cX4_save 88 = .ok (.iload 4, 2) := by decide +kernel
theorem dX4_save_90 : decode cX4_save 90 = .ok (.goto 4, 3) := by decide +kernel
theorem dX4_save_93 : decode cX4_save 93 = .ok (.iload_n 2, 1) := by decide +kernel
theorem dX4_save_94 : decode cX4_save 94 = .ok (.istore_n 2, 1) := by decide +kernel
theorem dX4_save_95 : decode cX4_save 95 = .ok (.iload 5, 2) := by decide +kernel
theorem dX4_save_97 : decode cX4_save 97 = .ok (.iload_n 3, 1) := by decide +kernel
theorem dX4_save_98 : decode cX4_save 98 = .ok (.if_icmp .ge 8, 3) := by decide +kernel
theorem dX4_save_101 : decode cX4_save 101 = .ok (.iload 5, 2) := by decide +kernel
theorem dX4_save_103 : decode cX4_save 103 = .ok (.goto 4, 3) := by decide +kernel
theorem dX4_save_106 : decode cX4_save 106 = .ok (.iload_n 3, 1) := by decide +kernel
theorem dX4_save_107 : decode cX4_save 107 = .ok (.istore_n 3, 1) := by decide +kernel
theorem dX4_save_108 : decode cX4_save 108 = .ok (.iinc 4 1, 3) := by decide +kernel
theorem dX4_save_111 : decode cX4_save 111 = .ok (.goto (-81), 3) := by decide +kernel
theorem dX4_save_114 : decode cX4_save 114 = .ok (.aload_n 0, 1) := by decide +kernel
theorem dX4_save_115 : decode cX4_save 115 = .ok (.iload_n 2, 1) := by decide +kernel
theorem dX4_save_116 : decode cX4_save 116 = .ok (.invokevirtual 150, 3) := by decide +kernel
theorem dX4_save_119 : decode cX4_save 119 = .ok (.ireturn, 1) := by decide +kernel
set_option maxRecDepth 20000 in
theorem ggX4_goal_X4_isThing : GoodIn wsX4_goal wsX4_isThing := goodIn_r _ [6, 7, 8, 9, 5, 10, 111, 112, 113, 114, 115, 116, 117, 118, 119, 120, 121, 122, 123, 124, 125] (by decide +kernel) (by decide +kernel)
set_option maxRecDepth 20000 in
theorem gX4_goal_X4_isThing : GoodIn wsX4_goal (wsV RX4 94 RX4 yX4_isThing wsX4_isThing) := goodIn_app (goodIn_of _ (by decide +kernel)) ggX4_goal_X4_isThing
set_option maxRecDepth 20000 in
theorem ggX4_goal_X4_finds : GoodIn wsX4_goal wsX4_finds := goodIn_r _ [14, 15, 1, 111, 112, 113, 114, 115, 116, 117, 118, 119, 120, 121, 122, 123, 124, 125] (by decide +kernel) (by decide +kernel)
set_option maxRecDepth 20000 in
theorem gX4_goal_X4_finds : GoodIn wsX4_goal (wsV RX4 37 RX4 yX4_finds wsX4_finds) := goodIn_app (goodIn_of _ (by decide +kernel)) ggX4_goal_X4_finds
set_option maxRecDepth 20000 in
theorem ggX4_goal_X4_thinks : GoodIn wsX4_goal wsX4_thinks := goodIn_r _ [19, 7, 20, 21, 22, 5, 23, 111, 112, 113, 114, 115, 116, 117, 118, 119, 120, 121, 122, 123, 124, 125] (by decide +kernel) (by decide +kernel)
set_option maxRecDepth 20000 in
theorem gX4_goal_X4_thinks : GoodIn wsX4_goal (wsV RX4 140 RX4 yX4_thinks wsX4_thinks) := goodIn_app (goodIn_of _ (by decide +kernel)) ggX4_goal_X4_thinks
set_option maxRecDepth 20000 in
theorem ggX4_goal_X4_put : GoodIn wsX4_goal wsX4_put := goodIn_r _ [27, 7, 111, 112, 113, 114, 115, 116, 117, 118, 119, 120, 121, 122, 123, 124, 125] (by decide +kernel) (by decide +kernel)
set_option maxRecDepth 20000 in
theorem gX4_goal_X4_put : GoodIn wsX4_goal (wsV RX4 82 RX4 yX4_put wsX4_put) := goodIn_app (goodIn_of _ (by decide +kernel)) ggX4_goal_X4_put
set_option maxRecDepth 20000 in
theorem ggX4_goal_X4_arrivesIn : GoodIn wsX4_goal wsX4_arrivesIn := goodIn_r _ [31, 32, 33, 34, 5, 35, 36, 37, 38, 39, 7, 40, 41, 42, 43, 44, 45, 46, 47, 48, 49, 50, 51, 52, 53, 54, 55, 56, 57, 58, 59, 60, 61, 62, 63, 64, 65, 66, 24, 25, 26, 27, 67, 68, 69, 70, 71, 72, 73, 74, 75, 76, 77, 78, 79, 80, 81, 82, 83, 84, 85, 86, 87, 88, 89, 90, 91, 92, 93, 94, 95, 96, 97, 98, 99, 100, 101, 102, 103, 104, 105, 20, 21, 22, 23, 111, 112, 113, 114, 115, 116, 117, 118, 119, 120, 121, 122, 123, 124, 125] (by decide +kernel) (by decide +kernel)
set_option maxRecDepth 20000 in
theorem gX4_goal_X4_arrivesIn : GoodIn wsX4_goal (wsV RX4 153 RX4 yX4_arrivesIn wsX4_arrivesIn) := goodIn_app (goodIn_of _ (by decide +kernel)) ggX4_goal_X4_arrivesIn
set_option maxRecDepth 20000 in
theorem ggX4_goal_X4_orNone : GoodIn wsX4_goal wsX4_orNone := goodIn_r _ [109, 110, 11, 12, 13, 5, 14, 15, 1, 111, 112, 113, 114, 115, 116, 117, 118, 119, 120, 121, 122, 123, 124, 125] (by decide +kernel) (by decide +kernel)
set_option maxRecDepth 20000 in
theorem gX4_goal_X4_orNone : GoodIn wsX4_goal (wsV RX4 150 RX4 yX4_orNone wsX4_orNone) := goodIn_app (goodIn_of _ (by decide +kernel)) ggX4_goal_X4_orNone
theorem dX4_goal_0 : decode cX4_goal 0 = .ok (.aload_n 0, 1) := by decide +kernel
theorem dX4_goal_1 : decode cX4_goal 1 = .ok (.iload_n 1, 1) := by decide +kernel
theorem dX4_goal_2 : decode cX4_goal 2 = .ok (.invokevirtual 94, 3) := by decide +kernel
theorem dX4_goal_5 : decode cX4_goal 5 = .ok (.ifCond .ne 10, 3) := by decide +kernel
theorem dX4_goal_8 : decode cX4_goal 8 = .ok (.aload_n 0, 1) := by decide +kernel
theorem dX4_goal_9 : decode cX4_goal 9 = .ok (.ldc 35, 2) := by decide +kernel
theorem dX4_goal_11 : decode cX4_goal 11 = .ok (.invokevirtual 37, 3) := by decide +kernel
theorem dX4_goal_14 : decode cX4_goal 14 = .ok (.ireturn, 1) := by decide +kernel
theorem dX4_goal_15 : decode cX4_goal 15 = .ok (.aload_n 0, 1) := by decide +kernel
theorem dX4_goal_16 : decode cX4_goal 16 = .ok (.invokevirtual 140, 3) := by decide +kernel
theorem dX4_goal_19 : decode cX4_goal 19 = .ok (.iconst (-1), 1) := by decide +kernel
theorem dX4_goal_20 : decode cX4_goal 20 = .ok (.istore_n 2, 1) := by decide +kernel
theorem dX4_goal_21 : decode cX4_goal 21 = .ok (.bipush 121, 2) := by decide +kernel
theorem dX4_goal_23 : decode cX4_goal 23 = .ok (.istore_n 3, 1) := by decide +kernel
theorem dX4_goal_24 : decode cX4_goal 24 = .ok (.iconst 0, 1) := by decide +kernel
theorem dX4_goal_25 : decode cX4_goal 25 = .ok (.istore 4, 2) := by decide +kernel
theorem dX4_goal_27 : decode cX4_goal 27 = .ok (.iload 4, 2) := by decide +kernel
theorem dX4_goal_29 : decode cX4_goal 29 = .ok (.bipush 60, 2) := by decide +kernel
theorem dX4_goal_31 : decode cX4_goal 31 = .ok (.if_icmp .ge 68, 3) := by decide +kernel
theorem dX4_goal_34 : decode cX4_goal 34 = .ok (.aload_n 0, 1) := by decide +kernel
theorem dX4_goal_35 : decode cX4_goal 35 = .ok (.iload_n 1, 1) := by decide +kernel
theorem dX4_goal_36 : decode cX4_goal 36 = .ok (.iconst 5, 1) := by decide +kernel
theorem dX4_goal_37 : decode cX4_goal 37 = .ok (.iload 4, 2) := by decide +kernel
theorem dX4_goal_39 : decode cX4_goal 39 = .ok (.invokevirtual 82, 3) := by decide +kernel
theorem dX4_goal_42 : decode cX4_goal 42 = .ok (.aload_n 0, 1) := by decide +kernel
theorem dX4_goal_43 : decode cX4_goal 43 = .ok (.iload_n 1, 1) := by decide +kernel
theorem dX4_goal_44 : decode cX4_goal 44 = .ok (.bipush 120, 2) := by decide +kernel
theorem dX4_goal_46 : decode cX4_goal 46 = .ok (.invokevirtual 153, 3) := by decide +kernel
theorem dX4_goal_49 : decode cX4_goal 49 = .ok (.istore 5, 2) := by decide +kernel
theorem dX4_goal_51 : decode cX4_goal 51 = .ok (.iload 5, 2) := by decide +kernel
theorem dX4_goal_53 : decode cX4_goal 53 = .ok (.ifCond .le 13, 3) := by decide +kernel
theorem dX4_goal_56 : decode cX4_goal 56 = .ok (.iload 5, 2) := by decide +kernel
theorem dX4_goal_58 : decode cX4_goal 58 = .ok (.iload_n 3, 1) := by decide +kernel
theorem dX4_goal_59 : decode cX4_goal 59 = .ok (.if_icmp .ge 7, 3) := by decide +kernel
theorem dX4_goal_62 : decode cX4_goal 62 = .ok (.iconst 1, 1) := by decide +kernel
theorem dX4_goal_63 : decode cX4_goal 63 = .ok (.goto 4, 3) := by decide +kernel
theorem dX4_goal_66 : decode cX4_goal 66 = .ok (.iconst 0, 1) := by decide +kernel
theorem dX4_goal_67 : decode cX4_goal 67 = .ok (.istore 6, 2) := by decide +kernel
theorem dX4_goal_69 : decode cX4_goal 69 = .ok (.iload 6, 2) := by decide +kernel
theorem dX4_goal_71 : decode cX4_goal 71 = .ok (.ifCond .eq 8, 3) := by decide +kernel
theorem dX4_goal_74 : decode cX4_goal 74 = .ok (.iload 4, 2) := by decide +kernel
theorem dX4_goal_76 : decode cX4_goal 76 = .ok (.goto 4, 3) := by decide +kernel
theorem dX4_goal_79 : decode cX4_goal 79 = .ok (.iload_n 2, 1) := by decide +kernel
theorem dX4_goal_80 : decode cX4_goal 80 = .ok (.istore_n 2, 1) := by decide +kernel
theorem dX4_goal_81 : decode cX4_goal 81 = .ok (.iload 6, 2) := by decide +kernel
theorem dX4_goal_83 : decode cX4_goal 83 = .ok (.ifCond .eq 8, 3) := by decide +kernel
theorem dX4_goal_86 : decode cX4_goal 86 = .ok (.iload 5, 2) := by decide +kernel
theorem dX4_goal_88 : decode cX4_goal 88 = .ok (.goto 4, 3) := by decide +kernel
theorem dX4_goal_91 : decode cX4_goal 91 = .ok (.iload_n 3, 1) := by decide +kernel
theorem dX4_goal_92 : decode cX4_goal 92 = .ok (.istore_n 3, 1) := by decide +kernel
theorem dX4_goal_93 : decode cX4_goal 93 = .ok (.iinc 4 1, 3) := by decide +kernel
theorem dX4_goal_96 : decode cX4_goal 96 = .ok (.goto (-69), 3) := by decide +kernel
theorem dX4_goal_99 : decode cX4_goal 99 = .ok (.aload_n 0, 1) := by decide +kernel
theorem dX4_goal_100 : decode cX4_goal 100 = .ok (.iload_n 2, 1) := by decide +kernel
theorem dX4_goal_101 : decode cX4_goal 101 = .ok (.invokevirtual 150, 3) := by decide +kernel
theorem dX4_goal_104 : decode cX4_goal 104 = .ok (.ireturn, 1) := by decide +kernel
set_option maxRecDepth 20000 in
theorem ggX4_feed_X4_in : GoodIn wsX4_feed wsX4_in := goodIn_r _ [8] (by decide +kernel) (by decide +kernel)
set_option maxRecDepth 20000 in
theorem gX4_feed_X4_in : GoodIn wsX4_feed (va_wsS RX4 41 yX4_in wsX4_in) := goodIn_app (goodIn_of _ (by decide +kernel)) ggX4_feed_X4_in
set_option maxRecDepth 20000 in
theorem ggX4_feed_X4_finds : GoodIn wsX4_feed wsX4_finds := goodIn_r _ [12, 13, 1, 14, 15, 16, 17, 18, 19, 20, 21, 22, 23, 24, 25, 26, 27, 28] (by decide +kernel) (by decide +kernel)
set_option maxRecDepth 20000 in
theorem gX4_feed_X4_finds : GoodIn wsX4_feed (wsV RX4 37 RX4 yX4_finds wsX4_finds) := goodIn_app (goodIn_of _ (by decide +kernel)) ggX4_feed_X4_finds
theorem dX4_feed_0 : decode cX4_feed 0 = .ok (.iload_n 2, 1) := by decide +kernel
theorem dX4_feed_1 : decode cX4_feed 1 = .ok (.i2l, 1) := by decide +kernel
theorem dX4_feed_2 : decode cX4_feed 2 = .ok (.iconst 1, 1) := by decide +kernel
theorem dX4_feed_3 : decode cX4_feed 3 = .ok (.iconst 4, 1) := by decide +kernel
theorem dX4_feed_4 : decode cX4_feed 4 = .ok (.invokestatic 41, 3) := by decide +kernel
theorem dX4_feed_7 : decode cX4_feed 7 = .ok (.ifCond .ne 10, 3) := by decide +kernel
theorem dX4_feed_10 : decode cX4_feed 10 = .ok (.aload_n 0, 1) := by decide +kernel
theorem dX4_feed_11 : decode cX4_feed 11 = .ok (.ldc 35, 2) := by decide +kernel
theorem dX4_feed_13 : decode cX4_feed 13 = .ok (.invokevirtual 37, 3) := by decide +kernel
theorem dX4_feed_16 : decode cX4_feed 16 = .ok (.ireturn, 1) := by decide +kernel
theorem dX4_feed_17 : decode cX4_feed 17 = .ok (.aload_n 0, 1) := by decide +kernel
theorem dX4_feed_18 : decode cX4_feed 18 = .ok (.getfield 159, 3) := by decide +kernel
theorem dX4_feed_21 : decode cX4_feed 21 = .ok (.iload_n 2, 1) := by decide +kernel
theorem dX4_feed_22 : decode cX4_feed 22 = .ok (.iadd, 1) := by decide +kernel
theorem dX4_feed_23 : decode cX4_feed 23 = .ok (.bipush 120, 2) := by decide +kernel
theorem dX4_feed_25 : decode cX4_feed 25 = .ok (.if_icmp .le 10, 3) := by decide +kernel
theorem dX4_feed_28 : decode cX4_feed 28 = .ok (.aload_n 0, 1) := by decide +kernel
theorem dX4_feed_29 : decode cX4_feed 29 = .ok (.ldc 89, 2) := by decide +kernel
theorem dX4_feed_31 : decode cX4_feed 31 = .ok (.invokevirtual 37, 3) := by decide +kernel
theorem dX4_feed_34 : decode cX4_feed 34 = .ok (.ireturn, 1) := by decide +kernel
theorem dX4_feed_35 : decode cX4_feed 35 = .ok (.iload_n 2, 1) := by decide +kernel
theorem dX4_feed_36 : decode cX4_feed 36 = .ok (.iconst 1, 1) := by decide +kernel
theorem dX4_feed_37 : decode cX4_feed 37 = .ok (.isub, 1) := by decide +kernel
theorem dX4_feed_38 : decode cX4_feed 38 = .ok (.istore_n 3, 1) := by decide +kernel
theorem dX4_feed_39 : decode cX4_feed 39 = .ok (.iload_n 3, 1) := by decide +kernel
theorem dX4_feed_40 : decode cX4_feed 40 = .ok (.ifCond .lt 38, 3) := by decide +kernel
theorem dX4_feed_43 : decode cX4_feed 43 = .ok (.aload_n 0, 1) := by decide +kernel
theorem dX4_feed_44 : decode cX4_feed 44 = .ok (.getfield 22, 3) := by decide +kernel
theorem dX4_feed_47 : decode cX4_feed 47 = .ok (.aload_n 0, 1) := by decide +kernel
theorem dX4_feed_48 : decode cX4_feed 48 = .ok (.getfield 159, 3) := by decide +kernel
theorem dX4_feed_51 : decode cX4_feed 51 = .ok (.iload_n 1, 1) := by decide +kernel
theorem dX4_feed_52 : decode cX4_feed 52 = .ok (.bipush 8, 2) := by decide +kernel
theorem dX4_feed_54 : decode cX4_feed 54 = .ok (.iload_n 3, 1) := by decide +kernel
theorem dX4_feed_55 : decode cX4_feed 55 = .ok (.imul, 1) := by decide +kernel
theorem dX4_feed_56 : decode cX4_feed 56 = .ok (.ishr, 1) := by decide +kernel
theorem dX4_feed_57 : decode cX4_feed 57 = .ok (.sipush 255, 3) := by decide +kernel
theorem dX4_feed_60 : decode cX4_feed 60 = .ok (.iand, 1) := by decide +kernel
theorem dX4_feed_61 : decode cX4_feed 61 = .ok (.iastore, 1) := by decide +kernel
theorem dX4_feed_62 : decode cX4_feed 62 = .ok (.aload_n 0, 1) := by decide +kernel
theorem dX4_feed_63 : decode cX4_feed 63 = .ok (.dup, 1) := by decide +kernel
theorem dX4_feed_64 : decode cX4_feed 64 = .ok (.getfield 159, 3) := by decide +kernel
theorem dX4_feed_67 : decode cX4_feed 67 = .ok (.iconst 1, 1) := by decide +kernel
theorem dX4_feed_68 : decode cX4_feed 68 = .ok (.iadd, 1) := by decide +kernel
theorem dX4_feed_69 : decode cX4_feed 69 = .ok (.putfield 159, 3) := by decide +kernel
theorem dX4_feed_72 : decode cX4_feed 72 = .ok (.iinc 3 (-1), 3) := by decide +kernel
theorem dX4_feed_75 : decode cX4_feed 75 = .ok (.goto (-36), 3) := by decide +kernel
theorem dX4_feed_78 : decode cX4_feed 78 = .ok (.aload_n 0, 1) := by decide +kernel
theorem dX4_feed_79 : decode cX4_feed 79 = .ok (.getfield 159, 3) := by decide +kernel
theorem dX4_feed_82 : decode cX4_feed 82 = .ok (.ireturn, 1) := by decide +kernel
theorem dX4_wipe_0 : decode cX4_wipe 0 = .ok (.aload_n 0, 1) := by decide +kernel
theorem dX4_wipe_1 : decode cX4_wipe 1 = .ok (.getfield 159, 3) := by decide +kernel
theorem dX4_wipe_4 : decode cX4_wipe 4 = .ok (.istore_n 1, 1) := by decide +kernel
theorem dX4_wipe_5 : decode cX4_wipe 5 = .ok (.aload_n 0, 1) := by decide +kernel
theorem dX4_wipe_6 : decode cX4_wipe 6 = .ok (.iconst 0, 1) := by decide +kernel
theorem dX4_wipe_7 : decode cX4_wipe 7 = .ok (.putfield 159, 3) := by decide +kernel
theorem dX4_wipe_10 : decode cX4_wipe 10 = .ok (.iload_n 1, 1) := by decide +kernel
theorem dX4_wipe_11 : decode cX4_wipe 11 = .ok (.ireturn, 1) := by decide +kernel
set_option maxRecDepth 20000 in
theorem ggX4_isByte_X4_in : GoodIn wsX4_isByte wsX4_in := goodIn_r _ [6] (by decide +kernel) (by decide +kernel)
set_option maxRecDepth 20000 in
theorem gX4_isByte_X4_in : GoodIn wsX4_isByte (va_wsS RX4 41 yX4_in wsX4_in) := goodIn_app (goodIn_of _ (by decide +kernel)) ggX4_isByte_X4_in
theorem dX4_isByte_0 : decode cX4_isByte 0 = .ok (.iload_n 1, 1) := by decide +kernel
theorem dX4_isByte_1 : decode cX4_isByte 1 = .ok (.aload_n 0, 1) := by decide +kernel
theorem dX4_isByte_2 : decode cX4_isByte 2 = .ok (.getfield 159, 3) := by decide +kernel
theorem dX4_isByte_5 : decode cX4_isByte 5 = .ok (.if_icmp .ge 22, 3) := by decide +kernel
theorem dX4_isByte_8 : decode cX4_isByte 8 = .ok (.aload_n 0, 1) := by decide +kernel
theorem dX4_isByte_9 : decode cX4_isByte 9 = .ok (.getfield 22, 3) := by decide +kernel
theorem dX4_isByte_12 : decode cX4_isByte 12 = .ok (.iload_n 1, 1) := by decide +kernel
theorem dX4_isByte_13 : decode cX4_isByte 13 = .ok (.iaload, 1) := by decide +kernel
theorem dX4_isByte_14 : decode cX4_isByte 14 = .ok (.i2l, 1) := by decide +kernel
theorem dX4_isByte_15 : decode cX4_isByte 15 = .ok (.iload_n 2, 1) := by decide +kernel
theorem dX4_isByte_16 : decode cX4_isByte 16 = .ok (.iload_n 3, 1) := by decide +kernel
theorem dX4_isByte_17 : decode cX4_isByte 17 = .ok (.invokestatic 41, 3) := by decide +kernel
theorem dX4_isByte_20 : decode cX4_isByte 20 = .ok (.ifCond .eq 7, 3) := by decide +kernel
theorem dX4_isByte_23 : decode cX4_isByte 23 = .ok (.iconst 1, 1) := by decide +kernel
theorem dX4_isByte_24 : decode cX4_isByte 24 = .ok (.goto 4, 3) := by decide +kernel
theorem dX4_isByte_27 : decode cX4_isByte 27 = .ok (.iconst 0, 1) := by decide +kernel
theorem dX4_isByte_28 : decode cX4_isByte 28 = .ok (.ireturn, 1) := by decide +kernel
theorem dX4_isName_0 : decode cX4_isName 0 = .ok (.iload_n 2, 1) := by decide +kernel
theorem dX4_isName_1 : decode cX4_isName 1 = .ok (.bipush 7, 2) := by decide +kernel
theorem dX4_isName_3 : decode cX4_isName 3 = .ok (.if_icmp .gt 26, 3) := by decide +kernel
theorem dX4_isName_6 : decode cX4_isName 6 = .ok (.iload_n 2, 1) := by decide +kernel
theorem dX4_isName_7 : decode cX4_isName 7 = .ok (.bipush 7, 2) := by decide +kernel
theorem dX4_isName_9 : decode cX4_isName 9 = .ok (.if_icmp .eq 16, 3) := by decide +kernel
theorem dX4_isName_12 : decode cX4_isName 12 = .ok (.getstatic 163, 3) := by decide +kernel
theorem dX4_isName_15 : decode cX4_isName 15 = .ok (.bipush 7, 2) := by decide +kernel
theorem dX4_isName_17 : decode cX4_isName 17 = .ok (.iload_n 1, 1) := by decide +kernel
theorem dX4_isName_18 : decode cX4_isName 18 = .ok (.imul, 1) := by decide +kernel
theorem dX4_isName_19 : decode cX4_isName 19 = .ok (.iload_n 2, 1) := by decide +kernel
theorem dX4_isName_20 : decode cX4_isName 20 = .ok (.iadd, 1) := by decide +kernel
theorem dX4_isName_21 : decode cX4_isName 21 = .ok (.iaload, 1) := by decide +kernel
theorem dX4_isName_22 : decode cX4_isName 22 = .ok (.ifCond .ne 7, 3) := by decide +kernel
theorem dX4_isName_25 : decode cX4_isName 25 = .ok (.iconst 1, 1) := by decide +kernel
theorem dX4_isName_26 : decode cX4_isName 26 = .ok (.goto 4, 3) := by decide +kernel
theorem dX4_isName_29 : decode cX4_isName 29 = .ok (.iconst 0, 1) := by decide +kernel
theorem dX4_isName_30 : decode cX4_isName 30 = .ok (.istore_n 3, 1) := by decide +kernel
theorem dX4_isName_31 : decode cX4_isName 31 = .ok (.iconst 0, 1) := by decide +kernel
theorem dX4_isName_32 : decode cX4_isName 32 = .ok (.istore 4, 2) := by decide +kernel
theorem dX4_isName_34 : decode cX4_isName 34 = .ok (.iload 4, 2) := by decide +kernel
theorem dX4_isName_36 : decode cX4_isName 36 = .ok (.iload_n 2, 1) := by decide +kernel
theorem dX4_isName_37 : decode cX4_isName 37 = .ok (.if_icmp .ge 45, 3) := by decide +kernel
theorem dX4_isName_40 : decode cX4_isName 40 = .ok (.iload_n 3, 1) := by decide +kernel
theorem dX4_isName_41 : decode cX4_isName 41 = .ok (.ifCond .eq 41, 3) := by decide +kernel
theorem dX4_isName_44 : decode cX4_isName 44 = .ok (.getstatic 163, 3) := by decide +kernel
theorem dX4_isName_47 : decode cX4_isName 47 = .ok (.bipush 7, 2) := by decide +kernel
theorem dX4_isName_49 : decode cX4_isName 49 = .ok (.iload_n 1, 1) := by decide +kernel
theorem dX4_isName_50 : decode cX4_isName 50 = .ok (.imul, 1) := by decide +kernel
theorem dX4_isName_51 : decode cX4_isName 51 = .ok (.iload 4, 2) := by decide +kernel
theorem dX4_isName_53 : decode cX4_isName 53 = .ok (.iadd, 1) := by decide +kernel
theorem dX4_isName_54 : decode cX4_isName 54 = .ok (.iaload, 1) := by decide +kernel
theorem dX4_isName_55 : decode cX4_isName 55 = .ok (.aload_n 0, 1) := by decide +kernel
theorem dX4_isName_56 : decode cX4_isName 56 = .ok (.getfield 22, 3) := by decide +kernel
theorem dX4_isName_59 : decode cX4_isName 59 = .ok (.aload_n 0, 1) := by decide +kernel
theorem dX4_isName_60 : decode cX4_isName 60 = .ok (.getfield 166, 3) := by decide +kernel
theorem dX4_isName_63 : decode cX4_isName 63 = .ok (.iload 4, 2) := by decide +kernel
theorem dX4_isName_65 : decode cX4_isName 65 = .ok (.iadd, 1) := by decide +kernel
theorem dX4_isName_66 : decode cX4_isName 66 = .ok (.iaload, 1) := by decide +kernel
theorem dX4_isName_67 : decode cX4_isName 67 = .ok (.if_icmp .ne 7, 3) := by decide +kernel
theorem dX4_isName_70 : decode cX4_isName 70 = .ok (.iconst 1, 1) := by decide +kernel
theorem dX4_isName_71 : decode cX4_isName 71 = .ok (.goto 4, 3) := by decide +kernel
theorem dX4_isName_74 : decode cX4_isName 74 = .ok (.iconst 0, 1) := by decide +kernel
theorem dX4_isName_75 : decode cX4_isName 75 = .ok (.istore_n 3, 1) := by decide +kernel
theorem dX4_isName_76 : decode cX4_isName 76 = .ok (.iinc 4 1, 3) := by decide +kernel
theorem dX4_isName_79 : decode cX4_isName 79 = .ok (.goto (-45), 3) := by decide +kernel
theorem dX4_isName_82 : decode cX4_isName 82 = .ok (.iload_n 3, 1) := by decide +kernel
theorem dX4_isName_83 : decode cX4_isName 83 = .ok (.ireturn, 1) := by decide +kernel
set_option maxRecDepth 20000 in
theorem ggX4_wordHere_X4_isName : GoodIn wsX4_wordHere wsX4_isName := goodIn_r _ [7, 8, 9, 2, 10, 11, 12, 13, 14, 15, 16, 17, 18, 19, 20, 21, 22, 23, 24] (by decide +kernel) (by decide +kernel)
set_option maxRecDepth 20000 in
theorem gX4_wordHere_X4_isName : GoodIn wsX4_wordHere (wsV RX4 172 RX4 yX4_isName wsX4_isName) := goodIn_app (goodIn_of _ (by decide +kernel)) ggX4_wordHere_X4_isName
theorem dX4_wordHere_0 : decode cX4_wordHere 0 = .ok (.iconst 0, 1) := by decide +kernel
theorem dX4_wordHere_1 : decode cX4_wordHere 1 = .ok (.istore_n 1, 1) := by decide +kernel
theorem dX4_wordHere_2 : decode cX4_wordHere 2 = .ok (.iload_n 1, 1) := by decide +kernel
theorem dX4_wordHere_3 : decode cX4_wordHere 3 = .ok (.bipush 12, 2) := by decide +kernel
theorem dX4_wordHere_5 : decode cX4_wordHere 5 = .ok (.if_icmp .ge 26, 3) := by decide +kernel
theorem dX4_wordHere_8 : decode cX4_wordHere 8 = .ok (.aload_n 0, 1) := by decide +kernel
theorem dX4_wordHere_9 : decode cX4_wordHere 9 = .ok (.iload_n 1, 1) := by decide +kernel
theorem dX4_wordHere_10 : decode cX4_wordHere 10 = .ok (.aload_n 0, 1) := by decide +kernel
theorem dX4_wordHere_11 : decode cX4_wordHere 11 = .ok (.getfield 169, 3) := by decide +kernel
theorem dX4_wordHere_14 : decode cX4_wordHere 14 = .ok (.aload_n 0, 1) := by decide +kernel
theorem dX4_wordHere_15 : decode cX4_wordHere 15 = .ok (.getfield 166, 3) := by decide +kernel
theorem dX4_wordHere_18 : decode cX4_wordHere 18 = .ok (.isub, 1) := by decide +kernel
theorem dX4_wordHere_19 : decode cX4_wordHere 19 = .ok (.invokevirtual 172, 3) := by decide +kernel
theorem dX4_wordHere_22 : decode cX4_wordHere 22 = .ok (.ifCond .ne 9, 3) := by decide +kernel
theorem dX4_wordHere_25 : decode cX4_wordHere 25 = .ok (.iinc 1 1, 3) := by decide +kernel
theorem dX4_wordHere_28 : decode cX4_wordHere 28 = .ok (.goto (-26), 3) := by decide +kernel
theorem dX4_wordHere_31 : decode cX4_wordHere 31 = .ok (.iload_n 1, 1) := by decide +kernel
theorem dX4_wordHere_32 : decode cX4_wordHere 32 = .ok (.bipush 12, 2) := by decide +kernel
theorem dX4_wordHere_34 : decode cX4_wordHere 34 = .ok (.if_icmp .ge 7, 3) := by decide +kernel
theorem dX4_wordHere_37 : decode cX4_wordHere 37 = .ok (.iload_n 1, 1) := by decide +kernel
theorem dX4_wordHere_38 : decode cX4_wordHere 38 = .ok (.goto 5, 3) := by decide +kernel
theorem dX4_wordHere_41 : decode cX4_wordHere 41 = .ok (.bipush 23, 2) := by decide +kernel
theorem dX4_wordHere_43 : decode cX4_wordHere 43 = .ok (.ireturn, 1) := by decide +kernel
set_option maxRecDepth 20000 in
theorem ggX4_reads_X4_isByte : GoodIn wsX4_reads wsX4_isByte := goodIn_r _ [11, 4, 6, 12, 13, 10, 14, 24, 25, 26, 27, 28, 29, 30, 31, 32, 33, 34, 35, 36, 37, 38] (by decide +kernel) (by decide +kernel)
set_option maxRecDepth 20000 in
theorem gX4_reads_X4_isByte : GoodIn wsX4_reads (wsV RX4 175 RX4 yX4_isByte wsX4_isByte) := goodIn_app (goodIn_of _ (by decide +kernel)) ggX4_reads_X4_isByte
set_option maxRecDepth 20000 in
theorem ggX4_reads_X4_wordHere : GoodIn wsX4_reads wsX4_wordHere := goodIn_r _ [18, 1, 2, 19, 20, 21, 10, 22, 23, 6, 24, 25, 26, 27, 28, 29, 30, 31, 32, 33, 34, 35, 36, 37, 38] (by decide +kernel) (by decide +kernel)
set_option maxRecDepth 20000 in
theorem gX4_reads_X4_wordHere : GoodIn wsX4_reads (wsV RX4 185 RX4 yX4_wordHere wsX4_wordHere) := goodIn_app (goodIn_of _ (by decide +kernel)) ggX4_reads_X4_wordHere
theorem dX4_reads_0 : decode cX4_reads 0 = .ok (.aload_n 0, 1) := by decide +kernel
theorem dX4_reads_1 : decode cX4_reads 1 = .ok (.aload_n 0, 1) := by decide +kernel
theorem dX4_reads_2 : decode cX4_reads 2 = .ok (.getfield 169, 3) := by decide +kernel
theorem dX4_reads_5 : decode cX4_reads 5 = .ok (.bipush 32, 2) := by decide +kernel
theorem dX4_reads_7 : decode cX4_reads 7 = .ok (.bipush 32, 2) := by decide +kernel
theorem dX4_reads_9 : decode cX4_reads 9 = .ok (.invokevirtual 175, 3) := by decide +kernel
theorem dX4_reads_12 : decode cX4_reads 12 = .ok (.ifCond .eq 16, 3) := by decide +kernel
theorem dX4_reads_15 : decode cX4_reads 15 = .ok (.aload_n 0, 1) := by decide +kernel
theorem dX4_reads_16 : decode cX4_reads 16 = .ok (.dup, 1) := by decide +kernel
theorem dX4_reads_17 : decode cX4_reads 17 = .ok (.getfield 169, 3) := by decide +kernel
theorem dX4_reads_20 : decode cX4_reads 20 = .ok (.iconst 1, 1) := by decide +kernel
theorem dX4_reads_21 : decode cX4_reads 21 = .ok (.iadd, 1) := by decide +kernel
theorem dX4_reads_22 : decode cX4_reads 22 = .ok (.putfield 169, 3) := by decide +kernel
theorem dX4_reads_25 : decode cX4_reads 25 = .ok (.goto (-25), 3) := by decide +kernel
theorem dX4_reads_28 : decode cX4_reads 28 = .ok (.aload_n 0, 1) := by decide +kernel
theorem dX4_reads_29 : decode cX4_reads 29 = .ok (.aload_n 0, 1) := by decide +kernel
theorem dX4_reads_30 : decode cX4_reads 30 = .ok (.getfield 169, 3) := by decide +kernel
theorem dX4_reads_33 : decode cX4_reads 33 = .ok (.putfield 166, 3) := by decide +kernel
theorem dX4_reads_36 : decode cX4_reads 36 = .ok (.aload_n 0, 1) := by decide +kernel
theorem dX4_reads_37 : decode cX4_reads 37 = .ok (.iconst 0, 1) := by decide +kernel
theorem dX4_reads_38 : decode cX4_reads 38 = .ok (.putfield 179, 3) := by decide +kernel
theorem dX4_reads_41 : decode cX4_reads 41 = .ok (.aload_n 0, 1) := by decide +kernel
theorem dX4_reads_42 : decode cX4_reads 42 = .ok (.getfield 169, 3) := by decide +kernel
theorem dX4_reads_45 : decode cX4_reads 45 = .ok (.aload_n 0, 1) := by decide +kernel
theorem dX4_reads_46 : decode cX4_reads 46 = .ok (.getfield 159, 3) := by decide +kernel
theorem dX4_reads_49 : decode cX4_reads 49 = .ok (.if_icmp .ne 12, 3) := by decide +kernel
theorem dX4_reads_52 : decode cX4_reads 52 = .ok (.aload_n 0, 1) := by decide +kernel
theorem dX4_reads_53 : decode cX4_reads 53 = .ok (.bipush 22, 2) := by decide +kernel
theorem dX4_reads_55 : decode cX4_reads 55 = .ok (.putfield 182, 3) := by decide +kernel
theorem dX4_reads_58 : decode cX4_reads 58 = .ok (.goto 186, 3) := by decide +kernel
theorem dX4_reads_61 : decode cX4_reads 61 = .ok (.aload_n 0, 1) := by decide +kernel
theorem dX4_reads_62 : decode cX4_reads 62 = .ok (.aload_n 0, 1) := by decide +kernel
theorem dX4_reads_63 : decode cX4_reads 63 = .ok (.getfield 169, 3) := by decide +kernel
theorem dX4_reads_66 : decode cX4_reads 66 = .ok (.bipush 97, 2) := by decide +kernel
theorem dX4_reads_68 : decode cX4_reads 68 = .ok (.bipush 122, 2) := by decide +kernel
theorem dX4_reads_70 : decode cX4_reads 70 = .ok (.invokevirtual 175, 3) := by decide +kernel
theorem dX4_reads_73 : decode cX4_reads 73 = .ok (.ifCond .eq 42, 3) := by decide +kernel
theorem dX4_reads_76 : decode cX4_reads 76 = .ok (.aload_n 0, 1) := by decide +kernel
theorem dX4_reads_77 : decode cX4_reads 77 = .ok (.aload_n 0, 1) := by decide +kernel
theorem dX4_reads_78 : decode cX4_reads 78 = .ok (.getfield 169, 3) := by decide +kernel
theorem dX4_reads_81 : decode cX4_reads 81 = .ok (.bipush 97, 2) := by decide +kernel
theorem dX4_reads_83 : decode cX4_reads 83 = .ok (.bipush 122, 2) := by decide +kernel
theorem dX4_reads_85 : decode cX4_reads 85 = .ok (.invokevirtual 175, 3) := by decide +kernel
theorem dX4_reads_88 : decode cX4_reads 88 = .ok (.ifCond .eq 16, 3) := by decide +kernel
theorem dX4_reads_91 : decode cX4_reads 91 = .ok (.aload_n 0, 1) := by decide +kernel
theorem dX4_reads_92 : decode cX4_reads 92 = .ok (.dup, 1) := by decide +kernel
theorem dX4_reads_93 : decode cX4_reads 93 = .ok (.getfield 169, 3) := by decide +kernel
theorem dX4_reads_96 : decode cX4_reads 96 = .ok (.iconst 1, 1) := by decide +kernel
theorem dX4_reads_97 : decode cX4_reads 97 = .ok (.iadd, 1) := by decide +kernel
theorem dX4_reads_98 : decode cX4_reads 98 = .ok (.putfield 169, 3) := by decide +kernel
theorem dX4_reads_101 : decode cX4_reads 101 = .ok (.goto (-25), 3) := by decide +kernel
theorem dX4_reads_104 : decode cX4_reads 104 = .ok (.aload_n 0, 1) := by decide +kernel
theorem dX4_reads_105 : decode cX4_reads 105 = .ok (.aload_n 0, 1) := by decide +kernel
theorem dX4_reads_106 : decode cX4_reads 106 = .ok (.invokevirtual 185, 3) := by decide +kernel
theorem dX4_reads_109 : decode cX4_reads 109 = .ok (.putfield 182, 3) := by decide +kernel
theorem dX4_reads_112 : decode cX4_reads 112 = .ok (.goto 132, 3) := by decide +kernel
theorem dX4_reads_115 : decode cX4_reads 115 = .ok (.aload_n 0, 1) := by decide +kernel
theorem dX4_reads_116 : decode cX4_reads 116 = .ok (.aload_n 0, 1) := by decide +kernel
theorem dX4_reads_117 : decode cX4_reads 117 = .ok (.getfield 169, 3) := by decide +kernel
theorem dX4_reads_120 : decode cX4_reads 120 = .ok (.bipush 48, 2) := by decide +kernel
theorem dX4_reads_122 : decode cX4_reads 122 = .ok (.bipush 57, 2) := by decide +kernel
theorem dX4_reads_124 : decode cX4_reads 124 = .ok (.invokevirtual 175, 3) := by decide +kernel
theorem dX4_reads_127 : decode cX4_reads 127 = .ok (.ifCond .eq 81, 3) := by decide +kernel
theorem dX4_reads_130 : decode cX4_reads 130 = .ok (.aload_n 0, 1) := by decide +kernel
theorem dX4_reads_131 : decode cX4_reads 131 = .ok (.aload_n 0, 1) := by decide +kernel
theorem dX4_reads_132 : decode cX4_reads 132 = .ok (.getfield 169, 3) := by decide +kernel
theorem dX4_reads_135 : decode cX4_reads 135 = .ok (.bipush 48, 2) := by decide +kernel
theorem dX4_reads_137 : decode cX4_reads 137 = .ok (.bipush 57, 2) := by decide +kernel
theorem dX4_reads_139 : decode cX4_reads 139 = .ok (.invokevirtual 175, 3) := by decide +kernel
theorem dX4_reads_142 : decode cX4_reads 142 = .ok (.ifCond .eq 57, 3) := by decide +kernel
theorem dX4_reads_145 : decode cX4_reads 145 = .ok (.aload_n 0, 1) := by decide +kernel
theorem dX4_reads_146 : decode cX4_reads 146 = .ok (.aload_n 0, 1) := by decide +kernel
theorem dX4_reads_147 : decode cX4_reads 147 = .ok (.getfield 179, 3) := by decide +kernel
theorem dX4_reads_150 : decode cX4_reads 150 = .ok (.sipush 999, 3) := by decide +kernel
theorem dX4_reads_153 : decode cX4_reads 153 = .ok (.if_icmp .le 10, 3) := by decide +kernel
theorem dX4_reads_156 : decode cX4_reads 156 = .ok (.aload_n 0, 1) := by decide +kernel
theorem dX4_reads_157 : decode cX4_reads 157 = .ok (.getfield 179, 3) := by decide +kernel
theorem dX4_reads_160 : decode cX4_reads 160 = .ok (.goto 23, 3) := by decide +kernel
theorem dX4_reads_163 : decode cX4_reads 163 = .ok (.bipush 10, 2) := by decide +kernel
theorem dX4_reads_165 : decode cX4_reads 165 = .ok (.aload_n 0, 1) := by decide +kernel
theorem dX4_reads_166 : decode cX4_reads 166 = .ok (.getfield 179, 3) := by decide +kernel
theorem dX4_reads_169 : decode cX4_reads 169 = .ok (.imul, 1) := by decide +kernel
theorem dX4_reads_170 : decode cX4_reads 170 = .ok (.aload_n 0, 1) := by decide +kernel
theorem dX4_reads_171 : decode cX4_reads 171 = .ok (.getfield 22, 3) := by decide +kernel
theorem dX4_reads_174 : decode cX4_reads 174 = .ok (.aload_n 0, 1) := by decide +kernel
theorem dX4_reads_175 : decode cX4_reads 175 = .ok (.getfield 169, 3) := by decide +kernel
theorem dX4_reads_178 : decode cX4_reads 178 = .ok (.iaload, 1) := by decide +kernel
theorem dX4_reads_179 : decode cX4_reads 179 = .ok (.iadd, 1) := by decide +kernel
theorem dX4_reads_180 : decode cX4_reads 180 = .ok (.bipush 48, 2) := by decide +kernel
theorem dX4_reads_182 : decode cX4_reads 182 = .ok (.isub, 1) := by decide +kernel
theorem dX4_reads_183 : decode cX4_reads 183 = .ok (.putfield 179, 3) := by decide +kernel
theorem dX4_reads_186 : decode cX4_reads 186 = .ok (.aload_n 0, 1) := by decide +kernel
theorem dX4_reads_187 : decode cX4_reads 187 = .ok (.dup, 1) := by decide +kernel
theorem dX4_reads_188 : decode cX4_reads 188 = .ok (.getfield 169, 3) := by decide +kernel
theorem dX4_reads_191 : decode cX4_reads 191 = .ok (.iconst 1, 1) := by decide +kernel
theorem dX4_reads_192 : decode cX4_reads 192 = .ok (.iadd, 1) := by decide +kernel
theorem dX4_reads_193 : decode cX4_reads 193 = .ok (.putfield 169, 3) := by decide +kernel
theorem dX4_reads_196 : decode cX4_reads 196 = .ok (.goto (-66), 3) := by decide +kernel
theorem dX4_reads_199 : decode cX4_reads 199 = .ok (.aload_n 0, 1) := by decide +kernel
theorem dX4_reads_200 : decode cX4_reads 200 = .ok (.bipush 20, 2) := by decide +kernel
theorem dX4_reads_202 : decode cX4_reads 202 = .ok (.putfield 182, 3) := by decide +kernel
theorem dX4_reads_205 : decode cX4_reads 205 = .ok (.goto 39, 3) := by decide +kernel
theorem dX4_reads_208 : decode cX4_reads 208 = .ok (.aload_n 0, 1) := by decide +kernel
theorem dX4_reads_209 : decode cX4_reads 209 = .ok (.aload_n 0, 1) := by decide +kernel
theorem dX4_reads_210 : decode cX4_reads 210 = .ok (.aload_n 0, 1) := by decide +kernel
theorem dX4_reads_211 : decode cX4_reads 211 = .ok (.getfield 169, 3) := by decide +kernel
theorem dX4_reads_214 : decode cX4_reads 214 = .ok (.bipush 59, 2) := by decide +kernel
theorem dX4_reads_216 : decode cX4_reads 216 = .ok (.bipush 59, 2) := by decide +kernel
theorem dX4_reads_218 : decode cX4_reads 218 = .ok (.invokevirtual 175, 3) := by decide +kernel
theorem dX4_reads_221 : decode cX4_reads 221 = .ok (.ifCond .eq 8, 3) := by decide +kernel
theorem dX4_reads_224 : decode cX4_reads 224 = .ok (.bipush 21, 2) := by decide +kernel
theorem dX4_reads_226 : decode cX4_reads 226 = .ok (.goto 5, 3) := by decide +kernel
theorem dX4_reads_229 : decode cX4_reads 229 = .ok (.bipush 23, 2) := by decide +kernel
theorem dX4_reads_231 : decode cX4_reads 231 = .ok (.putfield 182, 3) := by decide +kernel
theorem dX4_reads_234 : decode cX4_reads 234 = .ok (.aload_n 0, 1) := by decide +kernel
theorem dX4_reads_235 : decode cX4_reads 235 = .ok (.dup, 1) := by decide +kernel
theorem dX4_reads_236 : decode cX4_reads 236 = .ok (.getfield 169, 3) := by decide +kernel
theorem dX4_reads_239 : decode cX4_reads 239 = .ok (.iconst 1, 1) := by decide +kernel
theorem dX4_reads_240 : decode cX4_reads 240 = .ok (.iadd, 1) := by decide +kernel
theorem dX4_reads_241 : decode cX4_reads 241 = .ok (.putfield 169, 3) := by decide +kernel
theorem dX4_reads_244 : decode cX4_reads 244 = .ok (.return_, 1) := by decide +kernel
set_option maxRecDepth 20000 in
theorem ggX4_passesBy_X4_reads : GoodIn wsX4_passesBy wsX4_reads := goodIn_r _ [7, 8, 9, 10, 11, 2, 12, 13, 14, 15, 6, 16, 17, 18, 19, 20, 21, 22, 23, 24, 25, 26, 27, 28, 29, 30, 31, 32, 33, 34, 35, 36, 37, 38, 39, 40, 41, 42, 43] (by decide +kernel) (by decide +kernel)
set_option maxRecDepth 20000 in
theorem gX4_passesBy_X4_reads : GoodIn wsX4_passesBy (wsV RX4 192 RX4 yX4_reads wsX4_reads) := goodIn_app (goodIn_of _ (by decide +kernel)) ggX4_passesBy_X4_reads
theorem dX4_passesBy_0 : decode cX4_passesBy 0 = .ok (.aload_n 0, 1) := by decide +kernel
theorem dX4_passesBy_1 : decode cX4_passesBy 1 = .ok (.getfield 188, 3) := by decide +kernel
theorem dX4_passesBy_4 : decode cX4_passesBy 4 = .ok (.ifCond .ne 11, 3) := by decide +kernel
theorem dX4_passesBy_7 : decode cX4_passesBy 7 = .ok (.aload_n 0, 1) := by decide +kernel
theorem dX4_passesBy_8 : decode cX4_passesBy 8 = .ok (.getfield 182, 3) := by decide +kernel
theorem dX4_passesBy_11 : decode cX4_passesBy 11 = .ok (.iload_n 1, 1) := by decide +kernel
theorem dX4_passesBy_12 : decode cX4_passesBy 12 = .ok (.if_icmp .eq 5, 3) := by decide +kernel
theorem dX4_passesBy_15 : decode cX4_passesBy 15 = .ok (.iconst 0, 1) := by decide +kernel
theorem dX4_passesBy_16 : decode cX4_passesBy 16 = .ok (.ireturn, 1) := by decide +kernel
theorem dX4_passesBy_17 : decode cX4_passesBy 17 = .ok (.aload_n 0, 1) := by decide +kernel
theorem dX4_passesBy_18 : decode cX4_passesBy 18 = .ok (.invokevirtual 192, 3) := by decide +kernel
theorem dX4_passesBy_21 : decode cX4_passesBy 21 = .ok (.iconst 1, 1) := by decide +kernel
theorem dX4_passesBy_22 : decode cX4_passesBy 22 = .ok (.ireturn, 1) := by decide +kernel
set_option maxRecDepth 20000 in
theorem ggX4_number_X4_in : GoodIn wsX4_number wsX4_in := goodIn_r _ [7] (by decide +kernel) (by decide +kernel)
set_option maxRecDepth 20000 in
theorem gX4_number_X4_in : GoodIn wsX4_number (va_wsS RX4 41 yX4_in wsX4_in) := goodIn_app (goodIn_of _ (by decide +kernel)) ggX4_number_X4_in
set_option maxRecDepth 20000 in
theorem ggX4_number_X4_reads : GoodIn wsX4_number wsX4_reads := goodIn_r _ [11, 12, 13, 1, 14, 3, 15, 16, 17, 18, 6, 19, 4, 5, 7, 20, 21, 22, 23, 24, 25, 26, 27, 28, 29, 30, 31, 32, 33, 34, 35, 36, 37, 38, 39, 40, 41, 42, 43] (by decide +kernel) (by decide +kernel)
set_option maxRecDepth 20000 in
theorem gX4_number_X4_reads : GoodIn wsX4_number (wsV RX4 192 RX4 yX4_reads wsX4_reads) := goodIn_app (goodIn_of _ (by decide +kernel)) ggX4_number_X4_reads
theorem dX4_number_0 : decode cX4_number 0 = .ok (.aload_n 0, 1) := by decide +kernel
theorem dX4_number_1 : decode cX4_number 1 = .ok (.getfield 179, 3) := by decide +kernel
theorem dX4_number_4 : decode cX4_number 4 = .ok (.istore_n 3, 1) := by decide +kernel
theorem dX4_number_5 : decode cX4_number 5 = .ok (.aload_n 0, 1) := by decide +kernel
theorem dX4_number_6 : decode cX4_number 6 = .ok (.aload_n 0, 1) := by decide +kernel
theorem dX4_number_7 : decode cX4_number 7 = .ok (.getfield 188, 3) := by decide +kernel
theorem dX4_number_10 : decode cX4_number 10 = .ok (.ifCond .ne 22, 3) := by decide +kernel
theorem dX4_number_13 : decode cX4_number 13 = .ok (.aload_n 0, 1) := by decide +kernel
theorem dX4_number_14 : decode cX4_number 14 = .ok (.getfield 182, 3) := by decide +kernel
theorem dX4_number_17 : decode cX4_number 17 = .ok (.bipush 20, 2) := by decide +kernel
theorem dX4_number_19 : decode cX4_number 19 = .ok (.if_icmp .ne 13, 3) := by decide +kernel
theorem dX4_number_22 : decode cX4_number 22 = .ok (.iload_n 3, 1) := by decide +kernel
theorem dX4_number_23 : decode cX4_number 23 = .ok (.i2l, 1) := by decide +kernel
theorem dX4_number_24 : decode cX4_number 24 = .ok (.iload_n 1, 1) := by decide +kernel
theorem dX4_number_25 : decode cX4_number 25 = .ok (.iload_n 2, 1) := by decide +kernel
theorem dX4_number_26 : decode cX4_number 26 = .ok (.invokestatic 41, 3) := by decide +kernel
theorem dX4_number_29 : decode cX4_number 29 = .ok (.ifCond .ne 7, 3) := by decide +kernel
theorem dX4_number_32 : decode cX4_number 32 = .ok (.iconst 1, 1) := by decide +kernel
theorem dX4_number_33 : decode cX4_number 33 = .ok (.goto 4, 3) := by decide +kernel
theorem dX4_number_36 : decode cX4_number 36 = .ok (.iconst 0, 1) := by decide +kernel
theorem dX4_number_37 : decode cX4_number 37 = .ok (.putfield 188, 3) := by decide +kernel
theorem dX4_number_40 : decode cX4_number 40 = .ok (.aload_n 0, 1) := by decide +kernel
theorem dX4_number_41 : decode cX4_number 41 = .ok (.getfield 188, 3) := by decide +kernel
theorem dX4_number_44 : decode cX4_number 44 = .ok (.ifCond .ne 7, 3) := by decide +kernel
theorem dX4_number_47 : decode cX4_number 47 = .ok (.aload_n 0, 1) := by decide +kernel
theorem dX4_number_48 : decode cX4_number 48 = .ok (.invokevirtual 192, 3) := by decide +kernel
theorem dX4_number_51 : decode cX4_number 51 = .ok (.iload_n 3, 1) := by decide +kernel
theorem dX4_number_52 : decode cX4_number 52 = .ok (.ireturn, 1) := by decide +kernel
set_option maxRecDepth 20000 in
theorem ggX4_perhaps_X4_passesBy : GoodIn wsX4_perhaps wsX4_passesBy := goodIn_r _ [5, 6, 7, 8, 9, 10, 4, 11, 12, 13, 14, 15, 16, 17, 18, 19, 20, 21, 22, 23, 24, 25, 26, 27, 28, 29, 30, 31, 32, 37, 38, 39, 40, 41, 42, 43, 44, 45, 46, 47, 48, 49, 50, 51] (by decide +kernel) (by decide +kernel)
set_option maxRecDepth 20000 in
theorem gX4_perhaps_X4_passesBy : GoodIn wsX4_perhaps (wsV RX4 195 RX4 yX4_passesBy wsX4_passesBy) := goodIn_app (goodIn_of _ (by decide +kernel)) ggX4_perhaps_X4_passesBy
set_option maxRecDepth 20000 in
theorem ggX4_perhaps_X4_number : GoodIn wsX4_perhaps wsX4_number := goodIn_r _ [36, 14, 6, 7, 21, 22, 4, 23, 8, 9, 10, 11, 12, 13, 15, 16, 17, 18, 19, 20, 24, 25, 26, 27, 28, 29, 30, 31, 32, 37, 38, 39, 40, 41, 42, 43, 44, 45, 46, 47, 48, 49, 50, 51] (by decide +kernel) (by decide +kernel)
set_option maxRecDepth 20000 in
theorem gX4_perhaps_X4_number : GoodIn wsX4_perhaps (wsV RX4 198 RX4 yX4_number wsX4_number) := goodIn_app (goodIn_of _ (by decide +kernel)) ggX4_perhaps_X4_number
theorem dX4_perhaps_0 : decode cX4_perhaps 0 = .ok (.aload_n 0, 1) := by decide +kernel
theorem dX4_perhaps_1 : decode cX4_perhaps 1 = .ok (.iload_n 1, 1) := by decide +kernel
theorem dX4_perhaps_2 : decode cX4_perhaps 2 = .ok (.invokevirtual 195, 3) := by decide +kernel
theorem dX4_perhaps_5 : decode cX4_perhaps 5 = .ok (.ifCond .eq 12, 3) := by decide +kernel
theorem dX4_perhaps_8 : decode cX4_perhaps 8 = .ok (.aload_n 0, 1) := by decide +kernel
theorem dX4_perhaps_9 : decode cX4_perhaps 9 = .ok (.iload_n 2, 1) := by decide +kernel
theorem dX4_perhaps_10 : decode cX4_perhaps 10 = .ok (.iload_n 3, 1) := by decide +kernel
theorem dX4_perhaps_11 : decode cX4_perhaps 11 = .ok (.invokevirtual 198, 3) := by decide +kernel
theorem dX4_perhaps_14 : decode cX4_perhaps 14 = .ok (.goto 5, 3) := by decide +kernel
theorem dX4_perhaps_17 : decode cX4_perhaps 17 = .ok (.iload 4, 2) := by decide +kernel
theorem dX4_perhaps_19 : decode cX4_perhaps 19 = .ok (.ireturn, 1) := by decide +kernel
set_option maxRecDepth 20000 in
theorem ggX4_thingItem_X4_reads : GoodIn wsX4_thingItem wsX4_reads := goodIn_r _ [8, 9, 10, 11, 12, 1, 13, 14, 15, 16, 7, 17, 18, 19, 20, 21, 22, 23, 24, 25, 26, 27, 28, 29, 50, 51, 52, 53, 54, 55, 56, 57, 58, 59, 60, 61, 62, 63, 64] (by decide +kernel) (by decide +kernel)
set_option maxRecDepth 20000 in
theorem gX4_thingItem_X4_reads : GoodIn wsX4_thingItem (wsV RX4 192 RX4 yX4_reads wsX4_reads) := goodIn_app (goodIn_of _ (by decide +kernel)) ggX4_thingItem_X4_reads
set_option maxRecDepth 20000 in
theorem ggX4_thingItem_X4_number : GoodIn wsX4_thingItem wsX4_number := goodIn_r _ [33, 11, 3, 1, 18, 19, 7, 20, 4, 5, 6, 8, 9, 10, 12, 13, 14, 15, 16, 17, 21, 22, 23, 24, 25, 26, 27, 28, 29, 50, 51, 52, 53, 54, 55, 56, 57, 58, 59, 60, 61, 62, 63, 64] (by decide +kernel) (by decide +kernel)
set_option maxRecDepth 20000 in
theorem gX4_thingItem_X4_number : GoodIn wsX4_thingItem (wsV RX4 198 RX4 yX4_number wsX4_number) := goodIn_app (goodIn_of _ (by decide +kernel)) ggX4_thingItem_X4_number
set_option maxRecDepth 20000 in
theorem ggX4_thingItem_X4_perhaps : GoodIn wsX4_thingItem wsX4_perhaps := goodIn_r _ [37, 38, 39, 40, 7, 41, 3, 1, 4, 5, 6, 8, 9, 10, 11, 12, 13, 14, 15, 16, 17, 18, 19, 20, 21, 22, 23, 24, 25, 26, 27, 28, 29, 30, 31, 32, 33, 50, 51, 52, 53, 54, 55, 56, 57, 58, 59, 60, 61, 62, 63, 64] (by decide +kernel) (by decide +kernel)
set_option maxRecDepth 20000 in
theorem gX4_thingItem_X4_perhaps : GoodIn wsX4_thingItem (wsV RX4 201 RX4 yX4_perhaps wsX4_perhaps) := goodIn_app (goodIn_of _ (by decide +kernel)) ggX4_thingItem_X4_perhaps
set_option maxRecDepth 20000 in
theorem ggX4_thingItem_X4_comesAs : GoodIn wsX4_thingItem wsX4_comesAs := goodIn_r _ [45, 2, 46, 47, 48, 7, 49, 50, 51, 52, 53, 54, 55, 56, 57, 58, 59, 60, 61, 62, 63, 64] (by decide +kernel) (by decide +kernel)
set_option maxRecDepth 20000 in
theorem gX4_thingItem_X4_comesAs : GoodIn wsX4_thingItem (wsV RX4 90 RX4 yX4_comesAs wsX4_comesAs) := goodIn_app (goodIn_of _ (by decide +kernel)) ggX4_thingItem_X4_comesAs
theorem dX4_thingItem_0 : decode cX4_thingItem 0 = .ok (.aload_n 0, 1) := by decide +kernel
theorem dX4_thingItem_1 : decode cX4_thingItem 1 = .ok (.getfield 182, 3) := by decide +kernel
theorem dX4_thingItem_4 : decode cX4_thingItem 4 = .ok (.istore_n 1, 1) := by decide +kernel
theorem dX4_thingItem_5 : decode cX4_thingItem 5 = .ok (.aload_n 0, 1) := by decide +kernel
theorem dX4_thingItem_6 : decode cX4_thingItem 6 = .ok (.aload_n 0, 1) := by decide +kernel
theorem dX4_thingItem_7 : decode cX4_thingItem 7 = .ok (.getfield 9, 3) := by decide +kernel
theorem dX4_thingItem_10 : decode cX4_thingItem 10 = .ok (.iconst 4, 1) := by decide +kernel
theorem dX4_thingItem_11 : decode cX4_thingItem 11 = .ok (.iaload, 1) := by decide +kernel
theorem dX4_thingItem_12 : decode cX4_thingItem 12 = .ok (.bipush 8, 2) := by decide +kernel
theorem dX4_thingItem_14 : decode cX4_thingItem 14 = .ok (.if_icmp .ne 7, 3) := by decide +kernel
theorem dX4_thingItem_17 : decode cX4_thingItem 17 = .ok (.iconst 1, 1) := by decide +kernel
theorem dX4_thingItem_18 : decode cX4_thingItem 18 = .ok (.goto 4, 3) := by decide +kernel
theorem dX4_thingItem_21 : decode cX4_thingItem 21 = .ok (.iconst 0, 1) := by decide +kernel
theorem dX4_thingItem_22 : decode cX4_thingItem 22 = .ok (.putfield 188, 3) := by decide +kernel
theorem dX4_thingItem_25 : decode cX4_thingItem 25 = .ok (.aload_n 0, 1) := by decide +kernel
theorem dX4_thingItem_26 : decode cX4_thingItem 26 = .ok (.getfield 188, 3) := by decide +kernel
theorem dX4_thingItem_29 : decode cX4_thingItem 29 = .ok (.ifCond .eq 4, 3) := by decide +kernel
theorem dX4_thingItem_32 : decode cX4_thingItem 32 = .ok (.return_, 1) := by decide +kernel
theorem dX4_thingItem_33 : decode cX4_thingItem 33 = .ok (.aload_n 0, 1) := by decide +kernel
theorem dX4_thingItem_34 : decode cX4_thingItem 34 = .ok (.invokevirtual 192, 3) := by decide +kernel
theorem dX4_thingItem_37 : decode cX4_thingItem 37 = .ok (.aload_n 0, 1) := by decide +kernel
theorem dX4_thingItem_38 : decode cX4_thingItem 38 = .ok (.iconst 0, 1) := by decide +kernel
theorem dX4_thingItem_39 : decode cX4_thingItem 39 = .ok (.bipush 59, 2) := by decide +kernel
theorem dX4_thingItem_41 : decode cX4_thingItem 41 = .ok (.invokevirtual 198, 3) := by decide +kernel
theorem dX4_thingItem_44 : decode cX4_thingItem 44 = .ok (.istore_n 2, 1) := by decide +kernel
theorem dX4_thingItem_45 : decode cX4_thingItem 45 = .ok (.aload_n 0, 1) := by decide +kernel
theorem dX4_thingItem_46 : decode cX4_thingItem 46 = .ok (.bipush 6, 2) := by decide +kernel
theorem dX4_thingItem_48 : decode cX4_thingItem 48 = .ok (.iconst 0, 1) := by decide +kernel
theorem dX4_thingItem_49 : decode cX4_thingItem 49 = .ok (.bipush 9, 2) := by decide +kernel
theorem dX4_thingItem_51 : decode cX4_thingItem 51 = .ok (.iconst 3, 1) := by decide +kernel
theorem dX4_thingItem_52 : decode cX4_thingItem 52 = .ok (.invokevirtual 201, 3) := by decide +kernel
theorem dX4_thingItem_55 : decode cX4_thingItem 55 = .ok (.istore_n 3, 1) := by decide +kernel
theorem dX4_thingItem_56 : decode cX4_thingItem 56 = .ok (.aload_n 0, 1) := by decide +kernel
theorem dX4_thingItem_57 : decode cX4_thingItem 57 = .ok (.bipush 7, 2) := by decide +kernel
theorem dX4_thingItem_59 : decode cX4_thingItem 59 = .ok (.iconst 0, 1) := by decide +kernel
theorem dX4_thingItem_60 : decode cX4_thingItem 60 = .ok (.bipush 99, 2) := by decide +kernel
theorem dX4_thingItem_62 : decode cX4_thingItem 62 = .ok (.bipush 50, 2) := by decide +kernel
theorem dX4_thingItem_64 : decode cX4_thingItem 64 = .ok (.invokevirtual 201, 3) := by decide +kernel
theorem dX4_thingItem_67 : decode cX4_thingItem 67 = .ok (.istore 4, 2) := by decide +kernel
theorem dX4_thingItem_69 : decode cX4_thingItem 69 = .ok (.aload_n 0, 1) := by decide +kernel
theorem dX4_thingItem_70 : decode cX4_thingItem 70 = .ok (.bipush 8, 2) := by decide +kernel
theorem dX4_thingItem_72 : decode cX4_thingItem 72 = .ok (.iconst 0, 1) := by decide +kernel
theorem dX4_thingItem_73 : decode cX4_thingItem 73 = .ok (.bipush 59, 2) := by decide +kernel
theorem dX4_thingItem_75 : decode cX4_thingItem 75 = .ok (.bipush 30, 2) := by decide +kernel
theorem dX4_thingItem_77 : decode cX4_thingItem 77 = .ok (.invokevirtual 201, 3) := by decide +kernel
theorem dX4_thingItem_80 : decode cX4_thingItem 80 = .ok (.istore 5, 2) := by decide +kernel
theorem dX4_thingItem_82 : decode cX4_thingItem 82 = .ok (.aload_n 0, 1) := by decide +kernel
theorem dX4_thingItem_83 : decode cX4_thingItem 83 = .ok (.getfield 188, 3) := by decide +kernel
theorem dX4_thingItem_86 : decode cX4_thingItem 86 = .ok (.ifCond .ne 16, 3) := by decide +kernel
theorem dX4_thingItem_89 : decode cX4_thingItem 89 = .ok (.aload_n 0, 1) := by decide +kernel
theorem dX4_thingItem_90 : decode cX4_thingItem 90 = .ok (.iload_n 1, 1) := by decide +kernel
theorem dX4_thingItem_91 : decode cX4_thingItem 91 = .ok (.iload_n 2, 1) := by decide +kernel
theorem dX4_thingItem_92 : decode cX4_thingItem 92 = .ok (.iload_n 3, 1) := by decide +kernel
theorem dX4_thingItem_93 : decode cX4_thingItem 93 = .ok (.iload 4, 2) := by decide +kernel
theorem dX4_thingItem_95 : decode cX4_thingItem 95 = .ok (.iload 5, 2) := by decide +kernel
theorem dX4_thingItem_97 : decode cX4_thingItem 97 = .ok (.invokevirtual 90, 3) := by decide +kernel
theorem dX4_thingItem_100 : decode cX4_thingItem 100 = .ok (.istore 6, 2) := by decide +kernel
theorem dX4_thingItem_102 : decode cX4_thingItem 102 = .ok (.return_, 1) := by decide +kernel
set_option maxRecDepth 20000 in
theorem ggX4_item_X4_thingItem : GoodIn wsX4_item wsX4_thingItem := goodIn_r _ [8, 1, 2, 3, 9, 10, 11, 7, 12, 13, 14, 15, 16, 17, 18, 19, 20, 21, 22, 23, 24, 25, 26, 27, 28, 29, 30, 31, 32, 33, 34, 35, 36, 37, 38, 39, 40, 41, 42, 43, 44, 45, 46, 47, 48, 49, 50, 51, 52, 53, 54, 55, 56, 57, 58, 59, 60, 61, 62, 63, 64, 65, 66, 67, 68] (by decide +kernel) (by decide +kernel)
set_option maxRecDepth 20000 in
theorem gX4_item_X4_thingItem : GoodIn wsX4_item (wsV RX4 204 RX4 yX4_thingItem wsX4_thingItem) := goodIn_app (goodIn_of _ (by decide +kernel)) ggX4_item_X4_thingItem
set_option maxRecDepth 20000 in
theorem ggX4_item_X4_passesBy : GoodIn wsX4_item wsX4_passesBy := goodIn_r _ [45, 3, 1, 9, 10, 11, 7, 12, 13, 14, 15, 16, 17, 18, 19, 20, 21, 22, 23, 24, 25, 26, 27, 28, 29, 30, 31, 32, 33, 54, 55, 56, 57, 58, 59, 60, 61, 62, 63, 64, 65, 66, 67, 68] (by decide +kernel) (by decide +kernel)
set_option maxRecDepth 20000 in
theorem gX4_item_X4_passesBy : GoodIn wsX4_item (wsV RX4 195 RX4 yX4_passesBy wsX4_passesBy) := goodIn_app (goodIn_of _ (by decide +kernel)) ggX4_item_X4_passesBy
set_option maxRecDepth 20000 in
theorem ggX4_item_X4_number : GoodIn wsX4_item wsX4_number := goodIn_r _ [37, 15, 3, 1, 22, 23, 7, 24, 9, 10, 11, 12, 13, 14, 16, 17, 18, 19, 20, 21, 25, 26, 27, 28, 29, 30, 31, 32, 33, 54, 55, 56, 57, 58, 59, 60, 61, 62, 63, 64, 65, 66, 67, 68] (by decide +kernel) (by decide +kernel)
set_option maxRecDepth 20000 in
theorem gX4_item_X4_number : GoodIn wsX4_item (wsV RX4 198 RX4 yX4_number wsX4_number) := goodIn_app (goodIn_of _ (by decide +kernel)) ggX4_item_X4_number
theorem dX4_item_0 : decode cX4_item 0 = .ok (.aload_n 0, 1) := by decide +kernel
theorem dX4_item_1 : decode cX4_item 1 = .ok (.getfield 182, 3) := by decide +kernel
theorem dX4_item_4 : decode cX4_item 4 = .ok (.iconst 5, 1) := by decide +kernel
theorem dX4_item_5 : decode cX4_item 5 = .ok (.if_icmp .gt 10, 3) := by decide +kernel
theorem dX4_item_8 : decode cX4_item 8 = .ok (.aload_n 0, 1) := by decide +kernel
theorem dX4_item_9 : decode cX4_item 9 = .ok (.invokevirtual 204, 3) := by decide +kernel
theorem dX4_item_12 : decode cX4_item 12 = .ok (.goto 83, 3) := by decide +kernel
theorem dX4_item_15 : decode cX4_item 15 = .ok (.aload_n 0, 1) := by decide +kernel
theorem dX4_item_16 : decode cX4_item 16 = .ok (.bipush 9, 2) := by decide +kernel
theorem dX4_item_18 : decode cX4_item 18 = .ok (.invokevirtual 195, 3) := by decide +kernel
theorem dX4_item_21 : decode cX4_item 21 = .ok (.ifCond .eq 19, 3) := by decide +kernel
theorem dX4_item_24 : decode cX4_item 24 = .ok (.aload_n 0, 1) := by decide +kernel
theorem dX4_item_25 : decode cX4_item 25 = .ok (.getfield 9, 3) := by decide +kernel
theorem dX4_item_28 : decode cX4_item 28 = .ok (.iconst 1, 1) := by decide +kernel
theorem dX4_item_29 : decode cX4_item 29 = .ok (.aload_n 0, 1) := by decide +kernel
theorem dX4_item_30 : decode cX4_item 30 = .ok (.iconst 0, 1) := by decide +kernel
theorem dX4_item_31 : decode cX4_item 31 = .ok (.bipush 59, 2) := by decide +kernel
theorem dX4_item_33 : decode cX4_item 33 = .ok (.invokevirtual 198, 3) := by decide +kernel
theorem dX4_item_36 : decode cX4_item 36 = .ok (.iastore, 1) := by decide +kernel
theorem dX4_item_37 : decode cX4_item 37 = .ok (.goto 58, 3) := by decide +kernel
theorem dX4_item_40 : decode cX4_item 40 = .ok (.aload_n 0, 1) := by decide +kernel
theorem dX4_item_41 : decode cX4_item 41 = .ok (.bipush 10, 2) := by decide +kernel
theorem dX4_item_43 : decode cX4_item 43 = .ok (.invokevirtual 195, 3) := by decide +kernel
theorem dX4_item_46 : decode cX4_item 46 = .ok (.ifCond .eq 19, 3) := by decide +kernel
theorem dX4_item_49 : decode cX4_item 49 = .ok (.aload_n 0, 1) := by decide +kernel
theorem dX4_item_50 : decode cX4_item 50 = .ok (.getfield 9, 3) := by decide +kernel
theorem dX4_item_53 : decode cX4_item 53 = .ok (.iconst 2, 1) := by decide +kernel
theorem dX4_item_54 : decode cX4_item 54 = .ok (.aload_n 0, 1) := by decide +kernel
theorem dX4_item_55 : decode cX4_item 55 = .ok (.iconst 1, 1) := by decide +kernel
theorem dX4_item_56 : decode cX4_item 56 = .ok (.bipush 10, 2) := by decide +kernel
theorem dX4_item_58 : decode cX4_item 58 = .ok (.invokevirtual 198, 3) := by decide +kernel
theorem dX4_item_61 : decode cX4_item 61 = .ok (.iastore, 1) := by decide +kernel
theorem dX4_item_62 : decode cX4_item 62 = .ok (.goto 33, 3) := by decide +kernel
theorem dX4_item_65 : decode cX4_item 65 = .ok (.aload_n 0, 1) := by decide +kernel
theorem dX4_item_66 : decode cX4_item 66 = .ok (.bipush 11, 2) := by decide +kernel
theorem dX4_item_68 : decode cX4_item 68 = .ok (.invokevirtual 195, 3) := by decide +kernel
theorem dX4_item_71 : decode cX4_item 71 = .ok (.ifCond .eq 19, 3) := by decide +kernel
theorem dX4_item_74 : decode cX4_item 74 = .ok (.aload_n 0, 1) := by decide +kernel
theorem dX4_item_75 : decode cX4_item 75 = .ok (.getfield 9, 3) := by decide +kernel
theorem dX4_item_78 : decode cX4_item 78 = .ok (.iconst 3, 1) := by decide +kernel
theorem dX4_item_79 : decode cX4_item 79 = .ok (.aload_n 0, 1) := by decide +kernel
theorem dX4_item_80 : decode cX4_item 80 = .ok (.iconst 1, 1) := by decide +kernel
theorem dX4_item_81 : decode cX4_item 81 = .ok (.bipush 40, 2) := by decide +kernel
theorem dX4_item_83 : decode cX4_item 83 = .ok (.invokevirtual 198, 3) := by decide +kernel
theorem dX4_item_86 : decode cX4_item 86 = .ok (.iastore, 1) := by decide +kernel
theorem dX4_item_87 : decode cX4_item 87 = .ok (.goto 8, 3) := by decide +kernel
theorem dX4_item_90 : decode cX4_item 90 = .ok (.aload_n 0, 1) := by decide +kernel
theorem dX4_item_91 : decode cX4_item 91 = .ok (.iconst 1, 1) := by decide +kernel
theorem dX4_item_92 : decode cX4_item 92 = .ok (.putfield 188, 3) := by decide +kernel
theorem dX4_item_95 : decode cX4_item 95 = .ok (.return_, 1) := by decide +kernel
set_option maxRecDepth 20000 in
theorem ggX4_island_X4_thinks : GoodIn wsX4_island wsX4_thinks := goodIn_r _ [10, 11, 12, 13, 14, 9, 15, 70, 71, 72, 73, 74, 75, 76, 77, 78, 79, 80, 81, 82, 83, 84] (by decide +kernel) (by decide +kernel)
set_option maxRecDepth 20000 in
theorem gX4_island_X4_thinks : GoodIn wsX4_island (wsV RX4 140 RX4 yX4_thinks wsX4_thinks) := goodIn_app (goodIn_of _ (by decide +kernel)) ggX4_island_X4_thinks
set_option maxRecDepth 20000 in
theorem ggX4_island_X4_reads : GoodIn wsX4_island wsX4_reads := goodIn_r _ [19, 1, 5, 20, 4, 3, 21, 22, 23, 24, 9, 25, 26, 27, 28, 29, 30, 31, 32, 33, 34, 35, 36, 37, 70, 71, 72, 73, 74, 75, 76, 77, 78, 79, 80, 81, 82, 83, 84] (by decide +kernel) (by decide +kernel)
set_option maxRecDepth 20000 in
theorem gX4_island_X4_reads : GoodIn wsX4_island (wsV RX4 192 RX4 yX4_reads wsX4_reads) := goodIn_app (goodIn_of _ (by decide +kernel)) ggX4_island_X4_reads
set_option maxRecDepth 20000 in
theorem ggX4_island_X4_item : GoodIn wsX4_island wsX4_item := goodIn_r _ [41, 3, 11, 2, 42, 43, 44, 9, 45, 16, 17, 18, 19, 1, 5, 20, 4, 21, 22, 23, 24, 25, 26, 27, 28, 29, 30, 31, 32, 33, 34, 35, 36, 37, 46, 47, 48, 49, 50, 51, 52, 53, 54, 55, 56, 57, 58, 59, 60, 61, 62, 63, 64, 65, 70, 71, 72, 73, 74, 75, 76, 77, 78, 79, 80, 81, 82, 83, 84] (by decide +kernel) (by decide +kernel)
set_option maxRecDepth 20000 in
theorem gX4_island_X4_item : GoodIn wsX4_island (wsV RX4 207 RX4 yX4_item wsX4_item) := goodIn_app (goodIn_of _ (by decide +kernel)) ggX4_island_X4_item
set_option maxRecDepth 20000 in
theorem ggX4_island_X4_passesBy : GoodIn wsX4_island wsX4_passesBy := goodIn_r _ [57, 2, 3, 16, 17, 18, 9, 19, 1, 5, 20, 4, 21, 22, 23, 24, 25, 26, 27, 28, 29, 30, 31, 32, 33, 34, 35, 36, 37, 70, 71, 72, 73, 74, 75, 76, 77, 78, 79, 80, 81, 82, 83, 84] (by decide +kernel) (by decide +kernel)
set_option maxRecDepth 20000 in
theorem gX4_island_X4_passesBy : GoodIn wsX4_island (wsV RX4 195 RX4 yX4_passesBy wsX4_passesBy) := goodIn_app (goodIn_of _ (by decide +kernel)) ggX4_island_X4_passesBy
set_option maxRecDepth 20000 in
theorem ggX4_island_X4_putsBack : GoodIn wsX4_island wsX4_putsBack := goodIn_r _ [69, 12, 11, 13, 14, 9, 15, 70, 71, 72, 73, 74, 75, 76, 77, 78, 79, 80, 81, 82, 83, 84] (by decide +kernel) (by decide +kernel)
set_option maxRecDepth 20000 in
theorem gX4_island_X4_putsBack : GoodIn wsX4_island (wsV RX4 143 RX4 yX4_putsBack wsX4_putsBack) := goodIn_app (goodIn_of _ (by decide +kernel)) ggX4_island_X4_putsBack
theorem dX4_island_0 : decode cX4_island 0 = .ok (.aload_n 0, 1) := by decide +kernel
theorem dX4_island_1 : decode cX4_island 1 = .ok (.invokevirtual 140, 3) := by decide +kernel
theorem dX4_island_4 : decode cX4_island 4 = .ok (.aload_n 0, 1) := by decide +kernel
theorem dX4_island_5 : decode cX4_island 5 = .ok (.iconst 0, 1) := by decide +kernel
theorem dX4_island_6 : decode cX4_island 6 = .ok (.putfield 169, 3) := by decide +kernel
theorem dX4_island_9 : decode cX4_island 9 = .ok (.aload_n 0, 1) := by decide +kernel
theorem dX4_island_10 : decode cX4_island 10 = .ok (.iconst 0, 1) := by decide +kernel
theorem dX4_island_11 : decode cX4_island 11 = .ok (.putfield 188, 3) := by decide +kernel
theorem dX4_island_14 : decode cX4_island 14 = .ok (.aload_n 0, 1) := by decide +kernel
theorem dX4_island_15 : decode cX4_island 15 = .ok (.invokevirtual 192, 3) := by decide +kernel
theorem dX4_island_18 : decode cX4_island 18 = .ok (.aload_n 0, 1) := by decide +kernel
theorem dX4_island_19 : decode cX4_island 19 = .ok (.invokevirtual 207, 3) := by decide +kernel
theorem dX4_island_22 : decode cX4_island 22 = .ok (.iconst 1, 1) := by decide +kernel
theorem dX4_island_23 : decode cX4_island 23 = .ok (.istore_n 1, 1) := by decide +kernel
theorem dX4_island_24 : decode cX4_island 24 = .ok (.aload_n 0, 1) := by decide +kernel
theorem dX4_island_25 : decode cX4_island 25 = .ok (.bipush 21, 2) := by decide +kernel
theorem dX4_island_27 : decode cX4_island 27 = .ok (.invokevirtual 195, 3) := by decide +kernel
theorem dX4_island_30 : decode cX4_island 30 = .ok (.ifCond .eq 13, 3) := by decide +kernel
theorem dX4_island_33 : decode cX4_island 33 = .ok (.aload_n 0, 1) := by decide +kernel
theorem dX4_island_34 : decode cX4_island 34 = .ok (.invokevirtual 207, 3) := by decide +kernel
theorem dX4_island_37 : decode cX4_island 37 = .ok (.iinc 1 1, 3) := by decide +kernel
theorem dX4_island_40 : decode cX4_island 40 = .ok (.goto (-16), 3) := by decide +kernel
theorem dX4_island_43 : decode cX4_island 43 = .ok (.aload_n 0, 1) := by decide +kernel
theorem dX4_island_44 : decode cX4_island 44 = .ok (.aload_n 0, 1) := by decide +kernel
theorem dX4_island_45 : decode cX4_island 45 = .ok (.getfield 188, 3) := by decide +kernel
theorem dX4_island_48 : decode cX4_island 48 = .ok (.ifCond .ne 12, 3) := by decide +kernel
theorem dX4_island_51 : decode cX4_island 51 = .ok (.aload_n 0, 1) := by decide +kernel
theorem dX4_island_52 : decode cX4_island 52 = .ok (.getfield 182, 3) := by decide +kernel
theorem dX4_island_55 : decode cX4_island 55 = .ok (.bipush 22, 2) := by decide +kernel
theorem dX4_island_57 : decode cX4_island 57 = .ok (.if_icmp .eq 7, 3) := by decide +kernel
theorem dX4_island_60 : decode cX4_island 60 = .ok (.iconst 1, 1) := by decide +kernel
theorem dX4_island_61 : decode cX4_island 61 = .ok (.goto 4, 3) := by decide +kernel
theorem dX4_island_64 : decode cX4_island 64 = .ok (.iconst 0, 1) := by decide +kernel
theorem dX4_island_65 : decode cX4_island 65 = .ok (.putfield 188, 3) := by decide +kernel
theorem dX4_island_68 : decode cX4_island 68 = .ok (.aload_n 0, 1) := by decide +kernel
theorem dX4_island_69 : decode cX4_island 69 = .ok (.iconst 0, 1) := by decide +kernel
theorem dX4_island_70 : decode cX4_island 70 = .ok (.putfield 159, 3) := by decide +kernel
theorem dX4_island_73 : decode cX4_island 73 = .ok (.aload_n 0, 1) := by decide +kernel
theorem dX4_island_74 : decode cX4_island 74 = .ok (.getfield 188, 3) := by decide +kernel
theorem dX4_island_77 : decode cX4_island 77 = .ok (.ifCond .ne 5, 3) := by decide +kernel
theorem dX4_island_80 : decode cX4_island 80 = .ok (.iload_n 1, 1) := by decide +kernel
theorem dX4_island_81 : decode cX4_island 81 = .ok (.ireturn, 1) := by decide +kernel
theorem dX4_island_82 : decode cX4_island 82 = .ok (.aload_n 0, 1) := by decide +kernel
theorem dX4_island_83 : decode cX4_island 83 = .ok (.invokevirtual 143, 3) := by decide +kernel
theorem dX4_island_86 : decode cX4_island 86 = .ok (.iconst (-1), 1) := by decide +kernel
theorem dX4_island_87 : decode cX4_island 87 = .ok (.aload_n 0, 1) := by decide +kernel
theorem dX4_island_88 : decode cX4_island 88 = .ok (.getfield 166, 3) := by decide +kernel
theorem dX4_island_91 : decode cX4_island 91 = .ok (.isub, 1) := by decide +kernel
theorem dX4_island_92 : decode cX4_island 92 = .ok (.ireturn, 1) := by decide +kernel
set_option maxRecDepth 20000 in
theorem ggX4_isSheet_X4_in : GoodIn wsX4_isSheet wsX4_in := goodIn_r _ [4] (by decide +kernel) (by decide +kernel)
set_option maxRecDepth 20000 in
theorem gX4_isSheet_X4_in : GoodIn wsX4_isSheet (va_wsS RX4 41 yX4_in wsX4_in) := goodIn_app (goodIn_of _ (by decide +kernel)) ggX4_isSheet_X4_in
theorem dX4_isSheet_0 : decode cX4_isSheet 0 = .ok (.iload_n 0, 1) := by decide +kernel
theorem dX4_isSheet_1 : decode cX4_isSheet 1 = .ok (.i2l, 1) := by decide +kernel
theorem dX4_isSheet_2 : decode cX4_isSheet 2 = .ok (.iconst 0, 1) := by decide +kernel
theorem dX4_isSheet_3 : decode cX4_isSheet 3 = .ok (.iconst 3, 1) := by decide +kernel
theorem dX4_isSheet_4 : decode cX4_isSheet 4 = .ok (.invokestatic 41, 3) := by decide +kernel
theorem dX4_isSheet_7 : decode cX4_isSheet 7 = .ok (.ireturn, 1) := by decide +kernel
set_option maxRecDepth 20000 in
theorem ggX4_sheet_X4_isSheet : GoodIn wsX4_sheet wsX4_isSheet := goodIn_r _ [9, 10, 11, 8, 12] (by decide +kernel) (by decide +kernel)
set_option maxRecDepth 20000 in
theorem gX4_sheet_X4_isSheet : GoodIn wsX4_sheet (va_wsS RX4 210 yX4_isSheet wsX4_isSheet) := goodIn_app (goodIn_of _ (by decide +kernel)) ggX4_sheet_X4_isSheet
set_option maxRecDepth 20000 in
theorem ggX4_sheet_X4_finds : GoodIn wsX4_sheet wsX4_finds := goodIn_r _ [16, 17, 1, 18, 19, 20, 21, 22, 23, 24, 25, 26, 27, 28, 29, 30, 31, 32] (by decide +kernel) (by decide +kernel)
set_option maxRecDepth 20000 in
theorem gX4_sheet_X4_finds : GoodIn wsX4_sheet (wsV RX4 37 RX4 yX4_finds wsX4_finds) := goodIn_app (goodIn_of _ (by decide +kernel)) ggX4_sheet_X4_finds
theorem dX4_sheet_0 : decode cX4_sheet 0 = .ok (.iload_n 1, 1) := by decide +kernel
theorem dX4_sheet_1 : decode cX4_sheet 1 = .ok (.invokestatic 210, 3) := by decide +kernel
theorem dX4_sheet_4 : decode cX4_sheet 4 = .ok (.ifCond .eq 25, 3) := by decide +kernel
theorem dX4_sheet_7 : decode cX4_sheet 7 = .ok (.iload_n 2, 1) := by decide +kernel
theorem dX4_sheet_8 : decode cX4_sheet 8 = .ok (.ifCond .eq 28, 3) := by decide +kernel
theorem dX4_sheet_11 : decode cX4_sheet 11 = .ok (.iload_n 2, 1) := by decide +kernel
theorem dX4_sheet_12 : decode cX4_sheet 12 = .ok (.bipush 8, 2) := by decide +kernel
theorem dX4_sheet_14 : decode cX4_sheet 14 = .ok (.if_icmp .eq 22, 3) := by decide +kernel
theorem dX4_sheet_17 : decode cX4_sheet 17 = .ok (.iload_n 2, 1) := by decide +kernel
theorem dX4_sheet_18 : decode cX4_sheet 18 = .ok (.bipush 16, 2) := by decide +kernel
theorem dX4_sheet_20 : decode cX4_sheet 20 = .ok (.if_icmp .eq 16, 3) := by decide +kernel
theorem dX4_sheet_23 : decode cX4_sheet 23 = .ok (.iload_n 2, 1) := by decide +kernel
theorem dX4_sheet_24 : decode cX4_sheet 24 = .ok (.bipush 64, 2) := by decide +kernel
theorem dX4_sheet_26 : decode cX4_sheet 26 = .ok (.if_icmp .eq 10, 3) := by decide +kernel
theorem dX4_sheet_29 : decode cX4_sheet 29 = .ok (.aload_n 0, 1) := by decide +kernel
theorem dX4_sheet_30 : decode cX4_sheet 30 = .ok (.ldc 35, 2) := by decide +kernel
theorem dX4_sheet_32 : decode cX4_sheet 32 = .ok (.invokevirtual 37, 3) := by decide +kernel
theorem dX4_sheet_35 : decode cX4_sheet 35 = .ok (.ireturn, 1) := by decide +kernel
theorem dX4_sheet_36 : decode cX4_sheet 36 = .ok (.iload_n 3, 1) := by decide +kernel
theorem dX4_sheet_37 : decode cX4_sheet 37 = .ok (.ifCond .ge 10, 3) := by decide +kernel
theorem dX4_sheet_40 : decode cX4_sheet 40 = .ok (.aload_n 0, 1) := by decide +kernel
theorem dX4_sheet_41 : decode cX4_sheet 41 = .ok (.ldc 213, 2) := by decide +kernel
theorem dX4_sheet_43 : decode cX4_sheet 43 = .ok (.invokevirtual 37, 3) := by decide +kernel
theorem dX4_sheet_46 : decode cX4_sheet 46 = .ok (.ireturn, 1) := by decide +kernel
theorem dX4_sheet_47 : decode cX4_sheet 47 = .ok (.iload_n 3, 1) := by decide +kernel
theorem dX4_sheet_48 : decode cX4_sheet 48 = .ok (.bipush 40, 2) := by decide +kernel
theorem dX4_sheet_50 : decode cX4_sheet 50 = .ok (.if_icmp .le 10, 3) := by decide +kernel
theorem dX4_sheet_53 : decode cX4_sheet 53 = .ok (.aload_n 0, 1) := by decide +kernel
theorem dX4_sheet_54 : decode cX4_sheet 54 = .ok (.ldc 35, 2) := by decide +kernel
theorem dX4_sheet_56 : decode cX4_sheet 56 = .ok (.invokevirtual 37, 3) := by decide +kernel
theorem dX4_sheet_59 : decode cX4_sheet 59 = .ok (.ireturn, 1) := by decide +kernel
theorem dX4_sheet_60 : decode cX4_sheet 60 = .ok (.aload_n 0, 1) := by decide +kernel
theorem dX4_sheet_61 : decode cX4_sheet 61 = .ok (.getfield 25, 3) := by decide +kernel
theorem dX4_sheet_64 : decode cX4_sheet 64 = .ok (.iload_n 1, 1) := by decide +kernel
theorem dX4_sheet_65 : decode cX4_sheet 65 = .ok (.iload_n 2, 1) := by decide +kernel
theorem dX4_sheet_66 : decode cX4_sheet 66 = .ok (.iastore, 1) := by decide +kernel
theorem dX4_sheet_67 : decode cX4_sheet 67 = .ok (.aload_n 0, 1) := by decide +kernel
theorem dX4_sheet_68 : decode cX4_sheet 68 = .ok (.getfield 28, 3) := by decide +kernel
theorem dX4_sheet_71 : decode cX4_sheet 71 = .ok (.iload_n 1, 1) := by decide +kernel
theorem dX4_sheet_72 : decode cX4_sheet 72 = .ok (.iload_n 2, 1) := by decide +kernel
theorem dX4_sheet_73 : decode cX4_sheet 73 = .ok (.ifCond .ne 7, 3) := by decide +kernel
theorem dX4_sheet_76 : decode cX4_sheet 76 = .ok (.iconst 0, 1) := by decide +kernel
theorem dX4_sheet_77 : decode cX4_sheet 77 = .ok (.goto 4, 3) := by decide +kernel
theorem dX4_sheet_80 : decode cX4_sheet 80 = .ok (.iload_n 3, 1) := by decide +kernel
theorem dX4_sheet_81 : decode cX4_sheet 81 = .ok (.iastore, 1) := by decide +kernel
theorem dX4_sheet_82 : decode cX4_sheet 82 = .ok (.iconst 0, 1) := by decide +kernel
theorem dX4_sheet_83 : decode cX4_sheet 83 = .ok (.istore 4, 2) := by decide +kernel
theorem dX4_sheet_85 : decode cX4_sheet 85 = .ok (.iload 4, 2) := by decide +kernel
theorem dX4_sheet_87 : decode cX4_sheet 87 = .ok (.bipush 40, 2) := by decide +kernel
theorem dX4_sheet_89 : decode cX4_sheet 89 = .ok (.if_icmp .ge 22, 3) := by decide +kernel
theorem dX4_sheet_92 : decode cX4_sheet 92 = .ok (.aload_n 0, 1) := by decide +kernel
theorem dX4_sheet_93 : decode cX4_sheet 93 = .ok (.getfield 31, 3) := by decide +kernel
theorem dX4_sheet_96 : decode cX4_sheet 96 = .ok (.bipush 40, 2) := by decide +kernel
theorem dX4_sheet_98 : decode cX4_sheet 98 = .ok (.iload_n 1, 1) := by decide +kernel
theorem dX4_sheet_99 : decode cX4_sheet 99 = .ok (.imul, 1) := by decide +kernel
theorem dX4_sheet_100 : decode cX4_sheet 100 = .ok (.iload 4, 2) := by decide +kernel
theorem dX4_sheet_102 : decode cX4_sheet 102 = .ok (.iadd, 1) := by decide +kernel
theorem dX4_sheet_103 : decode cX4_sheet 103 = .ok (.lconst 0, 1) := by decide +kernel
theorem dX4_sheet_104 : decode cX4_sheet 104 = .ok (.lastore, 1) := by decide +kernel
theorem dX4_sheet_105 : decode cX4_sheet 105 = .ok (.iinc 4 1, 3) := by decide +kernel
theorem dX4_sheet_108 : decode cX4_sheet 108 = .ok (.goto (-23), 3) := by decide +kernel
theorem dX4_sheet_111 : decode cX4_sheet 111 = .ok (.aload_n 0, 1) := by decide +kernel
theorem dX4_sheet_112 : decode cX4_sheet 112 = .ok (.getfield 28, 3) := by decide +kernel
theorem dX4_sheet_115 : decode cX4_sheet 115 = .ok (.iload_n 1, 1) := by decide +kernel
theorem dX4_sheet_116 : decode cX4_sheet 116 = .ok (.iaload, 1) := by decide +kernel
theorem dX4_sheet_117 : decode cX4_sheet 117 = .ok (.ireturn, 1) := by decide +kernel
set_option maxRecDepth 20000 in
theorem ggX4_notThere_X4_isSheet : GoodIn wsX4_notThere wsX4_isSheet := goodIn_r _ [7, 8, 9, 6, 10] (by decide +kernel) (by decide +kernel)
set_option maxRecDepth 20000 in
theorem gX4_notThere_X4_isSheet : GoodIn wsX4_notThere (va_wsS RX4 210 yX4_isSheet wsX4_isSheet) := goodIn_app (goodIn_of _ (by decide +kernel)) ggX4_notThere_X4_isSheet
theorem dX4_notThere_0 : decode cX4_notThere 0 = .ok (.iload_n 1, 1) := by decide +kernel
theorem dX4_notThere_1 : decode cX4_notThere 1 = .ok (.invokestatic 210, 3) := by decide +kernel
theorem dX4_notThere_4 : decode cX4_notThere 4 = .ok (.ifCond .ne 8, 3) := by decide +kernel
theorem dX4_notThere_7 : decode cX4_notThere 7 = .ok (.ldc 35, 2) := by decide +kernel
theorem dX4_notThere_9 : decode cX4_notThere 9 = .ok (.goto 18, 3) := by decide +kernel
theorem dX4_notThere_12 : decode cX4_notThere 12 = .ok (.aload_n 0, 1) := by decide +kernel
theorem dX4_notThere_13 : decode cX4_notThere 13 = .ok (.getfield 25, 3) := by decide +kernel
theorem dX4_notThere_16 : decode cX4_notThere 16 = .ok (.iload_n 1, 1) := by decide +kernel
theorem dX4_notThere_17 : decode cX4_notThere 17 = .ok (.iaload, 1) := by decide +kernel
theorem dX4_notThere_18 : decode cX4_notThere 18 = .ok (.ifCond .ne 8, 3) := by decide +kernel
theorem dX4_notThere_21 : decode cX4_notThere 21 = .ok (.ldc 214, 2) := by decide +kernel
theorem dX4_notThere_23 : decode cX4_notThere 23 = .ok (.goto 4, 3) := by decide +kernel
theorem dX4_notThere_26 : decode cX4_notThere 26 = .ok (.iconst 0, 1) := by decide +kernel
theorem dX4_notThere_27 : decode cX4_notThere 27 = .ok (.ireturn, 1) := by decide +kernel
theorem dX4_cutTo_0 : decode cX4_cutTo 0 = .ok (.iload_n 0, 1) := by decide +kernel
theorem dX4_cutTo_1 : decode cX4_cutTo 1 = .ok (.bipush 8, 2) := by decide +kernel
theorem dX4_cutTo_3 : decode cX4_cutTo 3 = .ok (.if_icmp .ne 10, 3) := by decide +kernel
theorem dX4_cutTo_6 : decode cX4_cutTo 6 = .ok (.lload_n 1, 1) := by decide +kernel
theorem dX4_cutTo_7 : decode cX4_cutTo 7 = .ok (.l2i, 1) := by decide +kernel
theorem dX4_cutTo_8 : decode cX4_cutTo 8 = .ok (.i2b, 1) := by decide +kernel
theorem dX4_cutTo_9 : decode cX4_cutTo 9 = .ok (.i2l, 1) := by decide +kernel
theorem dX4_cutTo_10 : decode cX4_cutTo 10 = .ok (.goto 17, 3) := by decide +kernel
theorem dX4_cutTo_13 : decode cX4_cutTo 13 = .ok (.iload_n 0, 1) := by decide +kernel
theorem dX4_cutTo_14 : decode cX4_cutTo 14 = .ok (.bipush 16, 2) := by decide +kernel
theorem dX4_cutTo_16 : decode cX4_cutTo 16 = .ok (.if_icmp .ne 10, 3) := by decide +kernel
theorem dX4_cutTo_19 : decode cX4_cutTo 19 = .ok (.lload_n 1, 1) := by decide +kernel
theorem dX4_cutTo_20 : decode cX4_cutTo 20 = .ok (.l2i, 1) := by decide +kernel
theorem dX4_cutTo_21 : decode cX4_cutTo 21 = .ok (.i2s, 1) := by decide +kernel
theorem dX4_cutTo_22 : decode cX4_cutTo 22 = .ok (.i2l, 1) := by decide +kernel
theorem dX4_cutTo_23 : decode cX4_cutTo 23 = .ok (.goto 4, 3) := by decide +kernel
theorem dX4_cutTo_26 : decode cX4_cutTo 26 = .ok (.lload_n 1, 1) := by decide +kernel
theorem dX4_cutTo_27 : decode cX4_cutTo 27 = .ok (.lreturn, 1) := by decide +kernel
set_option maxRecDepth 20000 in
theorem ggX4_write_X4_notThere : GoodIn wsX4_write wsX4_notThere := goodIn_r _ [9, 2, 4, 10, 11, 12, 8, 13, 14, 15, 16, 25, 26, 27, 28, 29, 30, 31, 32, 33, 34, 35, 36, 37, 38, 39] (by decide +kernel) (by decide +kernel)
set_option maxRecDepth 20000 in
theorem gX4_write_X4_notThere : GoodIn wsX4_write (wsV RX4 215 RX4 yX4_notThere wsX4_notThere) := goodIn_app (goodIn_of _ (by decide +kernel)) ggX4_write_X4_notThere
set_option maxRecDepth 20000 in
theorem ggX4_write_X4_in : GoodIn wsX4_write wsX4_in := goodIn_r _ [16] (by decide +kernel) (by decide +kernel)
set_option maxRecDepth 20000 in
theorem gX4_write_X4_in : GoodIn wsX4_write (va_wsS RX4 41 yX4_in wsX4_in) := goodIn_app (goodIn_of _ (by decide +kernel)) ggX4_write_X4_in
set_option maxRecDepth 20000 in
theorem ggX4_write_X4_finds : GoodIn wsX4_write wsX4_finds := goodIn_r _ [20, 21, 2, 25, 26, 27, 28, 29, 30, 31, 32, 33, 34, 35, 36, 37, 38, 39] (by decide +kernel) (by decide +kernel)
set_option maxRecDepth 20000 in
theorem gX4_write_X4_finds : GoodIn wsX4_write (wsV RX4 37 RX4 yX4_finds wsX4_finds) := goodIn_app (goodIn_of _ (by decide +kernel)) ggX4_write_X4_finds
set_option maxRecDepth 20000 in
theorem ggX4_write_X4_cutTo : GoodIn wsX4_write wsX4_cutTo := goodIn_r _ [24] (by decide +kernel) (by decide +kernel)
set_option maxRecDepth 20000 in
theorem gX4_write_X4_cutTo : GoodIn wsX4_write (va_wsS RX4 218 yX4_cutTo wsX4_cutTo) := goodIn_app (goodIn_of _ (by decide +kernel)) ggX4_write_X4_cutTo
theorem dX4_write_0 : decode cX4_write 0 = .ok (.aload_n 0, 1) := by decide +kernel
theorem dX4_write_1 : decode cX4_write 1 = .ok (.iload_n 1, 1) := by decide +kernel
theorem dX4_write_2 : decode cX4_write 2 = .ok (.invokevirtual 215, 3) := by decide +kernel
theorem dX4_write_5 : decode cX4_write 5 = .ok (.istore 5, 2) := by decide +kernel
theorem dX4_write_7 : decode cX4_write 7 = .ok (.iload 5, 2) := by decide +kernel
theorem dX4_write_9 : decode cX4_write 9 = .ok (.ifCond .ne 24, 3) := by decide +kernel
theorem dX4_write_12 : decode cX4_write 12 = .ok (.iload_n 2, 1) := by decide +kernel
theorem dX4_write_13 : decode cX4_write 13 = .ok (.i2l, 1) := by decide +kernel
theorem dX4_write_14 : decode cX4_write 14 = .ok (.iconst 0, 1) := by decide +kernel
theorem dX4_write_15 : decode cX4_write 15 = .ok (.aload_n 0, 1) := by decide +kernel
theorem dX4_write_16 : decode cX4_write 16 = .ok (.getfield 28, 3) := by decide +kernel
theorem dX4_write_19 : decode cX4_write 19 = .ok (.iload_n 1, 1) := by decide +kernel
theorem dX4_write_20 : decode cX4_write 20 = .ok (.iaload, 1) := by decide +kernel
theorem dX4_write_21 : decode cX4_write 21 = .ok (.iconst 1, 1) := by decide +kernel
theorem dX4_write_22 : decode cX4_write 22 = .ok (.isub, 1) := by decide +kernel
theorem dX4_write_23 : decode cX4_write 23 = .ok (.invokestatic 41, 3) := by decide +kernel
theorem dX4_write_26 : decode cX4_write 26 = .ok (.ifCond .ne 7, 3) := by decide +kernel
theorem dX4_write_29 : decode cX4_write 29 = .ok (.ldc 35, 2) := by decide +kernel
theorem dX4_write_31 : decode cX4_write 31 = .ok (.istore 5, 2) := by decide +kernel
theorem dX4_write_33 : decode cX4_write 33 = .ok (.iload 5, 2) := by decide +kernel
theorem dX4_write_35 : decode cX4_write 35 = .ok (.ifCond .eq 11, 3) := by decide +kernel
theorem dX4_write_38 : decode cX4_write 38 = .ok (.aload_n 0, 1) := by decide +kernel
theorem dX4_write_39 : decode cX4_write 39 = .ok (.iload 5, 2) := by decide +kernel
theorem dX4_write_41 : decode cX4_write 41 = .ok (.invokevirtual 37, 3) := by decide +kernel
theorem dX4_write_44 : decode cX4_write 44 = .ok (.i2l, 1) := by decide +kernel
theorem dX4_write_45 : decode cX4_write 45 = .ok (.lreturn, 1) := by decide +kernel
theorem dX4_write_46 : decode cX4_write 46 = .ok (.aload_n 0, 1) := by decide +kernel
theorem dX4_write_47 : decode cX4_write 47 = .ok (.getfield 31, 3) := by decide +kernel
theorem dX4_write_50 : decode cX4_write 50 = .ok (.bipush 40, 2) := by decide +kernel
theorem dX4_write_52 : decode cX4_write 52 = .ok (.iload_n 1, 1) := by decide +kernel
theorem dX4_write_53 : decode cX4_write 53 = .ok (.imul, 1) := by decide +kernel
theorem dX4_write_54 : decode cX4_write 54 = .ok (.iload_n 2, 1) := by decide +kernel
theorem dX4_write_55 : decode cX4_write 55 = .ok (.iadd, 1) := by decide +kernel
theorem dX4_write_56 : decode cX4_write 56 = .ok (.laload, 1) := by decide +kernel
theorem dX4_write_57 : decode cX4_write 57 = .ok (.lstore 6, 2) := by decide +kernel
theorem dX4_write_59 : decode cX4_write 59 = .ok (.aload_n 0, 1) := by decide +kernel
theorem dX4_write_60 : decode cX4_write 60 = .ok (.getfield 31, 3) := by decide +kernel
theorem dX4_write_63 : decode cX4_write 63 = .ok (.bipush 40, 2) := by decide +kernel
theorem dX4_write_65 : decode cX4_write 65 = .ok (.iload_n 1, 1) := by decide +kernel
theorem dX4_write_66 : decode cX4_write 66 = .ok (.imul, 1) := by decide +kernel
theorem dX4_write_67 : decode cX4_write 67 = .ok (.iload_n 2, 1) := by decide +kernel
theorem dX4_write_68 : decode cX4_write 68 = .ok (.iadd, 1) := by decide +kernel
theorem dX4_write_69 : decode cX4_write 69 = .ok (.aload_n 0, 1) := by decide +kernel
theorem dX4_write_70 : decode cX4_write 70 = .ok (.getfield 25, 3) := by decide +kernel
theorem dX4_write_73 : decode cX4_write 73 = .ok (.iload_n 1, 1) := by decide +kernel
theorem dX4_write_74 : decode cX4_write 74 = .ok (.iaload, 1) := by decide +kernel
theorem dX4_write_75 : decode cX4_write 75 = .ok (.lload_n 3, 1) := by decide +kernel
theorem dX4_write_76 : decode cX4_write 76 = .ok (.invokestatic 218, 3) := by decide +kernel
theorem dX4_write_79 : decode cX4_write 79 = .ok (.lastore, 1) := by decide +kernel
theorem dX4_write_80 : decode cX4_write 80 = .ok (.lload 6, 2) := by decide +kernel
theorem dX4_write_82 : decode cX4_write 82 = .ok (.lreturn, 1) := by decide +kernel
set_option maxRecDepth 20000 in
theorem ggX4_notCopied_X4_isSheet : GoodIn wsX4_notCopied wsX4_isSheet := goodIn_r _ [9, 10, 11, 8, 12] (by decide +kernel) (by decide +kernel)
set_option maxRecDepth 20000 in
theorem gX4_notCopied_X4_isSheet : GoodIn wsX4_notCopied (va_wsS RX4 210 yX4_isSheet wsX4_isSheet) := goodIn_app (goodIn_of _ (by decide +kernel)) ggX4_notCopied_X4_isSheet
theorem dX4_notCopied_0 : decode cX4_notCopied 0 = .ok (.iload_n 1, 1) := by decide +kernel
theorem dX4_notCopied_1 : decode cX4_notCopied 1 = .ok (.invokestatic 210, 3) := by decide +kernel
theorem dX4_notCopied_4 : decode cX4_notCopied 4 = .ok (.ifCond .eq 10, 3) := by decide +kernel
theorem dX4_notCopied_7 : decode cX4_notCopied 7 = .ok (.iload_n 3, 1) := by decide +kernel
theorem dX4_notCopied_8 : decode cX4_notCopied 8 = .ok (.invokestatic 210, 3) := by decide +kernel
theorem dX4_notCopied_11 : decode cX4_notCopied 11 = .ok (.ifCond .ne 6, 3) := by decide +kernel
theorem dX4_notCopied_14 : decode cX4_notCopied 14 = .ok (.ldc 35, 2) := by decide +kernel
theorem dX4_notCopied_16 : decode cX4_notCopied 16 = .ok (.ireturn, 1) := by decide +kernel
theorem dX4_notCopied_17 : decode cX4_notCopied 17 = .ok (.aload_n 0, 1) := by decide +kernel
theorem dX4_notCopied_18 : decode cX4_notCopied 18 = .ok (.getfield 25, 3) := by decide +kernel
theorem dX4_notCopied_21 : decode cX4_notCopied 21 = .ok (.iload_n 1, 1) := by decide +kernel
theorem dX4_notCopied_22 : decode cX4_notCopied 22 = .ok (.iaload, 1) := by decide +kernel
theorem dX4_notCopied_23 : decode cX4_notCopied 23 = .ok (.ifCond .eq 12, 3) := by decide +kernel
theorem dX4_notCopied_26 : decode cX4_notCopied 26 = .ok (.aload_n 0, 1) := by decide +kernel
theorem dX4_notCopied_27 : decode cX4_notCopied 27 = .ok (.getfield 25, 3) := by decide +kernel
theorem dX4_notCopied_30 : decode cX4_notCopied 30 = .ok (.iload_n 3, 1) := by decide +kernel
theorem dX4_notCopied_31 : decode cX4_notCopied 31 = .ok (.iaload, 1) := by decide +kernel
theorem dX4_notCopied_32 : decode cX4_notCopied 32 = .ok (.ifCond .ne 6, 3) := by decide +kernel
theorem dX4_notCopied_35 : decode cX4_notCopied 35 = .ok (.ldc 214, 2) := by decide +kernel
theorem dX4_notCopied_37 : decode cX4_notCopied 37 = .ok (.ireturn, 1) := by decide +kernel
theorem dX4_notCopied_38 : decode cX4_notCopied 38 = .ok (.aload_n 0, 1) := by decide +kernel
theorem dX4_notCopied_39 : decode cX4_notCopied 39 = .ok (.getfield 25, 3) := by decide +kernel
theorem dX4_notCopied_42 : decode cX4_notCopied 42 = .ok (.iload_n 1, 1) := by decide +kernel
theorem dX4_notCopied_43 : decode cX4_notCopied 43 = .ok (.iaload, 1) := by decide +kernel
theorem dX4_notCopied_44 : decode cX4_notCopied 44 = .ok (.aload_n 0, 1) := by decide +kernel
theorem dX4_notCopied_45 : decode cX4_notCopied 45 = .ok (.getfield 25, 3) := by decide +kernel
theorem dX4_notCopied_48 : decode cX4_notCopied 48 = .ok (.iload_n 3, 1) := by decide +kernel
theorem dX4_notCopied_49 : decode cX4_notCopied 49 = .ok (.iaload, 1) := by decide +kernel
theorem dX4_notCopied_50 : decode cX4_notCopied 50 = .ok (.if_icmp .eq 6, 3) := by decide +kernel
theorem dX4_notCopied_53 : decode cX4_notCopied 53 = .ok (.ldc 104, 2) := by decide +kernel
theorem dX4_notCopied_55 : decode cX4_notCopied 55 = .ok (.ireturn, 1) := by decide +kernel
theorem dX4_notCopied_56 : decode cX4_notCopied 56 = .ok (.iload 5, 2) := by decide +kernel
theorem dX4_notCopied_58 : decode cX4_notCopied 58 = .ok (.ifCond .lt 43, 3) := by decide +kernel
theorem dX4_notCopied_61 : decode cX4_notCopied 61 = .ok (.iload_n 2, 1) := by decide +kernel
theorem dX4_notCopied_62 : decode cX4_notCopied 62 = .ok (.ifCond .lt 39, 3) := by decide +kernel
theorem dX4_notCopied_65 : decode cX4_notCopied 65 = .ok (.iload 4, 2) := by decide +kernel
theorem dX4_notCopied_67 : decode cX4_notCopied 67 = .ok (.ifCond .lt 34, 3) := by decide +kernel
theorem dX4_notCopied_70 : decode cX4_notCopied 70 = .ok (.iload 5, 2) := by decide +kernel
theorem dX4_notCopied_72 : decode cX4_notCopied 72 = .ok (.aload_n 0, 1) := by decide +kernel
theorem dX4_notCopied_73 : decode cX4_notCopied 73 = .ok (.getfield 28, 3) := by decide +kernel
theorem dX4_notCopied_76 : decode cX4_notCopied 76 = .ok (.iload_n 1, 1) := by decide +kernel
theorem dX4_notCopied_77 : decode cX4_notCopied 77 = .ok (.iaload, 1) := by decide +kernel
theorem dX4_notCopied_78 : decode cX4_notCopied 78 = .ok (.iload_n 2, 1) := by decide +kernel
theorem dX4_notCopied_79 : decode cX4_notCopied 79 = .ok (.isub, 1) := by decide +kernel
theorem dX4_notCopied_80 : decode cX4_notCopied 80 = .ok (.if_icmp .gt 21, 3) := by decide +kernel
theorem dX4_notCopied_83 : decode cX4_notCopied 83 = .ok (.iload 5, 2) := by decide +kernel
theorem dX4_notCopied_85 : decode cX4_notCopied 85 = .ok (.aload_n 0, 1) := by decide +kernel
theorem dX4_notCopied_86 : decode cX4_notCopied 86 = .ok (.getfield 28, 3) := by decide +kernel
theorem dX4_notCopied_89 : decode cX4_notCopied 89 = .ok (.iload_n 3, 1) := by decide +kernel
theorem dX4_notCopied_90 : decode cX4_notCopied 90 = .ok (.iaload, 1) := by decide +kernel
theorem dX4_notCopied_91 : decode cX4_notCopied 91 = .ok (.iload 4, 2) := by decide +kernel
theorem dX4_notCopied_93 : decode cX4_notCopied 93 = .ok (.isub, 1) := by decide +kernel
theorem dX4_notCopied_94 : decode cX4_notCopied 94 = .ok (.if_icmp .gt 7, 3) := by decide +kernel
theorem dX4_notCopied_97 : decode cX4_notCopied 97 = .ok (.iconst 1, 1) := by decide +kernel
theorem dX4_notCopied_98 : decode cX4_notCopied 98 = .ok (.goto 4, 3) := by decide +kernel
theorem dX4_notCopied_101 : decode cX4_notCopied 101 = .ok (.iconst 0, 1) := by decide +kernel
theorem dX4_notCopied_102 : decode cX4_notCopied 102 = .ok (.istore 6, 2) := by decide +kernel
theorem dX4_notCopied_104 : decode cX4_notCopied 104 = .ok (.iload 6, 2) := by decide +kernel
theorem dX4_notCopied_106 : decode cX4_notCopied 106 = .ok (.ifCond .eq 7, 3) := by decide +kernel
theorem dX4_notCopied_109 : decode cX4_notCopied 109 = .ok (.iconst 0, 1) := by decide +kernel
theorem dX4_notCopied_110 : decode cX4_notCopied 110 = .ok (.goto 5, 3) := by decide +kernel
theorem dX4_notCopied_113 : decode cX4_notCopied 113 = .ok (.ldc 35, 2) := by decide +kernel
theorem dX4_notCopied_115 : decode cX4_notCopied 115 = .ok (.ireturn, 1) := by decide +kernel
set_option maxRecDepth 20000 in
theorem ggX4_copy_X4_notCopied : GoodIn wsX4_copy wsX4_notCopied := goodIn_r _ [6, 7, 8, 9, 10, 11, 12, 13, 5, 14, 15, 16, 17, 23, 24, 25, 26, 27, 28, 29, 30, 31, 32, 33, 34, 35, 36, 37] (by decide +kernel) (by decide +kernel)
set_option maxRecDepth 20000 in
theorem gX4_copy_X4_notCopied : GoodIn wsX4_copy (wsV RX4 222 RX4 yX4_notCopied wsX4_notCopied) := goodIn_app (goodIn_of _ (by decide +kernel)) ggX4_copy_X4_notCopied
set_option maxRecDepth 20000 in
theorem ggX4_copy_X4_finds : GoodIn wsX4_copy wsX4_finds := goodIn_r _ [21, 22, 7, 23, 24, 25, 26, 27, 28, 29, 30, 31, 32, 33, 34, 35, 36, 37] (by decide +kernel) (by decide +kernel)
set_option maxRecDepth 20000 in
theorem gX4_copy_X4_finds : GoodIn wsX4_copy (wsV RX4 37 RX4 yX4_finds wsX4_finds) := goodIn_app (goodIn_of _ (by decide +kernel)) ggX4_copy_X4_finds
theorem dX4_copy_0 : decode cX4_copy 0 = .ok (.aload_n 0, 1) := by decide +kernel
theorem dX4_copy_1 : decode cX4_copy 1 = .ok (.iload_n 1, 1) := by decide +kernel
theorem dX4_copy_2 : decode cX4_copy 2 = .ok (.iload_n 2, 1) := by decide +kernel
theorem dX4_copy_3 : decode cX4_copy 3 = .ok (.iload_n 3, 1) := by decide +kernel
theorem dX4_copy_4 : decode cX4_copy 4 = .ok (.iload 4, 2) := by decide +kernel
theorem dX4_copy_6 : decode cX4_copy 6 = .ok (.iload 5, 2) := by decide +kernel
theorem dX4_copy_8 : decode cX4_copy 8 = .ok (.invokevirtual 222, 3) := by decide +kernel
theorem dX4_copy_11 : decode cX4_copy 11 = .ok (.istore 6, 2) := by decide +kernel
theorem dX4_copy_13 : decode cX4_copy 13 = .ok (.iload 6, 2) := by decide +kernel
theorem dX4_copy_15 : decode cX4_copy 15 = .ok (.ifCond .eq 10, 3) := by decide +kernel
theorem dX4_copy_18 : decode cX4_copy 18 = .ok (.aload_n 0, 1) := by decide +kernel
theorem dX4_copy_19 : decode cX4_copy 19 = .ok (.iload 6, 2) := by decide +kernel
theorem dX4_copy_21 : decode cX4_copy 21 = .ok (.invokevirtual 37, 3) := by decide +kernel
theorem dX4_copy_24 : decode cX4_copy 24 = .ok (.ireturn, 1) := by decide +kernel
theorem dX4_copy_25 : decode cX4_copy 25 = .ok (.iconst 0, 1) := by decide +kernel
theorem dX4_copy_26 : decode cX4_copy 26 = .ok (.istore 7, 2) := by decide +kernel
theorem dX4_copy_28 : decode cX4_copy 28 = .ok (.iload 7, 2) := by decide +kernel
theorem dX4_copy_30 : decode cX4_copy 30 = .ok (.iload 5, 2) := by decide +kernel
theorem dX4_copy_32 : decode cX4_copy 32 = .ok (.if_icmp .ge 58, 3) := by decide +kernel
theorem dX4_copy_35 : decode cX4_copy 35 = .ok (.iload_n 2, 1) := by decide +kernel
theorem dX4_copy_36 : decode cX4_copy 36 = .ok (.iload 4, 2) := by decide +kernel
theorem dX4_copy_38 : decode cX4_copy 38 = .ok (.if_icmp .ge 13, 3) := by decide +kernel
theorem dX4_copy_41 : decode cX4_copy 41 = .ok (.iload 5, 2) := by decide +kernel
theorem dX4_copy_43 : decode cX4_copy 43 = .ok (.iconst 1, 1) := by decide +kernel
theorem dX4_copy_44 : decode cX4_copy 44 = .ok (.isub, 1) := by decide +kernel
theorem dX4_copy_45 : decode cX4_copy 45 = .ok (.iload 7, 2) := by decide +kernel
theorem dX4_copy_47 : decode cX4_copy 47 = .ok (.isub, 1) := by decide +kernel
theorem dX4_copy_48 : decode cX4_copy 48 = .ok (.goto 5, 3) := by decide +kernel
theorem dX4_copy_51 : decode cX4_copy 51 = .ok (.iload 7, 2) := by decide +kernel
theorem dX4_copy_53 : decode cX4_copy 53 = .ok (.istore 8, 2) := by decide +kernel
theorem dX4_copy_55 : decode cX4_copy 55 = .ok (.aload_n 0, 1) := by decide +kernel
theorem dX4_copy_56 : decode cX4_copy 56 = .ok (.getfield 31, 3) := by decide +kernel
theorem dX4_copy_59 : decode cX4_copy 59 = .ok (.bipush 40, 2) := by decide +kernel
theorem dX4_copy_61 : decode cX4_copy 61 = .ok (.iload_n 3, 1) := by decide +kernel
theorem dX4_copy_62 : decode cX4_copy 62 = .ok (.imul, 1) := by decide +kernel
theorem dX4_copy_63 : decode cX4_copy 63 = .ok (.iload 4, 2) := by decide +kernel
theorem dX4_copy_65 : decode cX4_copy 65 = .ok (.iadd, 1) := by decide +kernel
theorem dX4_copy_66 : decode cX4_copy 66 = .ok (.iload 8, 2) := by decide +kernel
theorem dX4_copy_68 : decode cX4_copy 68 = .ok (.iadd, 1) := by decide +kernel
theorem dX4_copy_69 : decode cX4_copy 69 = .ok (.aload_n 0, 1) := by decide +kernel
theorem dX4_copy_70 : decode cX4_copy 70 = .ok (.getfield 31, 3) := by decide +kernel
theorem dX4_copy_73 : decode cX4_copy 73 = .ok (.bipush 40, 2) := by decide +kernel
theorem dX4_copy_75 : decode cX4_copy 75 = .ok (.iload_n 1, 1) := by decide +kernel
theorem dX4_copy_76 : decode cX4_copy 76 = .ok (.imul, 1) := by decide +kernel
theorem dX4_copy_77 : decode cX4_copy 77 = .ok (.iload_n 2, 1) := by decide +kernel
theorem dX4_copy_78 : decode cX4_copy 78 = .ok (.iadd, 1) := by decide +kernel
theorem dX4_copy_79 : decode cX4_copy 79 = .ok (.iload 8, 2) := by decide +kernel
theorem dX4_copy_81 : decode cX4_copy 81 = .ok (.iadd, 1) := by decide +kernel
theorem dX4_copy_82 : decode cX4_copy 82 = .ok (.laload, 1) := by decide +kernel
theorem dX4_copy_83 : decode cX4_copy 83 = .ok (.lastore, 1) := by decide +kernel
theorem dX4_copy_84 : decode cX4_copy 84 = .ok (.iinc 7 1, 3) := by decide +kernel
theorem dX4_copy_87 : decode cX4_copy 87 = .ok (.goto (-59), 3) := by decide +kernel
theorem dX4_copy_90 : decode cX4_copy 90 = .ok (.iload 5, 2) := by decide +kernel
theorem dX4_copy_92 : decode cX4_copy 92 = .ok (.ireturn, 1) := by decide +kernel
set_option maxRecDepth 20000 in
theorem ggX4_lays_X4_notThere : GoodIn wsX4_lays wsX4_notThere := goodIn_r _ [8, 9, 10, 11, 12, 13, 7, 14, 15, 16, 17, 27, 28, 29, 30, 31, 32, 33, 34, 35, 36, 37, 38, 39, 40, 41] (by decide +kernel) (by decide +kernel)
set_option maxRecDepth 20000 in
theorem gX4_lays_X4_notThere : GoodIn wsX4_lays (wsV RX4 215 RX4 yX4_notThere wsX4_notThere) := goodIn_app (goodIn_of _ (by decide +kernel)) ggX4_lays_X4_notThere
set_option maxRecDepth 20000 in
theorem ggX4_lays_X4_finds : GoodIn wsX4_lays wsX4_finds := goodIn_r _ [21, 22, 9, 27, 28, 29, 30, 31, 32, 33, 34, 35, 36, 37, 38, 39, 40, 41] (by decide +kernel) (by decide +kernel)
set_option maxRecDepth 20000 in
theorem gX4_lays_X4_finds : GoodIn wsX4_lays (wsV RX4 37 RX4 yX4_finds wsX4_finds) := goodIn_app (goodIn_of _ (by decide +kernel)) ggX4_lays_X4_finds
set_option maxRecDepth 20000 in
theorem ggX4_lays_X4_in : GoodIn wsX4_lays wsX4_in := goodIn_r _ [17] (by decide +kernel) (by decide +kernel)
set_option maxRecDepth 20000 in
theorem gX4_lays_X4_in : GoodIn wsX4_lays (va_wsS RX4 41 yX4_in wsX4_in) := goodIn_app (goodIn_of _ (by decide +kernel)) ggX4_lays_X4_in
set_option maxRecDepth 20000 in
theorem ggX4_lays_X4_put : GoodIn wsX4_lays wsX4_put := goodIn_r _ [26, 2, 27, 28, 29, 30, 31, 32, 33, 34, 35, 36, 37, 38, 39, 40, 41] (by decide +kernel) (by decide +kernel)
set_option maxRecDepth 20000 in
theorem gX4_lays_X4_put : GoodIn wsX4_lays (wsV RX4 82 RX4 yX4_put wsX4_put) := goodIn_app (goodIn_of _ (by decide +kernel)) ggX4_lays_X4_put
theorem dX4_lays_0 : decode cX4_lays 0 = .ok (.aload_n 0, 1) := by decide +kernel
theorem dX4_lays_1 : decode cX4_lays 1 = .ok (.iload_n 1, 1) := by decide +kernel
theorem dX4_lays_2 : decode cX4_lays 2 = .ok (.invokevirtual 215, 3) := by decide +kernel
theorem dX4_lays_5 : decode cX4_lays 5 = .ok (.istore_n 2, 1) := by decide +kernel
theorem dX4_lays_6 : decode cX4_lays 6 = .ok (.iload_n 2, 1) := by decide +kernel
theorem dX4_lays_7 : decode cX4_lays 7 = .ok (.ifCond .eq 9, 3) := by decide +kernel
theorem dX4_lays_10 : decode cX4_lays 10 = .ok (.aload_n 0, 1) := by decide +kernel
theorem dX4_lays_11 : decode cX4_lays 11 = .ok (.iload_n 2, 1) := by decide +kernel
theorem dX4_lays_12 : decode cX4_lays 12 = .ok (.invokevirtual 37, 3) := by decide +kernel
theorem dX4_lays_15 : decode cX4_lays 15 = .ok (.ireturn, 1) := by decide +kernel
theorem dX4_lays_16 : decode cX4_lays 16 = .ok (.iconst 0, 1) := by decide +kernel
theorem dX4_lays_17 : decode cX4_lays 17 = .ok (.istore_n 3, 1) := by decide +kernel
theorem dX4_lays_18 : decode cX4_lays 18 = .ok (.iconst 0, 1) := by decide +kernel
theorem dX4_lays_19 : decode cX4_lays 19 = .ok (.istore 4, 2) := by decide +kernel
theorem dX4_lays_21 : decode cX4_lays 21 = .ok (.iload 4, 2) := by decide +kernel
theorem dX4_lays_23 : decode cX4_lays 23 = .ok (.aload_n 0, 1) := by decide +kernel
theorem dX4_lays_24 : decode cX4_lays 24 = .ok (.getfield 28, 3) := by decide +kernel
theorem dX4_lays_27 : decode cX4_lays 27 = .ok (.iload_n 1, 1) := by decide +kernel
theorem dX4_lays_28 : decode cX4_lays 28 = .ok (.iaload, 1) := by decide +kernel
theorem dX4_lays_29 : decode cX4_lays 29 = .ok (.if_icmp .ge 64, 3) := by decide +kernel
theorem dX4_lays_32 : decode cX4_lays 32 = .ok (.iload 4, 2) := by decide +kernel
theorem dX4_lays_34 : decode cX4_lays 34 = .ok (.aload_n 0, 1) := by decide +kernel
theorem dX4_lays_35 : decode cX4_lays 35 = .ok (.getfield 9, 3) := by decide +kernel
theorem dX4_lays_38 : decode cX4_lays 38 = .ok (.iconst 4, 1) := by decide +kernel
theorem dX4_lays_39 : decode cX4_lays 39 = .ok (.iaload, 1) := by decide +kernel
theorem dX4_lays_40 : decode cX4_lays 40 = .ok (.if_icmp .ge 53, 3) := by decide +kernel
theorem dX4_lays_43 : decode cX4_lays 43 = .ok (.aload_n 0, 1) := by decide +kernel
theorem dX4_lays_44 : decode cX4_lays 44 = .ok (.getfield 31, 3) := by decide +kernel
theorem dX4_lays_47 : decode cX4_lays 47 = .ok (.bipush 40, 2) := by decide +kernel
theorem dX4_lays_49 : decode cX4_lays 49 = .ok (.iload_n 1, 1) := by decide +kernel
theorem dX4_lays_50 : decode cX4_lays 50 = .ok (.imul, 1) := by decide +kernel
theorem dX4_lays_51 : decode cX4_lays 51 = .ok (.iload 4, 2) := by decide +kernel
theorem dX4_lays_53 : decode cX4_lays 53 = .ok (.iadd, 1) := by decide +kernel
theorem dX4_lays_54 : decode cX4_lays 54 = .ok (.laload, 1) := by decide +kernel
theorem dX4_lays_55 : decode cX4_lays 55 = .ok (.iconst 0, 1) := by decide +kernel
theorem dX4_lays_56 : decode cX4_lays 56 = .ok (.bipush 99, 2) := by decide +kernel
theorem dX4_lays_58 : decode cX4_lays 58 = .ok (.invokestatic 41, 3) := by decide +kernel
theorem dX4_lays_61 : decode cX4_lays 61 = .ok (.ifCond .eq 26, 3) := by decide +kernel
theorem dX4_lays_64 : decode cX4_lays 64 = .ok (.aload_n 0, 1) := by decide +kernel
theorem dX4_lays_65 : decode cX4_lays 65 = .ok (.iload 4, 2) := by decide +kernel
theorem dX4_lays_67 : decode cX4_lays 67 = .ok (.iconst 4, 1) := by decide +kernel
theorem dX4_lays_68 : decode cX4_lays 68 = .ok (.aload_n 0, 1) := by decide +kernel
theorem dX4_lays_69 : decode cX4_lays 69 = .ok (.getfield 31, 3) := by decide +kernel
theorem dX4_lays_72 : decode cX4_lays 72 = .ok (.bipush 40, 2) := by decide +kernel
theorem dX4_lays_74 : decode cX4_lays 74 = .ok (.iload_n 1, 1) := by decide +kernel
theorem dX4_lays_75 : decode cX4_lays 75 = .ok (.imul, 1) := by decide +kernel
theorem dX4_lays_76 : decode cX4_lays 76 = .ok (.iload 4, 2) := by decide +kernel
theorem dX4_lays_78 : decode cX4_lays 78 = .ok (.iadd, 1) := by decide +kernel
theorem dX4_lays_79 : decode cX4_lays 79 = .ok (.laload, 1) := by decide +kernel
theorem dX4_lays_80 : decode cX4_lays 80 = .ok (.l2i, 1) := by decide +kernel
theorem dX4_lays_81 : decode cX4_lays 81 = .ok (.invokevirtual 82, 3) := by decide +kernel
theorem dX4_lays_84 : decode cX4_lays 84 = .ok (.iinc 3 1, 3) := by decide +kernel
theorem dX4_lays_87 : decode cX4_lays 87 = .ok (.iinc 4 1, 3) := by decide +kernel
theorem dX4_lays_90 : decode cX4_lays 90 = .ok (.goto (-69), 3) := by decide +kernel
theorem dX4_lays_93 : decode cX4_lays 93 = .ok (.iload_n 3, 1) := by decide +kernel
theorem dX4_lays_94 : decode cX4_lays 94 = .ok (.ireturn, 1) := by decide +kernel
set_option maxRecDepth 20000 in
theorem ggX4_notAsked_X4_notThere : GoodIn wsX4_notAsked wsX4_notThere := goodIn_r _ [6, 1, 7, 8, 9, 10, 5, 11, 12, 13, 14, 20, 21, 22, 23, 24, 25, 26, 27, 28, 29, 30, 31, 32, 33, 34] (by decide +kernel) (by decide +kernel)
set_option maxRecDepth 20000 in
theorem gX4_notAsked_X4_notThere : GoodIn wsX4_notAsked (wsV RX4 215 RX4 yX4_notThere wsX4_notThere) := goodIn_app (goodIn_of _ (by decide +kernel)) ggX4_notAsked_X4_notThere
set_option maxRecDepth 20000 in
theorem ggX4_notAsked_X4_isThing : GoodIn wsX4_notAsked wsX4_isThing := goodIn_r _ [18, 19, 12, 13, 5, 14, 20, 21, 22, 23, 24, 25, 26, 27, 28, 29, 30, 31, 32, 33, 34] (by decide +kernel) (by decide +kernel)
set_option maxRecDepth 20000 in
theorem gX4_notAsked_X4_isThing : GoodIn wsX4_notAsked (wsV RX4 94 RX4 yX4_isThing wsX4_isThing) := goodIn_app (goodIn_of _ (by decide +kernel)) ggX4_notAsked_X4_isThing
theorem dX4_notAsked_0 : decode cX4_notAsked 0 = .ok (.aload_n 0, 1) := by decide +kernel
theorem dX4_notAsked_1 : decode cX4_notAsked 1 = .ok (.iload_n 1, 1) := by decide +kernel
theorem dX4_notAsked_2 : decode cX4_notAsked 2 = .ok (.invokevirtual 215, 3) := by decide +kernel
theorem dX4_notAsked_5 : decode cX4_notAsked 5 = .ok (.istore_n 3, 1) := by decide +kernel
theorem dX4_notAsked_6 : decode cX4_notAsked 6 = .ok (.iload_n 3, 1) := by decide +kernel
theorem dX4_notAsked_7 : decode cX4_notAsked 7 = .ok (.ifCond .ne 16, 3) := by decide +kernel
theorem dX4_notAsked_10 : decode cX4_notAsked 10 = .ok (.aload_n 0, 1) := by decide +kernel
theorem dX4_notAsked_11 : decode cX4_notAsked 11 = .ok (.iload_n 2, 1) := by decide +kernel
theorem dX4_notAsked_12 : decode cX4_notAsked 12 = .ok (.invokevirtual 94, 3) := by decide +kernel
theorem dX4_notAsked_15 : decode cX4_notAsked 15 = .ok (.ifCond .ne 8, 3) := by decide +kernel
theorem dX4_notAsked_18 : decode cX4_notAsked 18 = .ok (.ldc 35, 2) := by decide +kernel
theorem dX4_notAsked_20 : decode cX4_notAsked 20 = .ok (.goto 4, 3) := by decide +kernel
theorem dX4_notAsked_23 : decode cX4_notAsked 23 = .ok (.iload_n 3, 1) := by decide +kernel
theorem dX4_notAsked_24 : decode cX4_notAsked 24 = .ok (.ireturn, 1) := by decide +kernel
set_option maxRecDepth 20000 in
theorem ggX4_book_X4_notAsked : GoodIn wsX4_book wsX4_notAsked := goodIn_r _ [8, 9, 10, 11, 12, 7, 13, 3, 14, 15, 16, 17, 18, 19, 20, 21, 22, 23, 24, 25, 120, 121, 122, 123, 124, 125, 126, 127, 128, 129, 130, 131, 132, 133, 134] (by decide +kernel) (by decide +kernel)
set_option maxRecDepth 20000 in
theorem gX4_book_X4_notAsked : GoodIn wsX4_book (wsV RX4 225 RX4 yX4_notAsked wsX4_notAsked) := goodIn_app (goodIn_of _ (by decide +kernel)) ggX4_book_X4_notAsked
set_option maxRecDepth 20000 in
theorem ggX4_book_X4_finds : GoodIn wsX4_book wsX4_finds := goodIn_r _ [29, 30, 9, 120, 121, 122, 123, 124, 125, 126, 127, 128, 129, 130, 131, 132, 133, 134] (by decide +kernel) (by decide +kernel)
set_option maxRecDepth 20000 in
theorem gX4_book_X4_finds : GoodIn wsX4_book (wsV RX4 37 RX4 yX4_finds wsX4_finds) := goodIn_app (goodIn_of _ (by decide +kernel)) ggX4_book_X4_finds
set_option maxRecDepth 20000 in
theorem ggX4_book_X4_thinks : GoodIn wsX4_book wsX4_thinks := goodIn_r _ [34, 25, 35, 36, 37, 7, 38, 120, 121, 122, 123, 124, 125, 126, 127, 128, 129, 130, 131, 132, 133, 134] (by decide +kernel) (by decide +kernel)
set_option maxRecDepth 20000 in
theorem gX4_book_X4_thinks : GoodIn wsX4_book (wsV RX4 140 RX4 yX4_thinks wsX4_thinks) := goodIn_app (goodIn_of _ (by decide +kernel)) ggX4_book_X4_thinks
set_option maxRecDepth 20000 in
theorem ggX4_book_X4_it : GoodIn wsX4_book wsX4_it := goodIn_r _ [42, 25, 120, 121, 122, 123, 124, 125, 126, 127, 128, 129, 130, 131, 132, 133, 134] (by decide +kernel) (by decide +kernel)
set_option maxRecDepth 20000 in
theorem gX4_book_X4_it : GoodIn wsX4_book (wsV RX4 45 RX4 yX4_it wsX4_it) := goodIn_app (goodIn_of _ (by decide +kernel)) ggX4_book_X4_it
set_option maxRecDepth 20000 in
theorem ggX4_book_X4_cutTo : GoodIn wsX4_book wsX4_cutTo := goodIn_r _ [45] (by decide +kernel) (by decide +kernel)
set_option maxRecDepth 20000 in
theorem gX4_book_X4_cutTo : GoodIn wsX4_book (va_wsS RX4 218 yX4_cutTo wsX4_cutTo) := goodIn_app (goodIn_of _ (by decide +kernel)) ggX4_book_X4_cutTo
set_option maxRecDepth 20000 in
theorem ggX4_book_X4_goes : GoodIn wsX4_book wsX4_goes := goodIn_r _ [49, 25, 50, 51, 52, 7, 53, 39, 40, 41, 42, 54, 55, 56, 57, 58, 59, 60, 61, 62, 63, 64, 65, 66, 67, 68, 69, 70, 71, 72, 73, 74, 75, 76, 77, 78, 79, 80, 81, 82, 83, 84, 85, 86, 87, 88, 89, 90, 91, 92, 93, 94, 95, 96, 97, 98, 99, 100, 101, 102, 103, 104, 105, 106, 107, 108, 109, 110, 111, 112, 113, 114, 115, 120, 121, 122, 123, 124, 125, 126, 127, 128, 129, 130, 131, 132, 133, 134] (by decide +kernel) (by decide +kernel)
set_option maxRecDepth 20000 in
theorem gX4_book_X4_goes : GoodIn wsX4_book (wsV RX4 129 RX4 yX4_goes wsX4_goes) := goodIn_app (goodIn_of _ (by decide +kernel)) ggX4_book_X4_goes
set_option maxRecDepth 20000 in
theorem ggX4_book_X4_putsBack : GoodIn wsX4_book wsX4_putsBack := goodIn_r _ [119, 35, 25, 36, 37, 7, 38, 120, 121, 122, 123, 124, 125, 126, 127, 128, 129, 130, 131, 132, 133, 134] (by decide +kernel) (by decide +kernel)
set_option maxRecDepth 20000 in
theorem gX4_book_X4_putsBack : GoodIn wsX4_book (wsV RX4 143 RX4 yX4_putsBack wsX4_putsBack) := goodIn_app (goodIn_of _ (by decide +kernel)) ggX4_book_X4_putsBack
theorem dX4_book_0 : decode cX4_book 0 = .ok (.aload_n 0, 1) := by decide +kernel
theorem dX4_book_1 : decode cX4_book 1 = .ok (.iload_n 1, 1) := by decide +kernel
theorem dX4_book_2 : decode cX4_book 2 = .ok (.iload_n 2, 1) := by decide +kernel
theorem dX4_book_3 : decode cX4_book 3 = .ok (.invokevirtual 225, 3) := by decide +kernel
theorem dX4_book_6 : decode cX4_book 6 = .ok (.istore_n 3, 1) := by decide +kernel
theorem dX4_book_7 : decode cX4_book 7 = .ok (.iload_n 3, 1) := by decide +kernel
theorem dX4_book_8 : decode cX4_book 8 = .ok (.ifCond .eq 9, 3) := by decide +kernel
theorem dX4_book_11 : decode cX4_book 11 = .ok (.aload_n 0, 1) := by decide +kernel
theorem dX4_book_12 : decode cX4_book 12 = .ok (.iload_n 3, 1) := by decide +kernel
theorem dX4_book_13 : decode cX4_book 13 = .ok (.invokevirtual 37, 3) := by decide +kernel
theorem dX4_book_16 : decode cX4_book 16 = .ok (.ireturn, 1) := by decide +kernel
theorem dX4_book_17 : decode cX4_book 17 = .ok (.aload_n 0, 1) := by decide +kernel
theorem dX4_book_18 : decode cX4_book 18 = .ok (.invokevirtual 140, 3) := by decide +kernel
theorem dX4_book_21 : decode cX4_book 21 = .ok (.iconst 0, 1) := by decide +kernel
theorem dX4_book_22 : decode cX4_book 22 = .ok (.istore 4, 2) := by decide +kernel
theorem dX4_book_24 : decode cX4_book 24 = .ok (.iload 4, 2) := by decide +kernel
theorem dX4_book_26 : decode cX4_book 26 = .ok (.aload_n 0, 1) := by decide +kernel
theorem dX4_book_27 : decode cX4_book 27 = .ok (.getfield 28, 3) := by decide +kernel
theorem dX4_book_30 : decode cX4_book 30 = .ok (.iload_n 1, 1) := by decide +kernel
theorem dX4_book_31 : decode cX4_book 31 = .ok (.iaload, 1) := by decide +kernel
theorem dX4_book_32 : decode cX4_book 32 = .ok (.if_icmp .ge 41, 3) := by decide +kernel
theorem dX4_book_35 : decode cX4_book 35 = .ok (.aload_n 0, 1) := by decide +kernel
theorem dX4_book_36 : decode cX4_book 36 = .ok (.getfield 31, 3) := by decide +kernel
theorem dX4_book_39 : decode cX4_book 39 = .ok (.bipush 40, 2) := by decide +kernel
theorem dX4_book_41 : decode cX4_book 41 = .ok (.iload_n 1, 1) := by decide +kernel
theorem dX4_book_42 : decode cX4_book 42 = .ok (.imul, 1) := by decide +kernel
theorem dX4_book_43 : decode cX4_book 43 = .ok (.iload 4, 2) := by decide +kernel
theorem dX4_book_45 : decode cX4_book 45 = .ok (.iadd, 1) := by decide +kernel
theorem dX4_book_46 : decode cX4_book 46 = .ok (.aload_n 0, 1) := by decide +kernel
theorem dX4_book_47 : decode cX4_book 47 = .ok (.getfield 25, 3) := by decide +kernel
theorem dX4_book_50 : decode cX4_book 50 = .ok (.iload_n 1, 1) := by decide +kernel
theorem dX4_book_51 : decode cX4_book 51 = .ok (.iaload, 1) := by decide +kernel
theorem dX4_book_52 : decode cX4_book 52 = .ok (.aload_n 0, 1) := by decide +kernel
theorem dX4_book_53 : decode cX4_book 53 = .ok (.iload_n 2, 1) := by decide +kernel
theorem dX4_book_54 : decode cX4_book 54 = .ok (.iconst 1, 1) := by decide +kernel
theorem dX4_book_55 : decode cX4_book 55 = .ok (.invokevirtual 45, 3) := by decide +kernel
theorem dX4_book_58 : decode cX4_book 58 = .ok (.i2l, 1) := by decide +kernel
theorem dX4_book_59 : decode cX4_book 59 = .ok (.invokestatic 218, 3) := by decide +kernel
theorem dX4_book_62 : decode cX4_book 62 = .ok (.lastore, 1) := by decide +kernel
theorem dX4_book_63 : decode cX4_book 63 = .ok (.aload_n 0, 1) := by decide +kernel
theorem dX4_book_64 : decode cX4_book 64 = .ok (.invokevirtual 129, 3) := by decide +kernel
theorem dX4_book_67 : decode cX4_book 67 = .ok (.iinc 4 1, 3) := by decide +kernel
theorem dX4_book_70 : decode cX4_book 70 = .ok (.goto (-46), 3) := by decide +kernel
theorem dX4_book_73 : decode cX4_book 73 = .ok (.aload_n 0, 1) := by decide +kernel
theorem dX4_book_74 : decode cX4_book 74 = .ok (.invokevirtual 143, 3) := by decide +kernel
theorem dX4_book_77 : decode cX4_book 77 = .ok (.aload_n 0, 1) := by decide +kernel
theorem dX4_book_78 : decode cX4_book 78 = .ok (.getfield 28, 3) := by decide +kernel
theorem dX4_book_81 : decode cX4_book 81 = .ok (.iload_n 1, 1) := by decide +kernel
theorem dX4_book_82 : decode cX4_book 82 = .ok (.iaload, 1) := by decide +kernel
theorem dX4_book_83 : decode cX4_book 83 = .ok (.ireturn, 1) := by decide +kernel
set_option maxRecDepth 20000 in
theorem ggX4_isBook_X4_it : GoodIn wsX4_isBook wsX4_it := goodIn_r _ [7, 8, 87, 88, 89, 90, 91, 92, 93, 94, 95, 96, 97, 98, 99, 100, 101] (by decide +kernel) (by decide +kernel)
set_option maxRecDepth 20000 in
theorem gX4_isBook_X4_it : GoodIn wsX4_isBook (wsV RX4 45 RX4 yX4_it wsX4_it) := goodIn_app (goodIn_of _ (by decide +kernel)) ggX4_isBook_X4_it
set_option maxRecDepth 20000 in
theorem ggX4_isBook_X4_goes : GoodIn wsX4_isBook wsX4_goes := goodIn_r _ [12, 8, 13, 14, 15, 6, 16, 3, 4, 5, 7, 17, 18, 19, 20, 21, 22, 23, 24, 25, 26, 27, 28, 29, 30, 31, 32, 33, 34, 35, 36, 37, 38, 39, 40, 41, 42, 43, 44, 45, 46, 47, 48, 49, 50, 51, 52, 53, 54, 55, 56, 57, 58, 59, 60, 61, 62, 63, 64, 65, 66, 67, 68, 69, 70, 71, 72, 73, 74, 75, 76, 77, 78, 87, 88, 89, 90, 91, 92, 93, 94, 95, 96, 97, 98, 99, 100, 101] (by decide +kernel) (by decide +kernel)
set_option maxRecDepth 20000 in
theorem gX4_isBook_X4_goes : GoodIn wsX4_isBook (wsV RX4 129 RX4 yX4_goes wsX4_goes) := goodIn_app (goodIn_of _ (by decide +kernel)) ggX4_isBook_X4_goes
set_option maxRecDepth 20000 in
theorem ggX4_isBook_X4_putsBack : GoodIn wsX4_isBook wsX4_putsBack := goodIn_r _ [82, 83, 8, 84, 85, 6, 86, 87, 88, 89, 90, 91, 92, 93, 94, 95, 96, 97, 98, 99, 100, 101] (by decide +kernel) (by decide +kernel)
set_option maxRecDepth 20000 in
theorem gX4_isBook_X4_putsBack : GoodIn wsX4_isBook (wsV RX4 143 RX4 yX4_putsBack wsX4_putsBack) := goodIn_app (goodIn_of _ (by decide +kernel)) ggX4_isBook_X4_putsBack
theorem dX4_isBook_0 : decode cX4_isBook 0 = .ok (.iconst 1, 1) := by decide +kernel
theorem dX4_isBook_1 : decode cX4_isBook 1 = .ok (.istore_n 3, 1) := by decide +kernel
theorem dX4_isBook_2 : decode cX4_isBook 2 = .ok (.iconst 0, 1) := by decide +kernel
theorem dX4_isBook_3 : decode cX4_isBook 3 = .ok (.istore 4, 2) := by decide +kernel
theorem dX4_isBook_5 : decode cX4_isBook 5 = .ok (.iload 4, 2) := by decide +kernel
theorem dX4_isBook_7 : decode cX4_isBook 7 = .ok (.aload_n 0, 1) := by decide +kernel
theorem dX4_isBook_8 : decode cX4_isBook 8 = .ok (.getfield 28, 3) := by decide +kernel
theorem dX4_isBook_11 : decode cX4_isBook 11 = .ok (.iload_n 1, 1) := by decide +kernel
theorem dX4_isBook_12 : decode cX4_isBook 12 = .ok (.iaload, 1) := by decide +kernel
theorem dX4_isBook_13 : decode cX4_isBook 13 = .ok (.if_icmp .ge 46, 3) := by decide +kernel
theorem dX4_isBook_16 : decode cX4_isBook 16 = .ok (.iload_n 3, 1) := by decide +kernel
theorem dX4_isBook_17 : decode cX4_isBook 17 = .ok (.ifCond .eq 42, 3) := by decide +kernel
theorem dX4_isBook_20 : decode cX4_isBook 20 = .ok (.aload_n 0, 1) := by decide +kernel
theorem dX4_isBook_21 : decode cX4_isBook 21 = .ok (.getfield 31, 3) := by decide +kernel
theorem dX4_isBook_24 : decode cX4_isBook 24 = .ok (.bipush 40, 2) := by decide +kernel
theorem dX4_isBook_26 : decode cX4_isBook 26 = .ok (.iload_n 1, 1) := by decide +kernel
theorem dX4_isBook_27 : decode cX4_isBook 27 = .ok (.imul, 1) := by decide +kernel
theorem dX4_isBook_28 : decode cX4_isBook 28 = .ok (.iload 4, 2) := by decide +kernel
theorem dX4_isBook_30 : decode cX4_isBook 30 = .ok (.iadd, 1) := by decide +kernel
theorem dX4_isBook_31 : decode cX4_isBook 31 = .ok (.laload, 1) := by decide +kernel
theorem dX4_isBook_32 : decode cX4_isBook 32 = .ok (.aload_n 0, 1) := by decide +kernel
theorem dX4_isBook_33 : decode cX4_isBook 33 = .ok (.iload_n 2, 1) := by decide +kernel
theorem dX4_isBook_34 : decode cX4_isBook 34 = .ok (.iconst 1, 1) := by decide +kernel
theorem dX4_isBook_35 : decode cX4_isBook 35 = .ok (.invokevirtual 45, 3) := by decide +kernel
theorem dX4_isBook_38 : decode cX4_isBook 38 = .ok (.i2l, 1) := by decide +kernel
theorem dX4_isBook_39 : decode cX4_isBook 39 = .ok (.lcmp, 1) := by decide +kernel
theorem dX4_isBook_40 : decode cX4_isBook 40 = .ok (.ifCond .ne 7, 3) := by decide +kernel
theorem dX4_isBook_43 : decode cX4_isBook 43 = .ok (.iconst 1, 1) := by decide +kernel
theorem dX4_isBook_44 : decode cX4_isBook 44 = .ok (.goto 4, 3) := by decide +kernel
theorem dX4_isBook_47 : decode cX4_isBook 47 = .ok (.iconst 0, 1) := by decide +kernel
theorem dX4_isBook_48 : decode cX4_isBook 48 = .ok (.istore_n 3, 1) := by decide +kernel
theorem dX4_isBook_49 : decode cX4_isBook 49 = .ok (.aload_n 0, 1) := by decide +kernel
theorem dX4_isBook_50 : decode cX4_isBook 50 = .ok (.invokevirtual 129, 3) := by decide +kernel
theorem dX4_isBook_53 : decode cX4_isBook 53 = .ok (.iinc 4 1, 3) := by decide +kernel
theorem dX4_isBook_56 : decode cX4_isBook 56 = .ok (.goto (-51), 3) := by decide +kernel
theorem dX4_isBook_59 : decode cX4_isBook 59 = .ok (.aload_n 0, 1) := by decide +kernel
theorem dX4_isBook_60 : decode cX4_isBook 60 = .ok (.invokevirtual 143, 3) := by decide +kernel
theorem dX4_isBook_63 : decode cX4_isBook 63 = .ok (.iload_n 3, 1) := by decide +kernel
theorem dX4_isBook_64 : decode cX4_isBook 64 = .ok (.ireturn, 1) := by decide +kernel
set_option maxRecDepth 20000 in
theorem ggX4_read_X4_notAsked : GoodIn wsX4_read wsX4_notAsked := goodIn_r _ [6, 7, 8, 9, 10, 5, 11, 12, 13, 14, 15, 16, 17, 18, 19, 20, 21, 22, 23, 1, 121, 122, 123, 124, 125, 126, 127, 128, 129, 130, 131, 132, 133, 134, 135] (by decide +kernel) (by decide +kernel)
set_option maxRecDepth 20000 in
theorem gX4_read_X4_notAsked : GoodIn wsX4_read (wsV RX4 225 RX4 yX4_notAsked wsX4_notAsked) := goodIn_app (goodIn_of _ (by decide +kernel)) ggX4_read_X4_notAsked
set_option maxRecDepth 20000 in
theorem ggX4_read_X4_finds : GoodIn wsX4_read wsX4_finds := goodIn_r _ [27, 28, 7, 121, 122, 123, 124, 125, 126, 127, 128, 129, 130, 131, 132, 133, 134, 135] (by decide +kernel) (by decide +kernel)
set_option maxRecDepth 20000 in
theorem gX4_read_X4_finds : GoodIn wsX4_read (wsV RX4 37 RX4 yX4_finds wsX4_finds) := goodIn_app (goodIn_of _ (by decide +kernel)) ggX4_read_X4_finds
set_option maxRecDepth 20000 in
theorem ggX4_read_X4_thinks : GoodIn wsX4_read wsX4_thinks := goodIn_r _ [32, 1, 33, 34, 35, 5, 36, 121, 122, 123, 124, 125, 126, 127, 128, 129, 130, 131, 132, 133, 134, 135] (by decide +kernel) (by decide +kernel)
set_option maxRecDepth 20000 in
theorem gX4_read_X4_thinks : GoodIn wsX4_read (wsV RX4 140 RX4 yX4_thinks wsX4_thinks) := goodIn_app (goodIn_of _ (by decide +kernel)) ggX4_read_X4_thinks
set_option maxRecDepth 20000 in
theorem ggX4_read_X4_put : GoodIn wsX4_read wsX4_put := goodIn_r _ [40, 1, 121, 122, 123, 124, 125, 126, 127, 128, 129, 130, 131, 132, 133, 134, 135] (by decide +kernel) (by decide +kernel)
set_option maxRecDepth 20000 in
theorem gX4_read_X4_put : GoodIn wsX4_read (wsV RX4 82 RX4 yX4_put wsX4_put) := goodIn_app (goodIn_of _ (by decide +kernel)) ggX4_read_X4_put
set_option maxRecDepth 20000 in
theorem ggX4_read_X4_isBook : GoodIn wsX4_read wsX4_isBook := goodIn_r _ [44, 45, 46, 47, 48, 49, 5, 50, 1, 51, 52, 53, 54, 55, 56, 57, 58, 59, 60, 61, 62, 63, 64, 65, 66, 67, 68, 69, 70, 71, 72, 73, 74, 75, 76, 77, 78, 79, 80, 81, 37, 38, 39, 40, 82, 83, 84, 85, 86, 87, 88, 89, 90, 91, 92, 93, 94, 95, 96, 97, 98, 99, 100, 101, 102, 103, 104, 105, 106, 107, 108, 109, 110, 111, 112, 113, 114, 115, 116, 117, 118, 119, 120, 33, 34, 35, 36, 121, 122, 123, 124, 125, 126, 127, 128, 129, 130, 131, 132, 133, 134, 135] (by decide +kernel) (by decide +kernel)
set_option maxRecDepth 20000 in
theorem gX4_read_X4_isBook : GoodIn wsX4_read (wsV RX4 228 RX4 yX4_isBook wsX4_isBook) := goodIn_app (goodIn_of _ (by decide +kernel)) ggX4_read_X4_isBook
theorem dX4_read_0 : decode cX4_read 0 = .ok (.aload_n 0, 1) := by decide +kernel
theorem dX4_read_1 : decode cX4_read 1 = .ok (.iload_n 1, 1) := by decide +kernel
theorem dX4_read_2 : decode cX4_read 2 = .ok (.iload_n 2, 1) := by decide +kernel
theorem dX4_read_3 : decode cX4_read 3 = .ok (.invokevirtual 225, 3) := by decide +kernel
theorem dX4_read_6 : decode cX4_read 6 = .ok (.istore_n 3, 1) := by decide +kernel
theorem dX4_read_7 : decode cX4_read 7 = .ok (.iload_n 3, 1) := by decide +kernel
theorem dX4_read_8 : decode cX4_read 8 = .ok (.ifCond .eq 9, 3) := by decide +kernel
theorem dX4_read_11 : decode cX4_read 11 = .ok (.aload_n 0, 1) := by decide +kernel
theorem dX4_read_12 : decode cX4_read 12 = .ok (.iload_n 3, 1) := by decide +kernel
theorem dX4_read_13 : decode cX4_read 13 = .ok (.invokevirtual 37, 3) := by decide +kernel
theorem dX4_read_16 : decode cX4_read 16 = .ok (.ireturn, 1) := by decide +kernel
theorem dX4_read_17 : decode cX4_read 17 = .ok (.aload_n 0, 1) := by decide +kernel
theorem dX4_read_18 : decode cX4_read 18 = .ok (.invokevirtual 140, 3) := by decide +kernel
theorem dX4_read_21 : decode cX4_read 21 = .ok (.iconst 0, 1) := by decide +kernel
theorem dX4_read_22 : decode cX4_read 22 = .ok (.istore 4, 2) := by decide +kernel
theorem dX4_read_24 : decode cX4_read 24 = .ok (.iconst 0, 1) := by decide +kernel
theorem dX4_read_25 : decode cX4_read 25 = .ok (.istore 5, 2) := by decide +kernel
theorem dX4_read_27 : decode cX4_read 27 = .ok (.iload 5, 2) := by decide +kernel
theorem dX4_read_29 : decode cX4_read 29 = .ok (.bipush 60, 2) := by decide +kernel
theorem dX4_read_31 : decode cX4_read 31 = .ok (.if_icmp .ge 52, 3) := by decide +kernel
theorem dX4_read_34 : decode cX4_read 34 = .ok (.aload_n 0, 1) := by decide +kernel
theorem dX4_read_35 : decode cX4_read 35 = .ok (.iload_n 2, 1) := by decide +kernel
theorem dX4_read_36 : decode cX4_read 36 = .ok (.iconst 0, 1) := by decide +kernel
theorem dX4_read_37 : decode cX4_read 37 = .ok (.iload 5, 2) := by decide +kernel
theorem dX4_read_39 : decode cX4_read 39 = .ok (.bipush 10, 2) := by decide +kernel
theorem dX4_read_41 : decode cX4_read 41 = .ok (.idiv, 1) := by decide +kernel
theorem dX4_read_42 : decode cX4_read 42 = .ok (.invokevirtual 82, 3) := by decide +kernel
theorem dX4_read_45 : decode cX4_read 45 = .ok (.aload_n 0, 1) := by decide +kernel
theorem dX4_read_46 : decode cX4_read 46 = .ok (.getfield 9, 3) := by decide +kernel
theorem dX4_read_49 : decode cX4_read 49 = .ok (.iconst 2, 1) := by decide +kernel
theorem dX4_read_50 : decode cX4_read 50 = .ok (.iconst 1, 1) := by decide +kernel
theorem dX4_read_51 : decode cX4_read 51 = .ok (.iload 5, 2) := by decide +kernel
theorem dX4_read_53 : decode cX4_read 53 = .ok (.bipush 10, 2) := by decide +kernel
theorem dX4_read_55 : decode cX4_read 55 = .ok (.irem, 1) := by decide +kernel
theorem dX4_read_56 : decode cX4_read 56 = .ok (.iadd, 1) := by decide +kernel
theorem dX4_read_57 : decode cX4_read 57 = .ok (.iastore, 1) := by decide +kernel
theorem dX4_read_58 : decode cX4_read 58 = .ok (.iload 4, 2) := by decide +kernel
theorem dX4_read_60 : decode cX4_read 60 = .ok (.aload_n 0, 1) := by decide +kernel
theorem dX4_read_61 : decode cX4_read 61 = .ok (.iload_n 1, 1) := by decide +kernel
theorem dX4_read_62 : decode cX4_read 62 = .ok (.iload_n 2, 1) := by decide +kernel
theorem dX4_read_63 : decode cX4_read 63 = .ok (.invokevirtual 228, 3) := by decide +kernel
theorem dX4_read_66 : decode cX4_read 66 = .ok (.ifCond .eq 7, 3) := by decide +kernel
theorem dX4_read_69 : decode cX4_read 69 = .ok (.iconst 1, 1) := by decide +kernel
theorem dX4_read_70 : decode cX4_read 70 = .ok (.goto 4, 3) := by decide +kernel
theorem dX4_read_73 : decode cX4_read 73 = .ok (.iconst 0, 1) := by decide +kernel
theorem dX4_read_74 : decode cX4_read 74 = .ok (.iadd, 1) := by decide +kernel
theorem dX4_read_75 : decode cX4_read 75 = .ok (.istore 4, 2) := by decide +kernel
theorem dX4_read_77 : decode cX4_read 77 = .ok (.iinc 5 1, 3) := by decide +kernel
theorem dX4_read_80 : decode cX4_read 80 = .ok (.goto (-53), 3) := by decide +kernel
theorem dX4_read_83 : decode cX4_read 83 = .ok (.iload 4, 2) := by decide +kernel
theorem dX4_read_85 : decode cX4_read 85 = .ok (.ireturn, 1) := by decide +kernel
set_option maxRecDepth 20000 in
theorem ggX4_image_X4_copyAll : GoodIn wsX4_image wsX4_copyAll := goodIn_r _ [7] (by decide +kernel) (by decide +kernel)
set_option maxRecDepth 20000 in
theorem gX4_image_X4_copyAll : GoodIn wsX4_image (va_wsS RX4 136 yX4_copyAll wsX4_copyAll) := goodIn_app (goodIn_of _ (by decide +kernel)) ggX4_image_X4_copyAll
theorem dX4_image_0 : decode cX4_image 0 = .ok (.aload_n 0, 1) := by decide +kernel
theorem dX4_image_1 : decode cX4_image 1 = .ok (.getfield 9, 3) := by decide +kernel
theorem dX4_image_4 : decode cX4_image 4 = .ok (.aload_n 0, 1) := by decide +kernel
theorem dX4_image_5 : decode cX4_image 5 = .ok (.getfield 13, 3) := by decide +kernel
theorem dX4_image_8 : decode cX4_image 8 = .ok (.invokestatic 136, 3) := by decide +kernel
theorem dX4_image_11 : decode cX4_image 11 = .ok (.aload_n 0, 1) := by decide +kernel
theorem dX4_image_12 : decode cX4_image 12 = .ok (.iconst 1, 1) := by decide +kernel
theorem dX4_image_13 : decode cX4_image 13 = .ok (.putfield 231, 3) := by decide +kernel
theorem dX4_image_16 : decode cX4_image 16 = .ok (.iconst 1, 1) := by decide +kernel
theorem dX4_image_17 : decode cX4_image 17 = .ok (.ireturn, 1) := by decide +kernel
set_option maxRecDepth 20000 in
theorem ggX4_undo_X4_finds : GoodIn wsX4_undo wsX4_finds := goodIn_r _ [9, 10, 11, 15, 16, 17, 18, 19, 20, 21, 22, 23, 24, 25, 26, 27, 28, 29] (by decide +kernel) (by decide +kernel)
set_option maxRecDepth 20000 in
theorem gX4_undo_X4_finds : GoodIn wsX4_undo (wsV RX4 37 RX4 yX4_finds wsX4_finds) := goodIn_app (goodIn_of _ (by decide +kernel)) ggX4_undo_X4_finds
set_option maxRecDepth 20000 in
theorem ggX4_undo_X4_copyAll : GoodIn wsX4_undo wsX4_copyAll := goodIn_r _ [14] (by decide +kernel) (by decide +kernel)
set_option maxRecDepth 20000 in
theorem gX4_undo_X4_copyAll : GoodIn wsX4_undo (va_wsS RX4 136 yX4_copyAll wsX4_copyAll) := goodIn_app (goodIn_of _ (by decide +kernel)) ggX4_undo_X4_copyAll
theorem dX4_undo_0 : decode cX4_undo 0 = .ok (.aload_n 0, 1) := by decide +kernel
theorem dX4_undo_1 : decode cX4_undo 1 = .ok (.getfield 231, 3) := by decide +kernel
theorem dX4_undo_4 : decode cX4_undo 4 = .ok (.ifCond .ne 10, 3) := by decide +kernel
theorem dX4_undo_7 : decode cX4_undo 7 = .ok (.aload_n 0, 1) := by decide +kernel
theorem dX4_undo_8 : decode cX4_undo 8 = .ok (.ldc 36, 2) := by decide +kernel
theorem dX4_undo_10 : decode cX4_undo 10 = .ok (.invokevirtual 37, 3) := by decide +kernel
theorem dX4_undo_13 : decode cX4_undo 13 = .ok (.ireturn, 1) := by decide +kernel
theorem dX4_undo_14 : decode cX4_undo 14 = .ok (.aload_n 0, 1) := by decide +kernel
theorem dX4_undo_15 : decode cX4_undo 15 = .ok (.getfield 13, 3) := by decide +kernel
theorem dX4_undo_18 : decode cX4_undo 18 = .ok (.aload_n 0, 1) := by decide +kernel
theorem dX4_undo_19 : decode cX4_undo 19 = .ok (.getfield 9, 3) := by decide +kernel
theorem dX4_undo_22 : decode cX4_undo 22 = .ok (.invokestatic 136, 3) := by decide +kernel
theorem dX4_undo_25 : decode cX4_undo 25 = .ok (.aload_n 0, 1) := by decide +kernel
theorem dX4_undo_26 : decode cX4_undo 26 = .ok (.getfield 9, 3) := by decide +kernel
theorem dX4_undo_29 : decode cX4_undo 29 = .ok (.iconst 4, 1) := by decide +kernel
theorem dX4_undo_30 : decode cX4_undo 30 = .ok (.iaload, 1) := by decide +kernel
theorem dX4_undo_31 : decode cX4_undo 31 = .ok (.ireturn, 1) := by decide +kernel
theorem dX4_tear_0 : decode cX4_tear 0 = .ok (.aload_n 0, 1) := by decide +kernel
theorem dX4_tear_1 : decode cX4_tear 1 = .ok (.getfield 231, 3) := by decide +kernel
theorem dX4_tear_4 : decode cX4_tear 4 = .ok (.ifCond .eq 7, 3) := by decide +kernel
theorem dX4_tear_7 : decode cX4_tear 7 = .ok (.iconst 1, 1) := by decide +kernel
theorem dX4_tear_8 : decode cX4_tear 8 = .ok (.goto 4, 3) := by decide +kernel
theorem dX4_tear_11 : decode cX4_tear 11 = .ok (.iconst 0, 1) := by decide +kernel
theorem dX4_tear_12 : decode cX4_tear 12 = .ok (.istore_n 1, 1) := by decide +kernel
theorem dX4_tear_13 : decode cX4_tear 13 = .ok (.aload_n 0, 1) := by decide +kernel
theorem dX4_tear_14 : decode cX4_tear 14 = .ok (.iconst 0, 1) := by decide +kernel
theorem dX4_tear_15 : decode cX4_tear 15 = .ok (.putfield 231, 3) := by decide +kernel
theorem dX4_tear_18 : decode cX4_tear 18 = .ok (.iload_n 1, 1) := by decide +kernel
theorem dX4_tear_19 : decode cX4_tear 19 = .ok (.ireturn, 1) := by decide +kernel
set_option maxRecDepth 20000 in
theorem ggX4_sums_X4_it : GoodIn wsX4_sums wsX4_it := goodIn_r _ [6, 1, 7, 8, 9, 10, 11, 12, 13, 14, 15, 16, 17, 18, 19, 20, 21] (by decide +kernel) (by decide +kernel)
set_option maxRecDepth 20000 in
theorem gX4_sums_X4_it : GoodIn wsX4_sums (wsV RX4 45 RX4 yX4_it wsX4_it) := goodIn_app (goodIn_of _ (by decide +kernel)) ggX4_sums_X4_it
theorem dX4_sums_0 : decode cX4_sums 0 = .ok (.iconst 0, 1) := by decide +kernel
theorem dX4_sums_1 : decode cX4_sums 1 = .ok (.istore_n 2, 1) := by decide +kernel
theorem dX4_sums_2 : decode cX4_sums 2 = .ok (.iconst 0, 1) := by decide +kernel
theorem dX4_sums_3 : decode cX4_sums 3 = .ok (.istore_n 3, 1) := by decide +kernel
theorem dX4_sums_4 : decode cX4_sums 4 = .ok (.iload_n 3, 1) := by decide +kernel
theorem dX4_sums_5 : decode cX4_sums 5 = .ok (.aload_n 0, 1) := by decide +kernel
theorem dX4_sums_6 : decode cX4_sums 6 = .ok (.getfield 9, 3) := by decide +kernel
theorem dX4_sums_9 : decode cX4_sums 9 = .ok (.iconst 4, 1) := by decide +kernel
theorem dX4_sums_10 : decode cX4_sums 10 = .ok (.iaload, 1) := by decide +kernel
theorem dX4_sums_11 : decode cX4_sums 11 = .ok (.if_icmp .ge 18, 3) := by decide +kernel
theorem dX4_sums_14 : decode cX4_sums 14 = .ok (.iload_n 2, 1) := by decide +kernel
theorem dX4_sums_15 : decode cX4_sums 15 = .ok (.aload_n 0, 1) := by decide +kernel
theorem dX4_sums_16 : decode cX4_sums 16 = .ok (.iload_n 3, 1) := by decide +kernel
theorem dX4_sums_17 : decode cX4_sums 17 = .ok (.iload_n 1, 1) := by decide +kernel
theorem dX4_sums_18 : decode cX4_sums 18 = .ok (.invokevirtual 45, 3) := by decide +kernel
theorem dX4_sums_21 : decode cX4_sums 21 = .ok (.iadd, 1) := by decide +kernel
theorem dX4_sums_22 : decode cX4_sums 22 = .ok (.istore_n 2, 1) := by decide +kernel
theorem dX4_sums_23 : decode cX4_sums 23 = .ok (.iinc 3 1, 3) := by decide +kernel
theorem dX4_sums_26 : decode cX4_sums 26 = .ok (.goto (-22), 3) := by decide +kernel
theorem dX4_sums_29 : decode cX4_sums 29 = .ok (.iload_n 2, 1) := by decide +kernel
theorem dX4_sums_30 : decode cX4_sums 30 = .ok (.ireturn, 1) := by decide +kernel
set_option maxRecDepth 20000 in
theorem ggX4_count_X4_sums : GoodIn wsX4_count wsX4_sums := goodIn_r _ [8, 1, 9, 10, 11, 7, 12, 18, 19, 20, 21, 22, 23, 24, 25, 26, 27, 28, 29, 30, 31, 32] (by decide +kernel) (by decide +kernel)
set_option maxRecDepth 20000 in
theorem gX4_count_X4_sums : GoodIn wsX4_count (wsV RX4 234 RX4 yX4_sums wsX4_sums) := goodIn_app (goodIn_of _ (by decide +kernel)) ggX4_count_X4_sums
set_option maxRecDepth 20000 in
theorem ggX4_count_X4_finds : GoodIn wsX4_count wsX4_finds := goodIn_r _ [16, 17, 3, 18, 19, 20, 21, 22, 23, 24, 25, 26, 27, 28, 29, 30, 31, 32] (by decide +kernel) (by decide +kernel)
set_option maxRecDepth 20000 in
theorem gX4_count_X4_finds : GoodIn wsX4_count (wsV RX4 37 RX4 yX4_finds wsX4_finds) := goodIn_app (goodIn_of _ (by decide +kernel)) ggX4_count_X4_finds
theorem dX4_count_0 : decode cX4_count 0 = .ok (.iload_n 1, 1) := by decide +kernel
theorem dX4_count_1 : decode cX4_count 1 = .ok (.tableswitch 56 0 3 #[31, 38, 43, 49], 31) := by decide +kernel
theorem dX4_count_32 : decode cX4_count 32 = .ok (.aload_n 0, 1) := by decide +kernel
theorem dX4_count_33 : decode cX4_count 33 = .ok (.getfield 9, 3) := by decide +kernel
theorem dX4_count_36 : decode cX4_count 36 = .ok (.iconst 4, 1) := by decide +kernel
theorem dX4_count_37 : decode cX4_count 37 = .ok (.iaload, 1) := by decide +kernel
theorem dX4_count_38 : decode cX4_count 38 = .ok (.ireturn, 1) := by decide +kernel
theorem dX4_count_39 : decode cX4_count 39 = .ok (.aload_n 0, 1) := by decide +kernel
theorem dX4_count_40 : decode cX4_count 40 = .ok (.getfield 159, 3) := by decide +kernel
theorem dX4_count_43 : decode cX4_count 43 = .ok (.ireturn, 1) := by decide +kernel
theorem dX4_count_44 : decode cX4_count 44 = .ok (.aload_n 0, 1) := by decide +kernel
theorem dX4_count_45 : decode cX4_count 45 = .ok (.iconst 4, 1) := by decide +kernel
theorem dX4_count_46 : decode cX4_count 46 = .ok (.invokevirtual 234, 3) := by decide +kernel
theorem dX4_count_49 : decode cX4_count 49 = .ok (.ireturn, 1) := by decide +kernel
theorem dX4_count_50 : decode cX4_count 50 = .ok (.aload_n 0, 1) := by decide +kernel
theorem dX4_count_51 : decode cX4_count 51 = .ok (.bipush 7, 2) := by decide +kernel
theorem dX4_count_53 : decode cX4_count 53 = .ok (.invokevirtual 234, 3) := by decide +kernel
theorem dX4_count_56 : decode cX4_count 56 = .ok (.ireturn, 1) := by decide +kernel
theorem dX4_count_57 : decode cX4_count 57 = .ok (.aload_n 0, 1) := by decide +kernel
theorem dX4_count_58 : decode cX4_count 58 = .ok (.ldc 35, 2) := by decide +kernel
theorem dX4_count_60 : decode cX4_count 60 = .ok (.invokevirtual 37, 3) := by decide +kernel
theorem dX4_count_63 : decode cX4_count 63 = .ok (.ireturn, 1) := by decide +kernel
set_option maxRecDepth 20000 in
theorem ggX4_status_X4_in : GoodIn wsX4_status wsX4_in := goodIn_r _ [6] (by decide +kernel) (by decide +kernel)
set_option maxRecDepth 20000 in
theorem gX4_status_X4_in : GoodIn wsX4_status (va_wsS RX4 41 yX4_in wsX4_in) := goodIn_app (goodIn_of _ (by decide +kernel)) ggX4_status_X4_in
set_option maxRecDepth 20000 in
theorem ggX4_status_X4_finds : GoodIn wsX4_status wsX4_finds := goodIn_r _ [10, 2, 1, 11, 12, 13, 14, 15, 16, 17, 18, 19, 20, 21, 22, 23, 24, 25] (by decide +kernel) (by decide +kernel)
set_option maxRecDepth 20000 in
theorem gX4_status_X4_finds : GoodIn wsX4_status (wsV RX4 37 RX4 yX4_finds wsX4_finds) := goodIn_app (goodIn_of _ (by decide +kernel)) ggX4_status_X4_finds
theorem dX4_status_0 : decode cX4_status 0 = .ok (.iload_n 1, 1) := by decide +kernel
theorem dX4_status_1 : decode cX4_status 1 = .ok (.i2l, 1) := by decide +kernel
theorem dX4_status_2 : decode cX4_status 2 = .ok (.iconst (-1), 1) := by decide +kernel
theorem dX4_status_3 : decode cX4_status 3 = .ok (.bipush 6, 2) := by decide +kernel
theorem dX4_status_5 : decode cX4_status 5 = .ok (.invokestatic 41, 3) := by decide +kernel
theorem dX4_status_8 : decode cX4_status 8 = .ok (.ifCond .ne 10, 3) := by decide +kernel
theorem dX4_status_11 : decode cX4_status 11 = .ok (.aload_n 0, 1) := by decide +kernel
theorem dX4_status_12 : decode cX4_status 12 = .ok (.ldc 35, 2) := by decide +kernel
theorem dX4_status_14 : decode cX4_status 14 = .ok (.invokevirtual 37, 3) := by decide +kernel
theorem dX4_status_17 : decode cX4_status 17 = .ok (.ireturn, 1) := by decide +kernel
theorem dX4_status_18 : decode cX4_status 18 = .ok (.iconst 0, 1) := by decide +kernel
theorem dX4_status_19 : decode cX4_status 19 = .ok (.istore_n 2, 1) := by decide +kernel
theorem dX4_status_20 : decode cX4_status 20 = .ok (.iconst 0, 1) := by decide +kernel
theorem dX4_status_21 : decode cX4_status 21 = .ok (.istore_n 3, 1) := by decide +kernel
theorem dX4_status_22 : decode cX4_status 22 = .ok (.iload_n 3, 1) := by decide +kernel
theorem dX4_status_23 : decode cX4_status 23 = .ok (.bipush 7, 2) := by decide +kernel
theorem dX4_status_25 : decode cX4_status 25 = .ok (.if_icmp .ge 31, 3) := by decide +kernel
theorem dX4_status_28 : decode cX4_status 28 = .ok (.iload_n 2, 1) := by decide +kernel
theorem dX4_status_29 : decode cX4_status 29 = .ok (.iload_n 1, 1) := by decide +kernel
theorem dX4_status_30 : decode cX4_status 30 = .ok (.ifCond .lt 8, 3) := by decide +kernel
theorem dX4_status_33 : decode cX4_status 33 = .ok (.iload_n 1, 1) := by decide +kernel
theorem dX4_status_34 : decode cX4_status 34 = .ok (.iload_n 3, 1) := by decide +kernel
theorem dX4_status_35 : decode cX4_status 35 = .ok (.if_icmp .ne 12, 3) := by decide +kernel
theorem dX4_status_38 : decode cX4_status 38 = .ok (.aload_n 0, 1) := by decide +kernel
theorem dX4_status_39 : decode cX4_status 39 = .ok (.getfield 19, 3) := by decide +kernel
theorem dX4_status_42 : decode cX4_status 42 = .ok (.iload_n 3, 1) := by decide +kernel
theorem dX4_status_43 : decode cX4_status 43 = .ok (.iaload, 1) := by decide +kernel
theorem dX4_status_44 : decode cX4_status 44 = .ok (.goto 4, 3) := by decide +kernel
theorem dX4_status_47 : decode cX4_status 47 = .ok (.iconst 0, 1) := by decide +kernel
theorem dX4_status_48 : decode cX4_status 48 = .ok (.iadd, 1) := by decide +kernel
theorem dX4_status_49 : decode cX4_status 49 = .ok (.istore_n 2, 1) := by decide +kernel
theorem dX4_status_50 : decode cX4_status 50 = .ok (.iinc 3 1, 3) := by decide +kernel
theorem dX4_status_53 : decode cX4_status 53 = .ok (.goto (-31), 3) := by decide +kernel
theorem dX4_status_56 : decode cX4_status 56 = .ok (.iload_n 2, 1) := by decide +kernel
theorem dX4_status_57 : decode cX4_status 57 = .ok (.ireturn, 1) := by decide +kernel
