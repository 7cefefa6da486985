theorem dX4_init_0 : decode cX4_init 0 = .ok (.aload_n 0, 1) := by decide +kernel
theorem dX4_init_1 : decode cX4_init 1 = .ok (.invokespecial 3, 3) := by decide +kernel
theorem dX4_init_4 : decode cX4_init 4 = .ok (.aload_n 0, 1) := by decide +kernel
theorem dX4_init_5 : decode cX4_init 5 = .ok (.iconst (-1), 1) := by decide +kernel
theorem dX4_init_6 : decode cX4_init 6 = .ok (.putfield 9, 3) := by decide +kernel
theorem dX4_init_9 : decode cX4_init 9 = .ok (.aload_n 0, 1) := by decide +kernel
theorem dX4_init_10 : decode cX4_init 10 = .ok (.iconst 5, 1) := by decide +kernel
theorem dX4_init_11 : decode cX4_init 11 = .ok (.newarray .int, 2) := by decide +kernel
theorem dX4_init_13 : decode cX4_init 13 = .ok (.putfield 15, 3) := by decide +kernel
theorem dX4_init_16 : decode cX4_init 16 = .ok (.aload_n 0, 1) := by decide +kernel
theorem dX4_init_17 : decode cX4_init 17 = .ok (.iconst 5, 1) := by decide +kernel
theorem dX4_init_18 : decode cX4_init 18 = .ok (.newarray .int, 2) := by decide +kernel
theorem dX4_init_20 : decode cX4_init 20 = .ok (.putfield 19, 3) := by decide +kernel
theorem dX4_init_23 : decode cX4_init 23 = .ok (.aload_n 0, 1) := by decide +kernel
theorem dX4_init_24 : decode cX4_init 24 = .ok (.aload_n 1, 1) := by decide +kernel
theorem dX4_init_25 : decode cX4_init 25 = .ok (.putfield 22, 3) := by decide +kernel
theorem dX4_init_28 : decode cX4_init 28 = .ok (.return_, 1) := by decide +kernel
set_option maxRecDepth 20000 in
theorem ggX4_find_X0_clownCount : GoodIn wsX4_find wsX0_clownCount := goodIn_r _ [11, 12, 13, 14, 5, 15, 16, 17, 18, 46, 47, 48, 49, 50, 51, 52, 53, 54, 55, 56, 57, 58, 59, 60, 61] rfl (by decide +kernel)
set_option maxRecDepth 20000 in
theorem gX4_find_X0_clownCount : GoodIn wsX4_find (wsV RX4 26 RX0 yX0_clownCount wsX0_clownCount) := goodIn_app (goodIn_of _ (by decide +kernel)) ggX4_find_X0_clownCount
set_option maxRecDepth 20000 in
theorem ggX4_find_X0_houseCount : GoodIn wsX4_find wsX0_houseCount := goodIn_r _ [22, 12, 13, 14, 5, 15, 16, 17, 18, 46, 47, 48, 49, 50, 51, 52, 53, 54, 55, 56, 57, 58, 59, 60, 61] rfl (by decide +kernel)
set_option maxRecDepth 20000 in
theorem gX4_find_X0_houseCount : GoodIn wsX4_find (wsV RX4 32 RX0 yX0_houseCount wsX0_houseCount) := goodIn_app (goodIn_of _ (by decide +kernel)) ggX4_find_X0_houseCount
set_option maxRecDepth 20000 in
theorem ggX4_find_X4_assign : GoodIn wsX4_find wsX4_assign := goodIn_r _ [27, 2, 1, 28, 29, 30, 7, 8, 9, 10, 11, 12, 13, 14, 5, 15, 16, 17, 18, 31, 32, 33, 34, 35, 36, 37, 38, 39, 19, 20, 21, 22, 40, 41, 23, 24, 25, 26, 42, 43, 44, 45, 46, 47, 48, 49, 50, 51, 52, 53, 54, 55, 56, 57, 58, 59, 60, 61] rfl (by decide +kernel)
set_option maxRecDepth 20000 in
theorem gX4_find_X4_assign : GoodIn wsX4_find (wsV RX4 41 RX4 yX4_assign wsX4_assign) := goodIn_app (goodIn_of _ (by decide +kernel)) ggX4_find_X4_assign
theorem dX4_find_0 : decode cX4_find 0 = .ok (.aload_n 0, 1) := by decide +kernel
theorem dX4_find_1 : decode cX4_find 1 = .ok (.iconst (-1), 1) := by decide +kernel
theorem dX4_find_2 : decode cX4_find 2 = .ok (.putfield 9, 3) := by decide +kernel
theorem dX4_find_5 : decode cX4_find 5 = .ok (.aload_n 0, 1) := by decide +kernel
theorem dX4_find_6 : decode cX4_find 6 = .ok (.iconst 0, 1) := by decide +kernel
theorem dX4_find_7 : decode cX4_find 7 = .ok (.iconst 0, 1) := by decide +kernel
theorem dX4_find_8 : decode cX4_find 8 = .ok (.aload_n 0, 1) := by decide +kernel
theorem dX4_find_9 : decode cX4_find 9 = .ok (.getfield 22, 3) := by decide +kernel
theorem dX4_find_12 : decode cX4_find 12 = .ok (.invokevirtual 26, 3) := by decide +kernel
theorem dX4_find_15 : decode cX4_find 15 = .ok (.aload_n 0, 1) := by decide +kernel
theorem dX4_find_16 : decode cX4_find 16 = .ok (.getfield 22, 3) := by decide +kernel
theorem dX4_find_19 : decode cX4_find 19 = .ok (.invokevirtual 32, 3) := by decide +kernel
theorem dX4_find_22 : decode cX4_find 22 = .ok (.isub, 1) := by decide +kernel
theorem dX4_find_23 : decode cX4_find 23 = .ok (.iconst 0, 1) := by decide +kernel
theorem dX4_find_24 : decode cX4_find 24 = .ok (.invokestatic 35, 3) := by decide +kernel
theorem dX4_find_27 : decode cX4_find 27 = .ok (.iconst 0, 1) := by decide +kernel
theorem dX4_find_28 : decode cX4_find 28 = .ok (.invokevirtual 41, 3) := by decide +kernel
theorem dX4_find_31 : decode cX4_find 31 = .ok (.return_, 1) := by decide +kernel
set_option maxRecDepth 20000 in
theorem ggX4_assign_X0_clownCount : GoodIn wsX4_assign wsX0_clownCount := goodIn_r _ [10, 11, 12, 13, 14, 15, 16, 17, 18, 42, 43, 44, 45, 46, 47, 48, 49, 50, 51, 52, 53, 54, 55, 56, 57] rfl (by decide +kernel)
set_option maxRecDepth 20000 in
theorem gX4_assign_X0_clownCount : GoodIn wsX4_assign (wsV RX4 26 RX0 yX0_clownCount wsX0_clownCount) := goodIn_app (goodIn_of _ (by decide +kernel)) ggX4_assign_X0_clownCount
set_option maxRecDepth 20000 in
theorem ggX4_assign_X11_copyWhole : GoodIn wsX4_assign wsX11_copyWhole := goodIn_r _ [20, 21, 22, 17, 23, 24, 25, 26, 27] rfl (by decide +kernel)
set_option maxRecDepth 20000 in
theorem gX4_assign_X11_copyWhole_n45 : GoodIn wsX4_assign (wsX11_copyWhole) := ggX4_assign_X11_copyWhole
set_option maxRecDepth 20000 in
theorem ggX4_assign_X0_houseCount : GoodIn wsX4_assign wsX0_houseCount := goodIn_r _ [31, 11, 12, 13, 14, 15, 16, 17, 18, 42, 43, 44, 45, 46, 47, 48, 49, 50, 51, 52, 53, 54, 55, 56, 57] rfl (by decide +kernel)
set_option maxRecDepth 20000 in
theorem gX4_assign_X0_houseCount : GoodIn wsX4_assign (wsV RX4 32 RX0 yX0_houseCount wsX0_houseCount) := goodIn_app (goodIn_of _ (by decide +kernel)) ggX4_assign_X0_houseCount
set_option maxRecDepth 20000 in
theorem ggX4_assign_X11_put : GoodIn wsX4_assign wsX11_put := goodIn_r _ [33] rfl (by decide +kernel)
set_option maxRecDepth 20000 in
theorem gX4_assign_X11_put_n49 : GoodIn wsX4_assign (wsX11_put) := ggX4_assign_X11_put
set_option maxRecDepth 20000 in
theorem ggX4_assign_X11_at : GoodIn wsX4_assign wsX11_at := goodIn_r _ [18] rfl (by decide +kernel)
set_option maxRecDepth 20000 in
theorem gX4_assign_X11_at_n56 : GoodIn wsX4_assign (wsX11_at) := ggX4_assign_X11_at
set_option maxRecDepth 20000 in
theorem ggX4_assign_X4_assign : GoodIn wsX4_assign wsX4_assign := goodIn_r _ [0, 1, 2, 3, 4, 5, 6, 7, 8, 9, 10, 11, 12, 13, 14, 15, 16, 17, 18, 19, 20, 21, 22, 23, 24, 25, 26, 27, 28, 29, 30, 31, 32, 33, 34, 35, 36, 37, 38, 39, 40, 41, 42, 43, 44, 45, 46, 47, 48, 49, 50, 51, 52, 53, 54, 55, 56, 57] rfl (by decide +kernel)
set_option maxRecDepth 20000 in
theorem gX4_assign_X4_assign : GoodIn wsX4_assign (wsV RX4 41 RX4 yX4_assign wsX4_assign) := goodIn_app (goodIn_of _ (by decide +kernel)) ggX4_assign_X4_assign
theorem dX4_assign_0 : decode cX4_assign 0 = .ok (.iload_n 1, 1) := by decide +kernel
theorem dX4_assign_1 : decode cX4_assign 1 = .ok (.aload_n 0, 1) := by decide +kernel
theorem dX4_assign_2 : decode cX4_assign 2 = .ok (.getfield 22, 3) := by decide +kernel
theorem dX4_assign_5 : decode cX4_assign 5 = .ok (.invokevirtual 26, 3) := by decide +kernel
theorem dX4_assign_8 : decode cX4_assign 8 = .ok (.if_icmp .lt 38, 3) := by decide +kernel
theorem dX4_assign_11 : decode cX4_assign 11 = .ok (.aload_n 0, 1) := by decide +kernel
theorem dX4_assign_12 : decode cX4_assign 12 = .ok (.getfield 9, 3) := by decide +kernel
theorem dX4_assign_15 : decode cX4_assign 15 = .ok (.iconst (-1), 1) := by decide +kernel
theorem dX4_assign_16 : decode cX4_assign 16 = .ok (.if_icmp .eq 12, 3) := by decide +kernel
theorem dX4_assign_19 : decode cX4_assign 19 = .ok (.iload 4, 2) := by decide +kernel
theorem dX4_assign_21 : decode cX4_assign 21 = .ok (.aload_n 0, 1) := by decide +kernel
theorem dX4_assign_22 : decode cX4_assign 22 = .ok (.getfield 9, 3) := by decide +kernel
theorem dX4_assign_25 : decode cX4_assign 25 = .ok (.if_icmp .ge 20, 3) := by decide +kernel
theorem dX4_assign_28 : decode cX4_assign 28 = .ok (.aload_n 0, 1) := by decide +kernel
theorem dX4_assign_29 : decode cX4_assign 29 = .ok (.iload 4, 2) := by decide +kernel
theorem dX4_assign_31 : decode cX4_assign 31 = .ok (.putfield 9, 3) := by decide +kernel
theorem dX4_assign_34 : decode cX4_assign 34 = .ok (.aload_n 0, 1) := by decide +kernel
theorem dX4_assign_35 : decode cX4_assign 35 = .ok (.getfield 19, 3) := by decide +kernel
theorem dX4_assign_38 : decode cX4_assign 38 = .ok (.aload_n 0, 1) := by decide +kernel
theorem dX4_assign_39 : decode cX4_assign 39 = .ok (.getfield 15, 3) := by decide +kernel
theorem dX4_assign_42 : decode cX4_assign 42 = .ok (.invokestatic 45, 3) := by decide +kernel
theorem dX4_assign_45 : decode cX4_assign 45 = .ok (.return_, 1) := by decide +kernel
theorem dX4_assign_46 : decode cX4_assign 46 = .ok (.iconst 0, 1) := by decide +kernel
theorem dX4_assign_47 : decode cX4_assign 47 = .ok (.istore 5, 2) := by decide +kernel
theorem dX4_assign_49 : decode cX4_assign 49 = .ok (.iload 5, 2) := by decide +kernel
theorem dX4_assign_51 : decode cX4_assign 51 = .ok (.aload_n 0, 1) := by decide +kernel
theorem dX4_assign_52 : decode cX4_assign 52 = .ok (.getfield 22, 3) := by decide +kernel
theorem dX4_assign_55 : decode cX4_assign 55 = .ok (.invokevirtual 32, 3) := by decide +kernel
theorem dX4_assign_58 : decode cX4_assign 58 = .ok (.if_icmp .ge 66, 3) := by decide +kernel
theorem dX4_assign_61 : decode cX4_assign 61 = .ok (.iload_n 2, 1) := by decide +kernel
theorem dX4_assign_62 : decode cX4_assign 62 = .ok (.iload 5, 2) := by decide +kernel
theorem dX4_assign_64 : decode cX4_assign 64 = .ok (.ishr, 1) := by decide +kernel
theorem dX4_assign_65 : decode cX4_assign 65 = .ok (.iconst 1, 1) := by decide +kernel
theorem dX4_assign_66 : decode cX4_assign 66 = .ok (.iand, 1) := by decide +kernel
theorem dX4_assign_67 : decode cX4_assign 67 = .ok (.ifCond .ne 51, 3) := by decide +kernel
theorem dX4_assign_70 : decode cX4_assign 70 = .ok (.aload_n 0, 1) := by decide +kernel
theorem dX4_assign_71 : decode cX4_assign 71 = .ok (.getfield 19, 3) := by decide +kernel
theorem dX4_assign_74 : decode cX4_assign 74 = .ok (.iload_n 1, 1) := by decide +kernel
theorem dX4_assign_75 : decode cX4_assign 75 = .ok (.iload 5, 2) := by decide +kernel
theorem dX4_assign_77 : decode cX4_assign 77 = .ok (.invokestatic 49, 3) := by decide +kernel
theorem dX4_assign_80 : decode cX4_assign 80 = .ok (.aload_n 0, 1) := by decide +kernel
theorem dX4_assign_81 : decode cX4_assign 81 = .ok (.getfield 22, 3) := by decide +kernel
theorem dX4_assign_84 : decode cX4_assign 84 = .ok (.getfield 53, 3) := by decide +kernel
theorem dX4_assign_87 : decode cX4_assign 87 = .ok (.iload_n 1, 1) := by decide +kernel
theorem dX4_assign_88 : decode cX4_assign 88 = .ok (.bipush 6, 2) := by decide +kernel
theorem dX4_assign_90 : decode cX4_assign 90 = .ok (.imul, 1) := by decide +kernel
theorem dX4_assign_91 : decode cX4_assign 91 = .ok (.iload 5, 2) := by decide +kernel
theorem dX4_assign_93 : decode cX4_assign 93 = .ok (.iadd, 1) := by decide +kernel
theorem dX4_assign_94 : decode cX4_assign 94 = .ok (.invokestatic 56, 3) := by decide +kernel
theorem dX4_assign_97 : decode cX4_assign 97 = .ok (.istore 6, 2) := by decide +kernel
theorem dX4_assign_99 : decode cX4_assign 99 = .ok (.aload_n 0, 1) := by decide +kernel
theorem dX4_assign_100 : decode cX4_assign 100 = .ok (.iload_n 1, 1) := by decide +kernel
theorem dX4_assign_101 : decode cX4_assign 101 = .ok (.iconst 1, 1) := by decide +kernel
theorem dX4_assign_102 : decode cX4_assign 102 = .ok (.iadd, 1) := by decide +kernel
theorem dX4_assign_103 : decode cX4_assign 103 = .ok (.iload_n 2, 1) := by decide +kernel
theorem dX4_assign_104 : decode cX4_assign 104 = .ok (.iconst 1, 1) := by decide +kernel
theorem dX4_assign_105 : decode cX4_assign 105 = .ok (.iload 5, 2) := by decide +kernel
theorem dX4_assign_107 : decode cX4_assign 107 = .ok (.ishl, 1) := by decide +kernel
theorem dX4_assign_108 : decode cX4_assign 108 = .ok (.ior, 1) := by decide +kernel
theorem dX4_assign_109 : decode cX4_assign 109 = .ok (.iload_n 3, 1) := by decide +kernel
theorem dX4_assign_110 : decode cX4_assign 110 = .ok (.iload 4, 2) := by decide +kernel
theorem dX4_assign_112 : decode cX4_assign 112 = .ok (.iload 6, 2) := by decide +kernel
theorem dX4_assign_114 : decode cX4_assign 114 = .ok (.iadd, 1) := by decide +kernel
theorem dX4_assign_115 : decode cX4_assign 115 = .ok (.invokevirtual 41, 3) := by decide +kernel
theorem dX4_assign_118 : decode cX4_assign 118 = .ok (.iinc 5 1, 3) := by decide +kernel
theorem dX4_assign_121 : decode cX4_assign 121 = .ok (.goto (-72), 3) := by decide +kernel
theorem dX4_assign_124 : decode cX4_assign 124 = .ok (.iload_n 3, 1) := by decide +kernel
theorem dX4_assign_125 : decode cX4_assign 125 = .ok (.ifCond .le 25, 3) := by decide +kernel
theorem dX4_assign_128 : decode cX4_assign 128 = .ok (.aload_n 0, 1) := by decide +kernel
theorem dX4_assign_129 : decode cX4_assign 129 = .ok (.getfield 19, 3) := by decide +kernel
theorem dX4_assign_132 : decode cX4_assign 132 = .ok (.iload_n 1, 1) := by decide +kernel
theorem dX4_assign_133 : decode cX4_assign 133 = .ok (.iconst (-1), 1) := by decide +kernel
theorem dX4_assign_134 : decode cX4_assign 134 = .ok (.invokestatic 49, 3) := by decide +kernel
theorem dX4_assign_137 : decode cX4_assign 137 = .ok (.aload_n 0, 1) := by decide +kernel
theorem dX4_assign_138 : decode cX4_assign 138 = .ok (.iload_n 1, 1) := by decide +kernel
theorem dX4_assign_139 : decode cX4_assign 139 = .ok (.iconst 1, 1) := by decide +kernel
theorem dX4_assign_140 : decode cX4_assign 140 = .ok (.iadd, 1) := by decide +kernel
theorem dX4_assign_141 : decode cX4_assign 141 = .ok (.iload_n 2, 1) := by decide +kernel
theorem dX4_assign_142 : decode cX4_assign 142 = .ok (.iload_n 3, 1) := by decide +kernel
theorem dX4_assign_143 : decode cX4_assign 143 = .ok (.iconst 1, 1) := by decide +kernel
theorem dX4_assign_144 : decode cX4_assign 144 = .ok (.isub, 1) := by decide +kernel
theorem dX4_assign_145 : decode cX4_assign 145 = .ok (.iload 4, 2) := by decide +kernel
theorem dX4_assign_147 : decode cX4_assign 147 = .ok (.invokevirtual 41, 3) := by decide +kernel
theorem dX4_assign_150 : decode cX4_assign 150 = .ok (.return_, 1) := by decide +kernel
set_option maxRecDepth 20000 in
theorem ggX5_init_X10_init : GoodIn wsX5_init wsX10_init := goodIn_r _ [5, 6, 7, 8] rfl (by decide +kernel)
set_option maxRecDepth 20000 in
theorem gX5_init_X10_init_n3 : GoodIn wsX5_init (wsX10_init) := ggX5_init_X10_init
theorem dX5_init_0 : decode cX5_init 0 = .ok (.aload_n 0, 1) := by decide +kernel
theorem dX5_init_1 : decode cX5_init 1 = .ok (.invokespecial 3, 3) := by decide +kernel
theorem dX5_init_4 : decode cX5_init 4 = .ok (.aload_n 0, 1) := by decide +kernel
theorem dX5_init_5 : decode cX5_init 5 = .ok (.iconst 0, 1) := by decide +kernel
theorem dX5_init_6 : decode cX5_init 6 = .ok (.putfield 9, 3) := by decide +kernel
theorem dX5_init_9 : decode cX5_init 9 = .ok (.aload_n 0, 1) := by decide +kernel
theorem dX5_init_10 : decode cX5_init 10 = .ok (.aload_n 1, 1) := by decide +kernel
theorem dX5_init_11 : decode cX5_init 11 = .ok (.putfield 15, 3) := by decide +kernel
theorem dX5_init_14 : decode cX5_init 14 = .ok (.return_, 1) := by decide +kernel
theorem dX5_fromMood_0 : decode cX5_fromMood 0 = .ok (.aload_n 0, 1) := by decide +kernel
theorem dX5_fromMood_1 : decode cX5_fromMood 1 = .ok (.iconst 1, 1) := by decide +kernel
theorem dX5_fromMood_2 : decode cX5_fromMood 2 = .ok (.putfield 9, 3) := by decide +kernel
theorem dX5_fromMood_5 : decode cX5_fromMood 5 = .ok (.iconst 1, 1) := by decide +kernel
theorem dX5_fromMood_6 : decode cX5_fromMood 6 = .ok (.iload_n 1, 1) := by decide +kernel
theorem dX5_fromMood_7 : decode cX5_fromMood 7 = .ok (.ishl, 1) := by decide +kernel
theorem dX5_fromMood_8 : decode cX5_fromMood 8 = .ok (.ireturn, 1) := by decide +kernel
theorem dX5_fromEveryMood_0 : decode cX5_fromEveryMood 0 = .ok (.aload_n 0, 1) := by decide +kernel
theorem dX5_fromEveryMood_1 : decode cX5_fromEveryMood 1 = .ok (.iconst 0, 1) := by decide +kernel
theorem dX5_fromEveryMood_2 : decode cX5_fromEveryMood 2 = .ok (.putfield 9, 3) := by decide +kernel
theorem dX5_fromEveryMood_5 : decode cX5_fromEveryMood 5 = .ok (.sipush 1023, 3) := by decide +kernel
theorem dX5_fromEveryMood_8 : decode cX5_fromEveryMood 8 = .ok (.ireturn, 1) := by decide +kernel
set_option maxRecDepth 20000 in
theorem ggX5_moved_X0_turnedSet : GoodIn wsX5_moved wsX0_turnedSet := goodIn_r _ [6, 7, 8, 9, 5, 10, 11, 12, 13, 14, 17, 18, 19, 20, 21, 22, 23, 24, 25, 26, 27, 28, 29, 30, 31, 32] rfl (by decide +kernel)
set_option maxRecDepth 20000 in
theorem gX5_moved_X0_turnedSet : GoodIn wsX5_moved (wsV RX5 19 RX0 yX0_turnedSet wsX0_turnedSet) := goodIn_app (goodIn_of _ (by decide +kernel)) ggX5_moved_X0_turnedSet
theorem dX5_moved_0 : decode cX5_moved 0 = .ok (.aload_n 0, 1) := by decide +kernel
theorem dX5_moved_1 : decode cX5_moved 1 = .ok (.getfield 15, 3) := by decide +kernel
theorem dX5_moved_4 : decode cX5_moved 4 = .ok (.iload_n 2, 1) := by decide +kernel
theorem dX5_moved_5 : decode cX5_moved 5 = .ok (.iload_n 1, 1) := by decide +kernel
theorem dX5_moved_6 : decode cX5_moved 6 = .ok (.invokevirtual 19, 3) := by decide +kernel
theorem dX5_moved_9 : decode cX5_moved 9 = .ok (.ireturn, 1) := by decide +kernel
set_option maxRecDepth 20000 in
theorem ggX5_arrived_J6_bitCount_0f7a4 : GoodIn wsX5_arrived wsJ6_bitCount_0f7a4 := goodIn_r _ [5, 6, 7, 8] rfl (by decide +kernel)
set_option maxRecDepth 20000 in
theorem gX5_arrived_J6_bitCount_0f7a4 : GoodIn wsX5_arrived (va_wsS RX5 25 yJ6_bitCount_0f7a4 wsJ6_bitCount_0f7a4) := goodIn_app (goodIn_of _ (by decide +kernel)) ggX5_arrived_J6_bitCount_0f7a4
theorem dX5_arrived_0 : decode cX5_arrived 0 = .ok (.aload_n 0, 1) := by decide +kernel
theorem dX5_arrived_1 : decode cX5_arrived 1 = .ok (.getfield 9, 3) := by decide +kernel
theorem dX5_arrived_4 : decode cX5_arrived 4 = .ok (.ifCond .eq 18, 3) := by decide +kernel
theorem dX5_arrived_7 : decode cX5_arrived 7 = .ok (.iload_n 1, 1) := by decide +kernel
theorem dX5_arrived_8 : decode cX5_arrived 8 = .ok (.sipush 512, 3) := by decide +kernel
theorem dX5_arrived_11 : decode cX5_arrived 11 = .ok (.if_icmp .ne 7, 3) := by decide +kernel
theorem dX5_arrived_14 : decode cX5_arrived 14 = .ok (.iconst 1, 1) := by decide +kernel
theorem dX5_arrived_15 : decode cX5_arrived 15 = .ok (.goto 20, 3) := by decide +kernel
theorem dX5_arrived_18 : decode cX5_arrived 18 = .ok (.iconst 0, 1) := by decide +kernel
theorem dX5_arrived_19 : decode cX5_arrived 19 = .ok (.goto 16, 3) := by decide +kernel
theorem dX5_arrived_22 : decode cX5_arrived 22 = .ok (.iload_n 1, 1) := by decide +kernel
theorem dX5_arrived_23 : decode cX5_arrived 23 = .ok (.invokestatic 25, 3) := by decide +kernel
theorem dX5_arrived_26 : decode cX5_arrived 26 = .ok (.iconst 1, 1) := by decide +kernel
theorem dX5_arrived_27 : decode cX5_arrived 27 = .ok (.if_icmp .ne 7, 3) := by decide +kernel
theorem dX5_arrived_30 : decode cX5_arrived 30 = .ok (.iconst 1, 1) := by decide +kernel
theorem dX5_arrived_31 : decode cX5_arrived 31 = .ok (.goto 4, 3) := by decide +kernel
theorem dX5_arrived_34 : decode cX5_arrived 34 = .ok (.iconst 0, 1) := by decide +kernel
theorem dX5_arrived_35 : decode cX5_arrived 35 = .ok (.ireturn, 1) := by decide +kernel
theorem dX5_changes_0 : decode cX5_changes 0 = .ok (.iconst 0, 1) := by decide +kernel
theorem dX5_changes_1 : decode cX5_changes 1 = .ok (.ireturn, 1) := by decide +kernel
theorem dX7_init_0 : decode cX7_init 0 = .ok (.aload_n 0, 1) := by decide +kernel
theorem dX7_init_1 : decode cX7_init 1 = .ok (.invokespecial 3, 3) := by decide +kernel
theorem dX7_init_4 : decode cX7_init 4 = .ok (.aload_n 0, 1) := by decide +kernel
theorem dX7_init_5 : decode cX7_init 5 = .ok (.sipush 1024, 3) := by decide +kernel
theorem dX7_init_8 : decode cX7_init 8 = .ok (.newarray .long, 2) := by decide +kernel
theorem dX7_init_10 : decode cX7_init 10 = .ok (.putfield 11, 3) := by decide +kernel
theorem dX7_init_13 : decode cX7_init 13 = .ok (.aload_n 0, 1) := by decide +kernel
theorem dX7_init_14 : decode cX7_init 14 = .ok (.sipush 1024, 3) := by decide +kernel
theorem dX7_init_17 : decode cX7_init 17 = .ok (.newarray .long, 2) := by decide +kernel
theorem dX7_init_19 : decode cX7_init 19 = .ok (.putfield 15, 3) := by decide +kernel
theorem dX7_init_22 : decode cX7_init 22 = .ok (.aload_n 0, 1) := by decide +kernel
theorem dX7_init_23 : decode cX7_init 23 = .ok (.bipush 32, 2) := by decide +kernel
theorem dX7_init_25 : decode cX7_init 25 = .ok (.newarray .int, 2) := by decide +kernel
theorem dX7_init_27 : decode cX7_init 27 = .ok (.putfield 18, 3) := by decide +kernel
theorem dX7_init_30 : decode cX7_init 30 = .ok (.aload_n 0, 1) := by decide +kernel
theorem dX7_init_31 : decode cX7_init 31 = .ok (.iconst 0, 1) := by decide +kernel
theorem dX7_init_32 : decode cX7_init 32 = .ok (.putfield 22, 3) := by decide +kernel
theorem dX7_init_35 : decode cX7_init 35 = .ok (.aload_n 0, 1) := by decide +kernel
theorem dX7_init_36 : decode cX7_init 36 = .ok (.iconst (-1), 1) := by decide +kernel
theorem dX7_init_37 : decode cX7_init 37 = .ok (.putfield 26, 3) := by decide +kernel
theorem dX7_init_40 : decode cX7_init 40 = .ok (.aload_n 0, 1) := by decide +kernel
theorem dX7_init_41 : decode cX7_init 41 = .ok (.lconst 0, 1) := by decide +kernel
theorem dX7_init_42 : decode cX7_init 42 = .ok (.putfield 29, 3) := by decide +kernel
theorem dX7_init_45 : decode cX7_init 45 = .ok (.return_, 1) := by decide +kernel
set_option maxRecDepth 20000 in
theorem ggX7_find_X1_arrived : GoodIn wsX7_find wsX1_arrived := goodIn_r _ [18, 19, 181, 182, 183, 184, 185, 186] rfl (by decide +kernel)
set_option maxRecDepth 20000 in
theorem gX7_find_X1_arrived_u33X1 : GoodIn wsX7_find (va_wsU RX7 33 RX1 "ClownsMourn$Walk" ⟨"ClownsMourn$Walk", "arrived", "(I)Z"⟩ yX1_arrived wsX1_arrived) := goodIn_app (goodIn_of _ (by decide +kernel)) ggX7_find_X1_arrived
set_option maxRecDepth 20000 in
theorem ggX7_find_X5_arrived : GoodIn wsX7_find wsX5_arrived := goodIn_r _ [23, 24, 25, 26, 27, 28, 29, 30, 31, 187, 188] rfl (by decide +kernel)
set_option maxRecDepth 20000 in
theorem gX7_find_X5_arrived_u33X5 : GoodIn wsX7_find (va_wsU RX7 33 RX5 "ClownsMourn$Walk" ⟨"ClownsMourn$Walk", "arrived", "(I)Z"⟩ yX5_arrived wsX5_arrived) := goodIn_app (goodIn_of _ (by decide +kernel)) ggX7_find_X5_arrived
set_option maxRecDepth 20000 in
theorem ggX7_find_X1_changes : GoodIn wsX7_find wsX1_changes := goodIn_r _ [36] rfl (by decide +kernel)
set_option maxRecDepth 20000 in
theorem gX7_find_X1_changes_u39X1 : GoodIn wsX7_find (va_wsU RX7 39 RX1 "ClownsMourn$Walk" ⟨"ClownsMourn$Walk", "changes", "()Z"⟩ yX1_changes wsX1_changes) := goodIn_app (goodIn_of _ (by decide +kernel)) ggX7_find_X1_changes
set_option maxRecDepth 20000 in
theorem ggX7_find_X5_changes : GoodIn wsX7_find wsX5_changes := goodIn_r _ [39] rfl (by decide +kernel)
set_option maxRecDepth 20000 in
theorem gX7_find_X5_changes_u39X5 : GoodIn wsX7_find (va_wsU RX7 39 RX5 "ClownsMourn$Walk" ⟨"ClownsMourn$Walk", "changes", "()Z"⟩ yX5_changes wsX5_changes) := goodIn_app (goodIn_of _ (by decide +kernel)) ggX7_find_X5_changes
set_option maxRecDepth 20000 in
theorem ggX7_find_J7_fill_53178 : GoodIn wsX7_find wsJ7_fill_53178 := goodIn_r _ [43] rfl (by decide +kernel)
set_option maxRecDepth 20000 in
theorem gX7_find_J7_fill_53178 : GoodIn wsX7_find (va_wsS RX7 43 yJ7_fill_53178 wsJ7_fill_53178) := goodIn_app (goodIn_of _ (by decide +kernel)) ggX7_find_J7_fill_53178
set_option maxRecDepth 20000 in
theorem ggX7_find_X1_moved : GoodIn wsX7_find wsX1_moved := goodIn_r _ [48, 49, 50, 51, 52, 53, 54, 55, 56, 57, 58, 59, 17, 60, 61, 62, 63, 64, 65, 66, 67, 68, 69, 70, 71, 72, 73, 74, 75, 76, 77, 78, 79, 80, 81, 82, 83, 84, 85, 86, 87, 88, 89, 90, 91, 92, 93, 94, 95, 96, 97, 98, 99, 100, 101, 102, 103, 104, 105, 106, 107, 108, 109, 110, 111, 112, 113, 114, 115, 116, 117, 118, 119, 120, 121, 122, 123, 124, 125, 126, 127, 128, 129, 130, 131, 132, 133, 134, 135, 136, 137, 138, 139, 140, 141, 142, 143, 144, 145, 146, 147, 148, 149, 150, 151, 152, 153, 154, 155, 156, 157, 158, 159, 160, 181, 182, 183, 184, 185, 186, 189, 190, 191, 192, 193, 194, 195, 196, 197, 198, 199, 200, 201, 202, 203, 204, 205, 206, 207, 208, 209, 210, 211, 212] rfl (by decide +kernel)
set_option maxRecDepth 20000 in
theorem gX7_find_X1_moved_u51X1 : GoodIn wsX7_find (va_wsU RX7 51 RX1 "ClownsMourn$Walk" ⟨"ClownsMourn$Walk", "moved", "(III)I"⟩ yX1_moved wsX1_moved) := goodIn_app (goodIn_of _ (by decide +kernel)) ggX7_find_X1_moved
set_option maxRecDepth 20000 in
theorem ggX7_find_X5_moved : GoodIn wsX7_find wsX5_moved := goodIn_r _ [163, 164, 165, 166, 167, 65, 168, 169, 157, 158, 159, 160, 95, 69, 96, 187, 188, 189, 190, 191, 192, 193, 194, 195, 196, 197, 198, 199, 200, 201, 202, 203, 204] rfl (by decide +kernel)
set_option maxRecDepth 20000 in
theorem gX7_find_X5_moved_u51X5 : GoodIn wsX7_find (va_wsU RX7 51 RX5 "ClownsMourn$Walk" ⟨"ClownsMourn$Walk", "moved", "(III)I"⟩ yX5_moved wsX5_moved) := goodIn_app (goodIn_of _ (by decide +kernel)) ggX7_find_X5_moved
set_option maxRecDepth 20000 in
theorem ggX7_find_X7_add : GoodIn wsX7_find wsX7_add := goodIn_r _ [174, 5, 4, 8, 6, 95, 69, 96, 68, 70, 175, 176, 177, 178, 179, 180] rfl (by decide +kernel)
set_option maxRecDepth 20000 in
theorem gX7_find_X7_add : GoodIn wsX7_find (wsV RX7 57 RX7 yX7_add wsX7_add) := goodIn_app (goodIn_of _ (by decide +kernel)) ggX7_find_X7_add
set_option maxRecDepth 20000 in
theorem ggX7_find_X11_held : GoodIn wsX7_find wsX11_held := goodIn_r _ [142] rfl (by decide +kernel)
set_option maxRecDepth 20000 in
theorem gX7_find_X11_held_n61 : GoodIn wsX7_find (wsX11_held) := ggX7_find_X11_held
theorem dX7_find_0 : decode cX7_find 0 = .ok (.aload_n 0, 1) := by decide +kernel
theorem dX7_find_1 : decode cX7_find 1 = .ok (.aload_n 1, 1) := by decide +kernel
theorem dX7_find_2 : decode cX7_find 2 = .ok (.iload_n 2, 1) := by decide +kernel
theorem dX7_find_3 : decode cX7_find 3 = .ok (.invokevirtual 33, 3) := by decide +kernel
theorem dX7_find_6 : decode cX7_find 6 = .ok (.ifCond .eq 7, 3) := by decide +kernel
theorem dX7_find_9 : decode cX7_find 9 = .ok (.iconst 0, 1) := by decide +kernel
theorem dX7_find_10 : decode cX7_find 10 = .ok (.goto 4, 3) := by decide +kernel
theorem dX7_find_13 : decode cX7_find 13 = .ok (.iconst (-1), 1) := by decide +kernel
theorem dX7_find_14 : decode cX7_find 14 = .ok (.putfield 26, 3) := by decide +kernel
theorem dX7_find_17 : decode cX7_find 17 = .ok (.aload_n 0, 1) := by decide +kernel
theorem dX7_find_18 : decode cX7_find 18 = .ok (.lconst 0, 1) := by decide +kernel
theorem dX7_find_19 : decode cX7_find 19 = .ok (.putfield 29, 3) := by decide +kernel
theorem dX7_find_22 : decode cX7_find 22 = .ok (.aload_n 0, 1) := by decide +kernel
theorem dX7_find_23 : decode cX7_find 23 = .ok (.getfield 11, 3) := by decide +kernel
theorem dX7_find_26 : decode cX7_find 26 = .ok (.iconst 0, 1) := by decide +kernel
theorem dX7_find_27 : decode cX7_find 27 = .ok (.iload_n 2, 1) := by decide +kernel
theorem dX7_find_28 : decode cX7_find 28 = .ok (.i2l, 1) := by decide +kernel
theorem dX7_find_29 : decode cX7_find 29 = .ok (.lastore, 1) := by decide +kernel
theorem dX7_find_30 : decode cX7_find 30 = .ok (.iconst 1, 1) := by decide +kernel
theorem dX7_find_31 : decode cX7_find 31 = .ok (.istore 4, 2) := by decide +kernel
theorem dX7_find_33 : decode cX7_find 33 = .ok (.iconst 0, 1) := by decide +kernel
theorem dX7_find_34 : decode cX7_find 34 = .ok (.istore 5, 2) := by decide +kernel
theorem dX7_find_36 : decode cX7_find 36 = .ok (.iload 5, 2) := by decide +kernel
theorem dX7_find_38 : decode cX7_find 38 = .ok (.iload_n 3, 1) := by decide +kernel
theorem dX7_find_39 : decode cX7_find 39 = .ok (.if_icmp .ge 197, 3) := by decide +kernel
theorem dX7_find_42 : decode cX7_find 42 = .ok (.aload_n 0, 1) := by decide +kernel
theorem dX7_find_43 : decode cX7_find 43 = .ok (.getfield 26, 3) := by decide +kernel
theorem dX7_find_46 : decode cX7_find 46 = .ok (.iconst (-1), 1) := by decide +kernel
theorem dX7_find_47 : decode cX7_find 47 = .ok (.if_icmp .ne 189, 3) := by decide +kernel
theorem dX7_find_50 : decode cX7_find 50 = .ok (.aload_n 0, 1) := by decide +kernel
theorem dX7_find_51 : decode cX7_find 51 = .ok (.iconst 0, 1) := by decide +kernel
theorem dX7_find_52 : decode cX7_find 52 = .ok (.putfield 22, 3) := by decide +kernel
theorem dX7_find_55 : decode cX7_find 55 = .ok (.iload 5, 2) := by decide +kernel
theorem dX7_find_57 : decode cX7_find 57 = .ok (.ifCond .eq 10, 3) := by decide +kernel
theorem dX7_find_60 : decode cX7_find 60 = .ok (.aload_n 1, 1) := by decide +kernel
theorem dX7_find_61 : decode cX7_find 61 = .ok (.invokevirtual 39, 3) := by decide +kernel
theorem dX7_find_64 : decode cX7_find 64 = .ok (.ifCond .eq 11, 3) := by decide +kernel
theorem dX7_find_67 : decode cX7_find 67 = .ok (.aload_n 0, 1) := by decide +kernel
theorem dX7_find_68 : decode cX7_find 68 = .ok (.getfield 18, 3) := by decide +kernel
theorem dX7_find_71 : decode cX7_find 71 = .ok (.iconst 0, 1) := by decide +kernel
theorem dX7_find_72 : decode cX7_find 72 = .ok (.invokestatic 43, 3) := by decide +kernel
theorem dX7_find_75 : decode cX7_find 75 = .ok (.iconst 0, 1) := by decide +kernel
theorem dX7_find_76 : decode cX7_find 76 = .ok (.istore 6, 2) := by decide +kernel
theorem dX7_find_78 : decode cX7_find 78 = .ok (.iload 6, 2) := by decide +kernel
theorem dX7_find_80 : decode cX7_find 80 = .ok (.iload 4, 2) := by decide +kernel
theorem dX7_find_82 : decode cX7_find 82 = .ok (.iconst 5, 1) := by decide +kernel
theorem dX7_find_83 : decode cX7_find 83 = .ok (.imul, 1) := by decide +kernel
theorem dX7_find_84 : decode cX7_find 84 = .ok (.if_icmp .ge 116, 3) := by decide +kernel
theorem dX7_find_87 : decode cX7_find 87 = .ok (.iload 6, 2) := by decide +kernel
theorem dX7_find_89 : decode cX7_find 89 = .ok (.iconst 5, 1) := by decide +kernel
theorem dX7_find_90 : decode cX7_find 90 = .ok (.idiv, 1) := by decide +kernel
theorem dX7_find_91 : decode cX7_find 91 = .ok (.sipush 1024, 3) := by decide +kernel
theorem dX7_find_94 : decode cX7_find 94 = .ok (.if_icmp .ge 106, 3) := by decide +kernel
theorem dX7_find_97 : decode cX7_find 97 = .ok (.aload_n 0, 1) := by decide +kernel
theorem dX7_find_98 : decode cX7_find 98 = .ok (.getfield 26, 3) := by decide +kernel
theorem dX7_find_101 : decode cX7_find 101 = .ok (.iconst (-1), 1) := by decide +kernel
theorem dX7_find_102 : decode cX7_find 102 = .ok (.if_icmp .ne 98, 3) := by decide +kernel
theorem dX7_find_105 : decode cX7_find 105 = .ok (.aload_n 0, 1) := by decide +kernel
theorem dX7_find_106 : decode cX7_find 106 = .ok (.getfield 11, 3) := by decide +kernel
theorem dX7_find_109 : decode cX7_find 109 = .ok (.iload 6, 2) := by decide +kernel
theorem dX7_find_111 : decode cX7_find 111 = .ok (.iconst 5, 1) := by decide +kernel
theorem dX7_find_112 : decode cX7_find 112 = .ok (.idiv, 1) := by decide +kernel
theorem dX7_find_113 : decode cX7_find 113 = .ok (.laload, 1) := by decide +kernel
theorem dX7_find_114 : decode cX7_find 114 = .ok (.lstore 7, 2) := by decide +kernel
theorem dX7_find_116 : decode cX7_find 116 = .ok (.iload 6, 2) := by decide +kernel
theorem dX7_find_118 : decode cX7_find 118 = .ok (.iconst 5, 1) := by decide +kernel
theorem dX7_find_119 : decode cX7_find 119 = .ok (.irem, 1) := by decide +kernel
theorem dX7_find_120 : decode cX7_find 120 = .ok (.istore 9, 2) := by decide +kernel
theorem dX7_find_122 : decode cX7_find 122 = .ok (.aload_n 1, 1) := by decide +kernel
theorem dX7_find_123 : decode cX7_find 123 = .ok (.lload 7, 2) := by decide +kernel
theorem dX7_find_125 : decode cX7_find 125 = .ok (.ldc2_w 49, 3) := by decide +kernel
theorem dX7_find_128 : decode cX7_find 128 = .ok (.lrem, 1) := by decide +kernel
theorem dX7_find_129 : decode cX7_find 129 = .ok (.l2i, 1) := by decide +kernel
theorem dX7_find_130 : decode cX7_find 130 = .ok (.iload 9, 2) := by decide +kernel
theorem dX7_find_132 : decode cX7_find 132 = .ok (.iload 5, 2) := by decide +kernel
theorem dX7_find_134 : decode cX7_find 134 = .ok (.invokevirtual 51, 3) := by decide +kernel
theorem dX7_find_137 : decode cX7_find 137 = .ok (.istore 10, 2) := by decide +kernel
theorem dX7_find_139 : decode cX7_find 139 = .ok (.aload_n 0, 1) := by decide +kernel
theorem dX7_find_140 : decode cX7_find 140 = .ok (.lload 7, 2) := by decide +kernel
theorem dX7_find_142 : decode cX7_find 142 = .ok (.ldc2_w 49, 3) := by decide +kernel
theorem dX7_find_145 : decode cX7_find 145 = .ok (.ldiv, 1) := by decide +kernel
theorem dX7_find_146 : decode cX7_find 146 = .ok (.ldc2_w 55, 3) := by decide +kernel
theorem dX7_find_149 : decode cX7_find 149 = .ok (.lmul, 1) := by decide +kernel
theorem dX7_find_150 : decode cX7_find 150 = .ok (.iload 9, 2) := by decide +kernel
theorem dX7_find_152 : decode cX7_find 152 = .ok (.i2l, 1) := by decide +kernel
theorem dX7_find_153 : decode cX7_find 153 = .ok (.ladd, 1) := by decide +kernel
theorem dX7_find_154 : decode cX7_find 154 = .ok (.iload 10, 2) := by decide +kernel
theorem dX7_find_156 : decode cX7_find 156 = .ok (.invokevirtual 57, 3) := by decide +kernel
theorem dX7_find_159 : decode cX7_find 159 = .ok (.aload_n 1, 1) := by decide +kernel
theorem dX7_find_160 : decode cX7_find 160 = .ok (.iload 10, 2) := by decide +kernel
theorem dX7_find_162 : decode cX7_find 162 = .ok (.invokevirtual 33, 3) := by decide +kernel
theorem dX7_find_165 : decode cX7_find 165 = .ok (.ifCond .eq 29, 3) := by decide +kernel
theorem dX7_find_168 : decode cX7_find 168 = .ok (.aload_n 0, 1) := by decide +kernel
theorem dX7_find_169 : decode cX7_find 169 = .ok (.iload 5, 2) := by decide +kernel
theorem dX7_find_171 : decode cX7_find 171 = .ok (.iconst 1, 1) := by decide +kernel
theorem dX7_find_172 : decode cX7_find 172 = .ok (.iadd, 1) := by decide +kernel
theorem dX7_find_173 : decode cX7_find 173 = .ok (.putfield 26, 3) := by decide +kernel
theorem dX7_find_176 : decode cX7_find 176 = .ok (.aload_n 0, 1) := by decide +kernel
theorem dX7_find_177 : decode cX7_find 177 = .ok (.lload 7, 2) := by decide +kernel
theorem dX7_find_179 : decode cX7_find 179 = .ok (.ldc2_w 49, 3) := by decide +kernel
theorem dX7_find_182 : decode cX7_find 182 = .ok (.ldiv, 1) := by decide +kernel
theorem dX7_find_183 : decode cX7_find 183 = .ok (.ldc2_w 55, 3) := by decide +kernel
theorem dX7_find_186 : decode cX7_find 186 = .ok (.lmul, 1) := by decide +kernel
theorem dX7_find_187 : decode cX7_find 187 = .ok (.iload 9, 2) := by decide +kernel
theorem dX7_find_189 : decode cX7_find 189 = .ok (.i2l, 1) := by decide +kernel
theorem dX7_find_190 : decode cX7_find 190 = .ok (.ladd, 1) := by decide +kernel
theorem dX7_find_191 : decode cX7_find 191 = .ok (.putfield 29, 3) := by decide +kernel
theorem dX7_find_194 : decode cX7_find 194 = .ok (.iinc 6 1, 3) := by decide +kernel
theorem dX7_find_197 : decode cX7_find 197 = .ok (.goto (-119), 3) := by decide +kernel
theorem dX7_find_200 : decode cX7_find 200 = .ok (.aload_n 0, 1) := by decide +kernel
theorem dX7_find_201 : decode cX7_find 201 = .ok (.getfield 22, 3) := by decide +kernel
theorem dX7_find_204 : decode cX7_find 204 = .ok (.istore 4, 2) := by decide +kernel
theorem dX7_find_206 : decode cX7_find 206 = .ok (.aload_n 0, 1) := by decide +kernel
theorem dX7_find_207 : decode cX7_find 207 = .ok (.getfield 15, 3) := by decide +kernel
theorem dX7_find_210 : decode cX7_find 210 = .ok (.iconst 0, 1) := by decide +kernel
theorem dX7_find_211 : decode cX7_find 211 = .ok (.aload_n 0, 1) := by decide +kernel
theorem dX7_find_212 : decode cX7_find 212 = .ok (.getfield 11, 3) := by decide +kernel
theorem dX7_find_215 : decode cX7_find 215 = .ok (.iconst 0, 1) := by decide +kernel
theorem dX7_find_216 : decode cX7_find 216 = .ok (.aload_n 0, 1) := by decide +kernel
theorem dX7_find_217 : decode cX7_find 217 = .ok (.getfield 22, 3) := by decide +kernel
theorem dX7_find_220 : decode cX7_find 220 = .ok (.iconst 0, 1) := by decide +kernel
theorem dX7_find_221 : decode cX7_find 221 = .ok (.sipush 1024, 3) := by decide +kernel
theorem dX7_find_224 : decode cX7_find 224 = .ok (.invokestatic 61, 3) := by decide +kernel
theorem dX7_find_227 : decode cX7_find 227 = .ok (.invokestatic 64, 3) := by decide +kernel
theorem dX7_find_230 : decode cX7_find 230 = .ok (.iinc 5 1, 3) := by decide +kernel
theorem dX7_find_233 : decode cX7_find 233 = .ok (.goto (-197), 3) := by decide +kernel
theorem dX7_find_236 : decode cX7_find 236 = .ok (.return_, 1) := by decide +kernel
set_option maxRecDepth 20000 in
theorem ggX7_add_X11_at : GoodIn wsX7_add wsX11_at := goodIn_r _ [7] rfl (by decide +kernel)
set_option maxRecDepth 20000 in
theorem gX7_add_X11_at_n70 : GoodIn wsX7_add (wsX11_at) := ggX7_add_X11_at
set_option maxRecDepth 20000 in
theorem ggX7_add_X11_put : GoodIn wsX7_add wsX11_put := goodIn_r _ [9] rfl (by decide +kernel)
set_option maxRecDepth 20000 in
theorem gX7_add_X11_put_n74 : GoodIn wsX7_add (wsX11_put) := ggX7_add_X11_put
theorem dX7_add_0 : decode cX7_add 0 = .ok (.iload_n 3, 1) := by decide +kernel
theorem dX7_add_1 : decode cX7_add 1 = .ok (.bipush 32, 2) := by decide +kernel
theorem dX7_add_3 : decode cX7_add 3 = .ok (.idiv, 1) := by decide +kernel
theorem dX7_add_4 : decode cX7_add 4 = .ok (.istore 4, 2) := by decide +kernel
theorem dX7_add_6 : decode cX7_add 6 = .ok (.iconst 1, 1) := by decide +kernel
theorem dX7_add_7 : decode cX7_add 7 = .ok (.iload_n 3, 1) := by decide +kernel
theorem dX7_add_8 : decode cX7_add 8 = .ok (.bipush 32, 2) := by decide +kernel
theorem dX7_add_10 : decode cX7_add 10 = .ok (.irem, 1) := by decide +kernel
theorem dX7_add_11 : decode cX7_add 11 = .ok (.ishl, 1) := by decide +kernel
theorem dX7_add_12 : decode cX7_add 12 = .ok (.istore 5, 2) := by decide +kernel
theorem dX7_add_14 : decode cX7_add 14 = .ok (.iload_n 3, 1) := by decide +kernel
theorem dX7_add_15 : decode cX7_add 15 = .ok (.ifCond .lt 83, 3) := by decide +kernel
theorem dX7_add_18 : decode cX7_add 18 = .ok (.aload_n 0, 1) := by decide +kernel
theorem dX7_add_19 : decode cX7_add 19 = .ok (.getfield 18, 3) := by decide +kernel
theorem dX7_add_22 : decode cX7_add 22 = .ok (.iload 4, 2) := by decide +kernel
theorem dX7_add_24 : decode cX7_add 24 = .ok (.invokestatic 70, 3) := by decide +kernel
theorem dX7_add_27 : decode cX7_add 27 = .ok (.iload 5, 2) := by decide +kernel
theorem dX7_add_29 : decode cX7_add 29 = .ok (.iand, 1) := by decide +kernel
theorem dX7_add_30 : decode cX7_add 30 = .ok (.ifCond .ne 68, 3) := by decide +kernel
theorem dX7_add_33 : decode cX7_add 33 = .ok (.aload_n 0, 1) := by decide +kernel
theorem dX7_add_34 : decode cX7_add 34 = .ok (.getfield 22, 3) := by decide +kernel
theorem dX7_add_37 : decode cX7_add 37 = .ok (.ifCond .lt 61, 3) := by decide +kernel
theorem dX7_add_40 : decode cX7_add 40 = .ok (.aload_n 0, 1) := by decide +kernel
theorem dX7_add_41 : decode cX7_add 41 = .ok (.getfield 22, 3) := by decide +kernel
theorem dX7_add_44 : decode cX7_add 44 = .ok (.sipush 1024, 3) := by decide +kernel
theorem dX7_add_47 : decode cX7_add 47 = .ok (.if_icmp .ge 51, 3) := by decide +kernel
theorem dX7_add_50 : decode cX7_add 50 = .ok (.aload_n 0, 1) := by decide +kernel
theorem dX7_add_51 : decode cX7_add 51 = .ok (.getfield 18, 3) := by decide +kernel
theorem dX7_add_54 : decode cX7_add 54 = .ok (.iload 4, 2) := by decide +kernel
theorem dX7_add_56 : decode cX7_add 56 = .ok (.aload_n 0, 1) := by decide +kernel
theorem dX7_add_57 : decode cX7_add 57 = .ok (.getfield 18, 3) := by decide +kernel
theorem dX7_add_60 : decode cX7_add 60 = .ok (.iload 4, 2) := by decide +kernel
theorem dX7_add_62 : decode cX7_add 62 = .ok (.invokestatic 70, 3) := by decide +kernel
theorem dX7_add_65 : decode cX7_add 65 = .ok (.iload 5, 2) := by decide +kernel
theorem dX7_add_67 : decode cX7_add 67 = .ok (.ior, 1) := by decide +kernel
theorem dX7_add_68 : decode cX7_add 68 = .ok (.invokestatic 74, 3) := by decide +kernel
theorem dX7_add_71 : decode cX7_add 71 = .ok (.aload_n 0, 1) := by decide +kernel
theorem dX7_add_72 : decode cX7_add 72 = .ok (.getfield 15, 3) := by decide +kernel
theorem dX7_add_75 : decode cX7_add 75 = .ok (.aload_n 0, 1) := by decide +kernel
theorem dX7_add_76 : decode cX7_add 76 = .ok (.getfield 22, 3) := by decide +kernel
theorem dX7_add_79 : decode cX7_add 79 = .ok (.lload_n 1, 1) := by decide +kernel
theorem dX7_add_80 : decode cX7_add 80 = .ok (.ldc2_w 49, 3) := by decide +kernel
theorem dX7_add_83 : decode cX7_add 83 = .ok (.lmul, 1) := by decide +kernel
theorem dX7_add_84 : decode cX7_add 84 = .ok (.iload_n 3, 1) := by decide +kernel
theorem dX7_add_85 : decode cX7_add 85 = .ok (.i2l, 1) := by decide +kernel
theorem dX7_add_86 : decode cX7_add 86 = .ok (.ladd, 1) := by decide +kernel
theorem dX7_add_87 : decode cX7_add 87 = .ok (.lastore, 1) := by decide +kernel
theorem dX7_add_88 : decode cX7_add 88 = .ok (.aload_n 0, 1) := by decide +kernel
theorem dX7_add_89 : decode cX7_add 89 = .ok (.dup, 1) := by decide +kernel
theorem dX7_add_90 : decode cX7_add 90 = .ok (.getfield 22, 3) := by decide +kernel
theorem dX7_add_93 : decode cX7_add 93 = .ok (.iconst 1, 1) := by decide +kernel
theorem dX7_add_94 : decode cX7_add 94 = .ok (.iadd, 1) := by decide +kernel
theorem dX7_add_95 : decode cX7_add 95 = .ok (.putfield 22, 3) := by decide +kernel
theorem dX7_add_98 : decode cX7_add 98 = .ok (.return_, 1) := by decide +kernel
theorem dX7_answer_0 : decode cX7_answer 0 = .ok (.aload_n 0, 1) := by decide +kernel
theorem dX7_answer_1 : decode cX7_answer 1 = .ok (.getfield 26, 3) := by decide +kernel
theorem dX7_answer_4 : decode cX7_answer 4 = .ok (.iconst (-1), 1) := by decide +kernel
theorem dX7_answer_5 : decode cX7_answer 5 = .ok (.if_icmp .eq 16, 3) := by decide +kernel
theorem dX7_answer_8 : decode cX7_answer 8 = .ok (.iload_n 1, 1) := by decide +kernel
theorem dX7_answer_9 : decode cX7_answer 9 = .ok (.iconst (-1), 1) := by decide +kernel
theorem dX7_answer_10 : decode cX7_answer 10 = .ok (.if_icmp .lt 11, 3) := by decide +kernel
theorem dX7_answer_13 : decode cX7_answer 13 = .ok (.iload_n 1, 1) := by decide +kernel
theorem dX7_answer_14 : decode cX7_answer 14 = .ok (.aload_n 0, 1) := by decide +kernel
theorem dX7_answer_15 : decode cX7_answer 15 = .ok (.getfield 26, 3) := by decide +kernel
theorem dX7_answer_18 : decode cX7_answer 18 = .ok (.if_icmp .lt 6, 3) := by decide +kernel
theorem dX7_answer_21 : decode cX7_answer 21 = .ok (.bipush (-2), 2) := by decide +kernel
theorem dX7_answer_23 : decode cX7_answer 23 = .ok (.ireturn, 1) := by decide +kernel
theorem dX7_answer_24 : decode cX7_answer 24 = .ok (.iload_n 1, 1) := by decide +kernel
theorem dX7_answer_25 : decode cX7_answer 25 = .ok (.iconst (-1), 1) := by decide +kernel
theorem dX7_answer_26 : decode cX7_answer 26 = .ok (.if_icmp .ne 8, 3) := by decide +kernel
theorem dX7_answer_29 : decode cX7_answer 29 = .ok (.aload_n 0, 1) := by decide +kernel
theorem dX7_answer_30 : decode cX7_answer 30 = .ok (.getfield 26, 3) := by decide +kernel
theorem dX7_answer_33 : decode cX7_answer 33 = .ok (.ireturn, 1) := by decide +kernel
theorem dX7_answer_34 : decode cX7_answer 34 = .ok (.aload_n 0, 1) := by decide +kernel
theorem dX7_answer_35 : decode cX7_answer 35 = .ok (.getfield 29, 3) := by decide +kernel
theorem dX7_answer_38 : decode cX7_answer 38 = .ok (.lstore_n 2, 1) := by decide +kernel
theorem dX7_answer_39 : decode cX7_answer 39 = .ok (.aload_n 0, 1) := by decide +kernel
theorem dX7_answer_40 : decode cX7_answer 40 = .ok (.getfield 26, 3) := by decide +kernel
theorem dX7_answer_43 : decode cX7_answer 43 = .ok (.iconst 1, 1) := by decide +kernel
theorem dX7_answer_44 : decode cX7_answer 44 = .ok (.isub, 1) := by decide +kernel
theorem dX7_answer_45 : decode cX7_answer 45 = .ok (.istore 4, 2) := by decide +kernel
theorem dX7_answer_47 : decode cX7_answer 47 = .ok (.iload 4, 2) := by decide +kernel
theorem dX7_answer_49 : decode cX7_answer 49 = .ok (.iload_n 1, 1) := by decide +kernel
theorem dX7_answer_50 : decode cX7_answer 50 = .ok (.if_icmp .le 15, 3) := by decide +kernel
theorem dX7_answer_53 : decode cX7_answer 53 = .ok (.lload_n 2, 1) := by decide +kernel
theorem dX7_answer_54 : decode cX7_answer 54 = .ok (.ldc2_w 55, 3) := by decide +kernel
theorem dX7_answer_57 : decode cX7_answer 57 = .ok (.ldiv, 1) := by decide +kernel
theorem dX7_answer_58 : decode cX7_answer 58 = .ok (.lstore_n 2, 1) := by decide +kernel
theorem dX7_answer_59 : decode cX7_answer 59 = .ok (.iinc 4 (-1), 3) := by decide +kernel
theorem dX7_answer_62 : decode cX7_answer 62 = .ok (.goto (-15), 3) := by decide +kernel
theorem dX7_answer_65 : decode cX7_answer 65 = .ok (.lload_n 2, 1) := by decide +kernel
theorem dX7_answer_66 : decode cX7_answer 66 = .ok (.ldc2_w 55, 3) := by decide +kernel
theorem dX7_answer_69 : decode cX7_answer 69 = .ok (.lrem, 1) := by decide +kernel
theorem dX7_answer_70 : decode cX7_answer 70 = .ok (.l2i, 1) := by decide +kernel
theorem dX7_answer_71 : decode cX7_answer 71 = .ok (.ireturn, 1) := by decide +kernel
theorem dX8_init_0 : decode cX8_init 0 = .ok (.aload_n 0, 1) := by decide +kernel
theorem dX8_init_1 : decode cX8_init 1 = .ok (.invokespecial 1, 3) := by decide +kernel
theorem dX8_init_4 : decode cX8_init 4 = .ok (.aload_n 0, 1) := by decide +kernel
theorem dX8_init_5 : decode cX8_init 5 = .ok (.sipush 2220, 3) := by decide +kernel
theorem dX8_init_8 : decode cX8_init 8 = .ok (.newarray .int, 2) := by decide +kernel
theorem dX8_init_10 : decode cX8_init 10 = .ok (.putfield 11, 3) := by decide +kernel
theorem dX8_init_13 : decode cX8_init 13 = .ok (.aload_n 0, 1) := by decide +kernel
theorem dX8_init_14 : decode cX8_init 14 = .ok (.iconst 0, 1) := by decide +kernel
theorem dX8_init_15 : decode cX8_init 15 = .ok (.putfield 15, 3) := by decide +kernel
theorem dX8_init_18 : decode cX8_init 18 = .ok (.aload_n 0, 1) := by decide +kernel
theorem dX8_init_19 : decode cX8_init 19 = .ok (.iconst 0, 1) := by decide +kernel
theorem dX8_init_20 : decode cX8_init 20 = .ok (.putfield 19, 3) := by decide +kernel
theorem dX8_init_23 : decode cX8_init 23 = .ok (.return_, 1) := by decide +kernel
set_option maxRecDepth 20000 in
theorem ggX8_becomes_X11_copyWhole : GoodIn wsX8_becomes wsX11_copyWhole := goodIn_r _ [6, 7, 8, 5, 9, 10, 11, 12, 13] rfl (by decide +kernel)
set_option maxRecDepth 20000 in
theorem gX8_becomes_X11_copyWhole_n22 : GoodIn wsX8_becomes (wsX11_copyWhole) := ggX8_becomes_X11_copyWhole
theorem dX8_becomes_0 : decode cX8_becomes 0 = .ok (.aload_n 1, 1) := by decide +kernel
theorem dX8_becomes_1 : decode cX8_becomes 1 = .ok (.getfield 11, 3) := by decide +kernel
theorem dX8_becomes_4 : decode cX8_becomes 4 = .ok (.aload_n 0, 1) := by decide +kernel
theorem dX8_becomes_5 : decode cX8_becomes 5 = .ok (.getfield 11, 3) := by decide +kernel
theorem dX8_becomes_8 : decode cX8_becomes 8 = .ok (.invokestatic 22, 3) := by decide +kernel
theorem dX8_becomes_11 : decode cX8_becomes 11 = .ok (.aload_n 0, 1) := by decide +kernel
theorem dX8_becomes_12 : decode cX8_becomes 12 = .ok (.aload_n 1, 1) := by decide +kernel
theorem dX8_becomes_13 : decode cX8_becomes 13 = .ok (.getfield 15, 3) := by decide +kernel
theorem dX8_becomes_16 : decode cX8_becomes 16 = .ok (.putfield 15, 3) := by decide +kernel
theorem dX8_becomes_19 : decode cX8_becomes 19 = .ok (.aload_n 0, 1) := by decide +kernel
theorem dX8_becomes_20 : decode cX8_becomes 20 = .ok (.aload_n 1, 1) := by decide +kernel
theorem dX8_becomes_21 : decode cX8_becomes 21 = .ok (.getfield 19, 3) := by decide +kernel
theorem dX8_becomes_24 : decode cX8_becomes 24 = .ok (.putfield 19, 3) := by decide +kernel
theorem dX8_becomes_27 : decode cX8_becomes 27 = .ok (.return_, 1) := by decide +kernel
set_option maxRecDepth 20000 in
theorem ggX8_keepRow_X8_startOf : GoodIn wsX8_keepRow wsX8_startOf := goodIn_r _ [8, 2, 16, 17, 18] rfl (by decide +kernel)
set_option maxRecDepth 20000 in
theorem gX8_keepRow_X8_startOf : GoodIn wsX8_keepRow (wsV RX8 28 RX8 yX8_startOf wsX8_startOf) := goodIn_app (goodIn_of _ (by decide +kernel)) ggX8_keepRow_X8_startOf
set_option maxRecDepth 20000 in
theorem ggX8_keepRow_X11_copyPart : GoodIn wsX8_keepRow wsX11_copyPart := goodIn_r _ [11, 12, 13, 14, 15] rfl (by decide +kernel)
set_option maxRecDepth 20000 in
theorem gX8_keepRow_X11_copyPart_n32 : GoodIn wsX8_keepRow (wsX11_copyPart) := ggX8_keepRow_X11_copyPart
theorem dX8_keepRow_0 : decode cX8_keepRow 0 = .ok (.aload_n 0, 1) := by decide +kernel
theorem dX8_keepRow_1 : decode cX8_keepRow 1 = .ok (.getfield 19, 3) := by decide +kernel
theorem dX8_keepRow_4 : decode cX8_keepRow 4 = .ok (.bipush 30, 2) := by decide +kernel
theorem dX8_keepRow_6 : decode cX8_keepRow 6 = .ok (.if_icmp .lt 22, 3) := by decide +kernel
theorem dX8_keepRow_9 : decode cX8_keepRow 9 = .ok (.aload_n 0, 1) := by decide +kernel
theorem dX8_keepRow_10 : decode cX8_keepRow 10 = .ok (.aload_n 0, 1) := by decide +kernel
theorem dX8_keepRow_11 : decode cX8_keepRow 11 = .ok (.getfield 15, 3) := by decide +kernel
theorem dX8_keepRow_14 : decode cX8_keepRow 14 = .ok (.iconst 1, 1) := by decide +kernel
theorem dX8_keepRow_15 : decode cX8_keepRow 15 = .ok (.iadd, 1) := by decide +kernel
theorem dX8_keepRow_16 : decode cX8_keepRow 16 = .ok (.bipush 30, 2) := by decide +kernel
theorem dX8_keepRow_18 : decode cX8_keepRow 18 = .ok (.irem, 1) := by decide +kernel
theorem dX8_keepRow_19 : decode cX8_keepRow 19 = .ok (.putfield 15, 3) := by decide +kernel
theorem dX8_keepRow_22 : decode cX8_keepRow 22 = .ok (.aload_n 0, 1) := by decide +kernel
theorem dX8_keepRow_23 : decode cX8_keepRow 23 = .ok (.bipush 29, 2) := by decide +kernel
theorem dX8_keepRow_25 : decode cX8_keepRow 25 = .ok (.putfield 19, 3) := by decide +kernel
theorem dX8_keepRow_28 : decode cX8_keepRow 28 = .ok (.aload_n 1, 1) := by decide +kernel
theorem dX8_keepRow_29 : decode cX8_keepRow 29 = .ok (.iconst 0, 1) := by decide +kernel
theorem dX8_keepRow_30 : decode cX8_keepRow 30 = .ok (.aload_n 0, 1) := by decide +kernel
theorem dX8_keepRow_31 : decode cX8_keepRow 31 = .ok (.getfield 11, 3) := by decide +kernel
theorem dX8_keepRow_34 : decode cX8_keepRow 34 = .ok (.aload_n 0, 1) := by decide +kernel
theorem dX8_keepRow_35 : decode cX8_keepRow 35 = .ok (.aload_n 0, 1) := by decide +kernel
theorem dX8_keepRow_36 : decode cX8_keepRow 36 = .ok (.getfield 19, 3) := by decide +kernel
theorem dX8_keepRow_39 : decode cX8_keepRow 39 = .ok (.invokevirtual 28, 3) := by decide +kernel
theorem dX8_keepRow_42 : decode cX8_keepRow 42 = .ok (.bipush 74, 2) := by decide +kernel
theorem dX8_keepRow_44 : decode cX8_keepRow 44 = .ok (.invokestatic 32, 3) := by decide +kernel
theorem dX8_keepRow_47 : decode cX8_keepRow 47 = .ok (.aload_n 0, 1) := by decide +kernel
theorem dX8_keepRow_48 : decode cX8_keepRow 48 = .ok (.dup, 1) := by decide +kernel
theorem dX8_keepRow_49 : decode cX8_keepRow 49 = .ok (.getfield 19, 3) := by decide +kernel
theorem dX8_keepRow_52 : decode cX8_keepRow 52 = .ok (.iconst 1, 1) := by decide +kernel
theorem dX8_keepRow_53 : decode cX8_keepRow 53 = .ok (.iadd, 1) := by decide +kernel
theorem dX8_keepRow_54 : decode cX8_keepRow 54 = .ok (.putfield 19, 3) := by decide +kernel
theorem dX8_keepRow_57 : decode cX8_keepRow 57 = .ok (.return_, 1) := by decide +kernel
set_option maxRecDepth 20000 in
theorem ggX8_takeBack_X8_startOf : GoodIn wsX8_takeBack wsX8_startOf := goodIn_r _ [7, 8, 22, 23, 24] rfl (by decide +kernel)
set_option maxRecDepth 20000 in
theorem gX8_takeBack_X8_startOf : GoodIn wsX8_takeBack (wsV RX8 28 RX8 yX8_startOf wsX8_startOf) := goodIn_app (goodIn_of _ (by decide +kernel)) ggX8_takeBack_X8_startOf
set_option maxRecDepth 20000 in
theorem ggX8_takeBack_X11_at : GoodIn wsX8_takeBack wsX11_at := goodIn_r _ [11] rfl (by decide +kernel)
set_option maxRecDepth 20000 in
theorem gX8_takeBack_X11_at_n36 : GoodIn wsX8_takeBack (wsX11_at) := ggX8_takeBack_X11_at
set_option maxRecDepth 20000 in
theorem ggX8_takeBack_X8_copyBack : GoodIn wsX8_takeBack wsX8_copyBack := goodIn_r _ [15, 2, 16, 10, 17, 18, 19, 20, 21, 22, 23, 24] rfl (by decide +kernel)
set_option maxRecDepth 20000 in
theorem gX8_takeBack_X8_copyBack : GoodIn wsX8_takeBack (wsV RX8 40 RX8 yX8_copyBack wsX8_copyBack) := goodIn_app (goodIn_of _ (by decide +kernel)) ggX8_takeBack_X8_copyBack
theorem dX8_takeBack_0 : decode cX8_takeBack 0 = .ok (.aload_n 0, 1) := by decide +kernel
theorem dX8_takeBack_1 : decode cX8_takeBack 1 = .ok (.getfield 19, 3) := by decide +kernel
theorem dX8_takeBack_4 : decode cX8_takeBack 4 = .ok (.ifCond .gt 4, 3) := by decide +kernel
theorem dX8_takeBack_7 : decode cX8_takeBack 7 = .ok (.return_, 1) := by decide +kernel
theorem dX8_takeBack_8 : decode cX8_takeBack 8 = .ok (.aload_n 0, 1) := by decide +kernel
theorem dX8_takeBack_9 : decode cX8_takeBack 9 = .ok (.dup, 1) := by decide +kernel
theorem dX8_takeBack_10 : decode cX8_takeBack 10 = .ok (.getfield 19, 3) := by decide +kernel
theorem dX8_takeBack_13 : decode cX8_takeBack 13 = .ok (.iconst 1, 1) := by decide +kernel
theorem dX8_takeBack_14 : decode cX8_takeBack 14 = .ok (.isub, 1) := by decide +kernel
theorem dX8_takeBack_15 : decode cX8_takeBack 15 = .ok (.putfield 19, 3) := by decide +kernel
theorem dX8_takeBack_18 : decode cX8_takeBack 18 = .ok (.aload_n 0, 1) := by decide +kernel
theorem dX8_takeBack_19 : decode cX8_takeBack 19 = .ok (.aload_n 0, 1) := by decide +kernel
theorem dX8_takeBack_20 : decode cX8_takeBack 20 = .ok (.getfield 19, 3) := by decide +kernel
theorem dX8_takeBack_23 : decode cX8_takeBack 23 = .ok (.invokevirtual 28, 3) := by decide +kernel
theorem dX8_takeBack_26 : decode cX8_takeBack 26 = .ok (.istore_n 2, 1) := by decide +kernel
theorem dX8_takeBack_27 : decode cX8_takeBack 27 = .ok (.aload_n 0, 1) := by decide +kernel
theorem dX8_takeBack_28 : decode cX8_takeBack 28 = .ok (.getfield 11, 3) := by decide +kernel
theorem dX8_takeBack_31 : decode cX8_takeBack 31 = .ok (.iload_n 2, 1) := by decide +kernel
theorem dX8_takeBack_32 : decode cX8_takeBack 32 = .ok (.bipush 72, 2) := by decide +kernel
theorem dX8_takeBack_34 : decode cX8_takeBack 34 = .ok (.iadd, 1) := by decide +kernel
theorem dX8_takeBack_35 : decode cX8_takeBack 35 = .ok (.invokestatic 36, 3) := by decide +kernel
theorem dX8_takeBack_38 : decode cX8_takeBack 38 = .ok (.istore_n 3, 1) := by decide +kernel
theorem dX8_takeBack_39 : decode cX8_takeBack 39 = .ok (.aload_n 0, 1) := by decide +kernel
theorem dX8_takeBack_40 : decode cX8_takeBack 40 = .ok (.getfield 11, 3) := by decide +kernel
theorem dX8_takeBack_43 : decode cX8_takeBack 43 = .ok (.iload_n 2, 1) := by decide +kernel
theorem dX8_takeBack_44 : decode cX8_takeBack 44 = .ok (.bipush 73, 2) := by decide +kernel
theorem dX8_takeBack_46 : decode cX8_takeBack 46 = .ok (.iadd, 1) := by decide +kernel
theorem dX8_takeBack_47 : decode cX8_takeBack 47 = .ok (.invokestatic 36, 3) := by decide +kernel
theorem dX8_takeBack_50 : decode cX8_takeBack 50 = .ok (.istore 4, 2) := by decide +kernel
theorem dX8_takeBack_52 : decode cX8_takeBack 52 = .ok (.aload_n 0, 1) := by decide +kernel
theorem dX8_takeBack_53 : decode cX8_takeBack 53 = .ok (.aload_n 1, 1) := by decide +kernel
theorem dX8_takeBack_54 : decode cX8_takeBack 54 = .ok (.iload_n 2, 1) := by decide +kernel
theorem dX8_takeBack_55 : decode cX8_takeBack 55 = .ok (.iconst 0, 1) := by decide +kernel
theorem dX8_takeBack_56 : decode cX8_takeBack 56 = .ok (.iload_n 3, 1) := by decide +kernel
theorem dX8_takeBack_57 : decode cX8_takeBack 57 = .ok (.invokevirtual 40, 3) := by decide +kernel
theorem dX8_takeBack_60 : decode cX8_takeBack 60 = .ok (.aload_n 0, 1) := by decide +kernel
theorem dX8_takeBack_61 : decode cX8_takeBack 61 = .ok (.aload_n 1, 1) := by decide +kernel
theorem dX8_takeBack_62 : decode cX8_takeBack 62 = .ok (.iload_n 2, 1) := by decide +kernel
theorem dX8_takeBack_63 : decode cX8_takeBack 63 = .ok (.bipush 6, 2) := by decide +kernel
theorem dX8_takeBack_65 : decode cX8_takeBack 65 = .ok (.iload_n 3, 1) := by decide +kernel
theorem dX8_takeBack_66 : decode cX8_takeBack 66 = .ok (.invokevirtual 40, 3) := by decide +kernel
theorem dX8_takeBack_69 : decode cX8_takeBack 69 = .ok (.aload_n 0, 1) := by decide +kernel
theorem dX8_takeBack_70 : decode cX8_takeBack 70 = .ok (.aload_n 1, 1) := by decide +kernel
theorem dX8_takeBack_71 : decode cX8_takeBack 71 = .ok (.iload_n 2, 1) := by decide +kernel
theorem dX8_takeBack_72 : decode cX8_takeBack 72 = .ok (.bipush 12, 2) := by decide +kernel
theorem dX8_takeBack_74 : decode cX8_takeBack 74 = .ok (.iload_n 3, 1) := by decide +kernel
theorem dX8_takeBack_75 : decode cX8_takeBack 75 = .ok (.invokevirtual 40, 3) := by decide +kernel
theorem dX8_takeBack_78 : decode cX8_takeBack 78 = .ok (.aload_n 0, 1) := by decide +kernel
theorem dX8_takeBack_79 : decode cX8_takeBack 79 = .ok (.aload_n 1, 1) := by decide +kernel
theorem dX8_takeBack_80 : decode cX8_takeBack 80 = .ok (.iload_n 2, 1) := by decide +kernel
theorem dX8_takeBack_81 : decode cX8_takeBack 81 = .ok (.bipush 18, 2) := by decide +kernel
theorem dX8_takeBack_83 : decode cX8_takeBack 83 = .ok (.iload_n 3, 1) := by decide +kernel
theorem dX8_takeBack_84 : decode cX8_takeBack 84 = .ok (.invokevirtual 40, 3) := by decide +kernel
theorem dX8_takeBack_87 : decode cX8_takeBack 87 = .ok (.aload_n 0, 1) := by decide +kernel
theorem dX8_takeBack_88 : decode cX8_takeBack 88 = .ok (.aload_n 1, 1) := by decide +kernel
theorem dX8_takeBack_89 : decode cX8_takeBack 89 = .ok (.iload_n 2, 1) := by decide +kernel
theorem dX8_takeBack_90 : decode cX8_takeBack 90 = .ok (.bipush 24, 2) := by decide +kernel
theorem dX8_takeBack_92 : decode cX8_takeBack 92 = .ok (.iload 4, 2) := by decide +kernel
theorem dX8_takeBack_94 : decode cX8_takeBack 94 = .ok (.invokevirtual 40, 3) := by decide +kernel
theorem dX8_takeBack_97 : decode cX8_takeBack 97 = .ok (.aload_n 0, 1) := by decide +kernel
theorem dX8_takeBack_98 : decode cX8_takeBack 98 = .ok (.aload_n 1, 1) := by decide +kernel
theorem dX8_takeBack_99 : decode cX8_takeBack 99 = .ok (.iload_n 2, 1) := by decide +kernel
theorem dX8_takeBack_100 : decode cX8_takeBack 100 = .ok (.bipush 29, 2) := by decide +kernel
theorem dX8_takeBack_102 : decode cX8_takeBack 102 = .ok (.iload 4, 2) := by decide +kernel
theorem dX8_takeBack_104 : decode cX8_takeBack 104 = .ok (.invokevirtual 40, 3) := by decide +kernel
theorem dX8_takeBack_107 : decode cX8_takeBack 107 = .ok (.aload_n 0, 1) := by decide +kernel
theorem dX8_takeBack_108 : decode cX8_takeBack 108 = .ok (.aload_n 1, 1) := by decide +kernel
theorem dX8_takeBack_109 : decode cX8_takeBack 109 = .ok (.iload_n 2, 1) := by decide +kernel
theorem dX8_takeBack_110 : decode cX8_takeBack 110 = .ok (.bipush 34, 2) := by decide +kernel
theorem dX8_takeBack_112 : decode cX8_takeBack 112 = .ok (.iload 4, 2) := by decide +kernel
theorem dX8_takeBack_114 : decode cX8_takeBack 114 = .ok (.invokevirtual 40, 3) := by decide +kernel
theorem dX8_takeBack_117 : decode cX8_takeBack 117 = .ok (.aload_n 0, 1) := by decide +kernel
theorem dX8_takeBack_118 : decode cX8_takeBack 118 = .ok (.aload_n 1, 1) := by decide +kernel
theorem dX8_takeBack_119 : decode cX8_takeBack 119 = .ok (.iload_n 2, 1) := by decide +kernel
theorem dX8_takeBack_120 : decode cX8_takeBack 120 = .ok (.bipush 39, 2) := by decide +kernel
theorem dX8_takeBack_122 : decode cX8_takeBack 122 = .ok (.bipush 33, 2) := by decide +kernel
theorem dX8_takeBack_124 : decode cX8_takeBack 124 = .ok (.invokevirtual 40, 3) := by decide +kernel
theorem dX8_takeBack_127 : decode cX8_takeBack 127 = .ok (.return_, 1) := by decide +kernel
set_option maxRecDepth 20000 in
theorem ggX8_copyBack_X11_copyPart : GoodIn wsX8_copyBack wsX11_copyPart := goodIn_r _ [4, 5, 6, 7, 8] rfl (by decide +kernel)
set_option maxRecDepth 20000 in
theorem gX8_copyBack_X11_copyPart_n32 : GoodIn wsX8_copyBack (wsX11_copyPart) := ggX8_copyBack_X11_copyPart
theorem dX8_copyBack_0 : decode cX8_copyBack 0 = .ok (.aload_n 0, 1) := by decide +kernel
theorem dX8_copyBack_1 : decode cX8_copyBack 1 = .ok (.getfield 11, 3) := by decide +kernel
theorem dX8_copyBack_4 : decode cX8_copyBack 4 = .ok (.iload_n 2, 1) := by decide +kernel
theorem dX8_copyBack_5 : decode cX8_copyBack 5 = .ok (.iload_n 3, 1) := by decide +kernel
theorem dX8_copyBack_6 : decode cX8_copyBack 6 = .ok (.iadd, 1) := by decide +kernel
theorem dX8_copyBack_7 : decode cX8_copyBack 7 = .ok (.aload_n 1, 1) := by decide +kernel
theorem dX8_copyBack_8 : decode cX8_copyBack 8 = .ok (.iload_n 3, 1) := by decide +kernel
theorem dX8_copyBack_9 : decode cX8_copyBack 9 = .ok (.iload 4, 2) := by decide +kernel
theorem dX8_copyBack_11 : decode cX8_copyBack 11 = .ok (.invokestatic 32, 3) := by decide +kernel
theorem dX8_copyBack_14 : decode cX8_copyBack 14 = .ok (.return_, 1) := by decide +kernel
theorem dX8_startOf_0 : decode cX8_startOf 0 = .ok (.aload_n 0, 1) := by decide +kernel
theorem dX8_startOf_1 : decode cX8_startOf 1 = .ok (.getfield 15, 3) := by decide +kernel
theorem dX8_startOf_4 : decode cX8_startOf 4 = .ok (.iload_n 1, 1) := by decide +kernel
theorem dX8_startOf_5 : decode cX8_startOf 5 = .ok (.iadd, 1) := by decide +kernel
theorem dX8_startOf_6 : decode cX8_startOf 6 = .ok (.bipush 30, 2) := by decide +kernel
theorem dX8_startOf_8 : decode cX8_startOf 8 = .ok (.irem, 1) := by decide +kernel
theorem dX8_startOf_9 : decode cX8_startOf 9 = .ok (.bipush 74, 2) := by decide +kernel
theorem dX8_startOf_11 : decode cX8_startOf 11 = .ok (.imul, 1) := by decide +kernel
theorem dX8_startOf_12 : decode cX8_startOf 12 = .ok (.ireturn, 1) := by decide +kernel
theorem dX9_init_0 : decode cX9_init 0 = .ok (.aload_n 0, 1) := by decide +kernel
theorem dX9_init_1 : decode cX9_init 1 = .ok (.invokespecial 1, 3) := by decide +kernel
theorem dX9_init_4 : decode cX9_init 4 = .ok (.aload_n 0, 1) := by decide +kernel
theorem dX9_init_5 : decode cX9_init 5 = .ok (.iload_n 1, 1) := by decide +kernel
theorem dX9_init_6 : decode cX9_init 6 = .ok (.putfield 7, 3) := by decide +kernel
theorem dX9_init_9 : decode cX9_init 9 = .ok (.aload_n 0, 1) := by decide +kernel
theorem dX9_init_10 : decode cX9_init 10 = .ok (.aload_n 2, 1) := by decide +kernel
theorem dX9_init_11 : decode cX9_init 11 = .ok (.putfield 13, 3) := by decide +kernel
theorem dX9_init_14 : decode cX9_init 14 = .ok (.aload_n 0, 1) := by decide +kernel
theorem dX9_init_15 : decode cX9_init 15 = .ok (.aload_n 3, 1) := by decide +kernel
theorem dX9_init_16 : decode cX9_init 16 = .ok (.putfield 17, 3) := by decide +kernel
theorem dX9_init_19 : decode cX9_init 19 = .ok (.aload_n 0, 1) := by decide +kernel
theorem dX9_init_20 : decode cX9_init 20 = .ok (.aload 4, 2) := by decide +kernel
theorem dX9_init_22 : decode cX9_init 22 = .ok (.putfield 20, 3) := by decide +kernel
theorem dX9_init_25 : decode cX9_init 25 = .ok (.return_, 1) := by decide +kernel
set_option maxRecDepth 20000 in
theorem ggX9_numberOf_X11_at : GoodIn wsX9_numberOf wsX11_at := goodIn_r _ [4] rfl (by decide +kernel)
set_option maxRecDepth 20000 in
theorem gX9_numberOf_X11_at_n25 : GoodIn wsX9_numberOf (wsX11_at) := ggX9_numberOf_X11_at
theorem dX9_numberOf_0 : decode cX9_numberOf 0 = .ok (.aload_n 0, 1) := by decide +kernel
theorem dX9_numberOf_1 : decode cX9_numberOf 1 = .ok (.getfield 13, 3) := by decide +kernel
theorem dX9_numberOf_4 : decode cX9_numberOf 4 = .ok (.iload_n 1, 1) := by decide +kernel
theorem dX9_numberOf_5 : decode cX9_numberOf 5 = .ok (.iconst 4, 1) := by decide +kernel
theorem dX9_numberOf_6 : decode cX9_numberOf 6 = .ok (.imul, 1) := by decide +kernel
theorem dX9_numberOf_7 : decode cX9_numberOf 7 = .ok (.iload_n 2, 1) := by decide +kernel
theorem dX9_numberOf_8 : decode cX9_numberOf 8 = .ok (.iadd, 1) := by decide +kernel
theorem dX9_numberOf_9 : decode cX9_numberOf 9 = .ok (.invokestatic 25, 3) := by decide +kernel
theorem dX9_numberOf_12 : decode cX9_numberOf 12 = .ok (.ireturn, 1) := by decide +kernel
set_option maxRecDepth 20000 in
theorem ggX9_startOf_X11_at : GoodIn wsX9_startOf wsX11_at := goodIn_r _ [4] rfl (by decide +kernel)
set_option maxRecDepth 20000 in
theorem gX9_startOf_X11_at_n25 : GoodIn wsX9_startOf (wsX11_at) := ggX9_startOf_X11_at
theorem dX9_startOf_0 : decode cX9_startOf 0 = .ok (.aload_n 0, 1) := by decide +kernel
theorem dX9_startOf_1 : decode cX9_startOf 1 = .ok (.getfield 20, 3) := by decide +kernel
theorem dX9_startOf_4 : decode cX9_startOf 4 = .ok (.iload_n 1, 1) := by decide +kernel
theorem dX9_startOf_5 : decode cX9_startOf 5 = .ok (.iconst 2, 1) := by decide +kernel
theorem dX9_startOf_6 : decode cX9_startOf 6 = .ok (.imul, 1) := by decide +kernel
theorem dX9_startOf_7 : decode cX9_startOf 7 = .ok (.invokestatic 25, 3) := by decide +kernel
theorem dX9_startOf_10 : decode cX9_startOf 10 = .ok (.ireturn, 1) := by decide +kernel
set_option maxRecDepth 20000 in
theorem ggX9_stopOf_X11_at : GoodIn wsX9_stopOf wsX11_at := goodIn_r _ [4] rfl (by decide +kernel)
set_option maxRecDepth 20000 in
theorem gX9_stopOf_X11_at_n25 : GoodIn wsX9_stopOf (wsX11_at) := ggX9_stopOf_X11_at
theorem dX9_stopOf_0 : decode cX9_stopOf 0 = .ok (.aload_n 0, 1) := by decide +kernel
theorem dX9_stopOf_1 : decode cX9_stopOf 1 = .ok (.getfield 20, 3) := by decide +kernel
theorem dX9_stopOf_4 : decode cX9_stopOf 4 = .ok (.iload_n 1, 1) := by decide +kernel
theorem dX9_stopOf_5 : decode cX9_stopOf 5 = .ok (.iconst 2, 1) := by decide +kernel
theorem dX9_stopOf_6 : decode cX9_stopOf 6 = .ok (.imul, 1) := by decide +kernel
theorem dX9_stopOf_7 : decode cX9_stopOf 7 = .ok (.iconst 1, 1) := by decide +kernel
theorem dX9_stopOf_8 : decode cX9_stopOf 8 = .ok (.iadd, 1) := by decide +kernel
theorem dX9_stopOf_9 : decode cX9_stopOf 9 = .ok (.invokestatic 25, 3) := by decide +kernel
theorem dX9_stopOf_12 : decode cX9_stopOf 12 = .ok (.ireturn, 1) := by decide +kernel
set_option maxRecDepth 20000 in
theorem ggX9_hasLaw_X9_startOf : GoodIn wsX9_hasLaw wsX9_startOf := goodIn_r _ [5, 6, 7, 8, 9, 14, 15, 16, 17] rfl (by decide +kernel)
set_option maxRecDepth 20000 in
theorem gX9_hasLaw_X9_startOf : GoodIn wsX9_hasLaw (wsV RX9 31 RX9 yX9_startOf wsX9_startOf) := goodIn_app (goodIn_of _ (by decide +kernel)) ggX9_hasLaw_X9_startOf
set_option maxRecDepth 20000 in
theorem ggX9_hasLaw_X9_stopOf : GoodIn wsX9_hasLaw wsX9_stopOf := goodIn_r _ [13, 6, 7, 8, 9, 14, 15, 16, 17] rfl (by decide +kernel)
set_option maxRecDepth 20000 in
theorem gX9_hasLaw_X9_stopOf : GoodIn wsX9_hasLaw (wsV RX9 35 RX9 yX9_stopOf wsX9_stopOf) := goodIn_app (goodIn_of _ (by decide +kernel)) ggX9_hasLaw_X9_stopOf
theorem dX9_hasLaw_0 : decode cX9_hasLaw 0 = .ok (.aload_n 0, 1) := by decide +kernel
theorem dX9_hasLaw_1 : decode cX9_hasLaw 1 = .ok (.iload_n 1, 1) := by decide +kernel
theorem dX9_hasLaw_2 : decode cX9_hasLaw 2 = .ok (.invokevirtual 31, 3) := by decide +kernel
theorem dX9_hasLaw_5 : decode cX9_hasLaw 5 = .ok (.aload_n 0, 1) := by decide +kernel
theorem dX9_hasLaw_6 : decode cX9_hasLaw 6 = .ok (.iload_n 1, 1) := by decide +kernel
theorem dX9_hasLaw_7 : decode cX9_hasLaw 7 = .ok (.invokevirtual 35, 3) := by decide +kernel
theorem dX9_hasLaw_10 : decode cX9_hasLaw 10 = .ok (.if_icmp .ge 7, 3) := by decide +kernel
theorem dX9_hasLaw_13 : decode cX9_hasLaw 13 = .ok (.iconst 1, 1) := by decide +kernel
theorem dX9_hasLaw_14 : decode cX9_hasLaw 14 = .ok (.goto 4, 3) := by decide +kernel
theorem dX9_hasLaw_17 : decode cX9_hasLaw 17 = .ok (.iconst 0, 1) := by decide +kernel
theorem dX9_hasLaw_18 : decode cX9_hasLaw 18 = .ok (.ireturn, 1) := by decide +kernel
