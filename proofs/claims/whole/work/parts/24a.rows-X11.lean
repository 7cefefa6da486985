set_option maxRecDepth 20000 in
theorem ggX11_init_X0_init : GoodIn wsX11_init wsX0_init := goodIn_r _ [39, 40, 2, 3, 41, 42, 43, 44, 45, 46, 47, 48, 49, 50, 51, 52, 53, 54, 55, 56, 57, 58, 59, 60, 61, 62, 63, 64, 65, 66, 67, 68, 69, 70, 71, 72, 73, 74, 136, 137, 138, 139, 140, 141, 142, 143, 144, 145, 146, 147, 148, 149, 150, 151, 202, 203, 204] rfl (by decide +kernel)
set_option maxRecDepth 20000 in
theorem gX11_init_X0_init : GoodIn wsX11_init (wsX0_init) := ggX11_init_X0_init
set_option maxRecDepth 20000 in
theorem ggX11_init_X6_init : GoodIn wsX11_init wsX6_init := goodIn_r _ [76, 77, 2, 3, 78, 79, 80, 41, 81, 82, 83, 84, 161, 162, 163, 164, 165, 166, 167, 168, 169, 170, 171, 172, 173, 174, 175, 176] rfl (by decide +kernel)
set_option maxRecDepth 20000 in
theorem gX11_init_X6_init_n21 : GoodIn wsX11_init (wsX6_init) := ggX11_init_X6_init
set_option maxRecDepth 20000 in
theorem ggX11_init_X3_init : GoodIn wsX11_init wsX3_init := goodIn_r _ [87, 88, 2, 3, 41, 89, 90, 91, 92, 177, 178, 179, 180] rfl (by decide +kernel)
set_option maxRecDepth 20000 in
theorem gX11_init_X3_init : GoodIn wsX11_init (wsX3_init) := ggX11_init_X3_init
set_option maxRecDepth 20000 in
theorem ggX11_init_X2_init : GoodIn wsX11_init wsX2_init := goodIn_r _ [95, 96, 2, 3, 41, 97, 98, 99, 181, 182, 183] rfl (by decide +kernel)
set_option maxRecDepth 20000 in
theorem gX11_init_X2_init : GoodIn wsX11_init (wsX2_init) := ggX11_init_X2_init
set_option maxRecDepth 20000 in
theorem ggX11_init_X7_init : GoodIn wsX11_init wsX7_init := goodIn_r _ [101, 102, 2, 3, 103, 104, 105, 41, 106, 107, 108, 109, 184, 185, 186, 187, 188, 189] rfl (by decide +kernel)
set_option maxRecDepth 20000 in
theorem gX11_init_X7_init_n46 : GoodIn wsX11_init (wsX7_init) := ggX11_init_X7_init
set_option maxRecDepth 20000 in
theorem ggX11_init_X5_init : GoodIn wsX11_init wsX5_init := goodIn_r _ [112, 113, 114, 115, 116, 117, 118, 2, 3, 190, 191] rfl (by decide +kernel)
set_option maxRecDepth 20000 in
theorem gX11_init_X5_init : GoodIn wsX11_init (wsX5_init) := ggX11_init_X5_init
set_option maxRecDepth 20000 in
theorem ggX11_init_X1_init : GoodIn wsX11_init wsX1_init := goodIn_r _ [121, 122, 123, 124, 125, 126, 127, 115, 116, 117, 118, 2, 3, 192, 193, 194, 195, 196, 197] rfl (by decide +kernel)
set_option maxRecDepth 20000 in
theorem gX11_init_X1_init : GoodIn wsX11_init (wsX1_init) := ggX11_init_X1_init
set_option maxRecDepth 20000 in
theorem ggX11_init_X4_init : GoodIn wsX11_init wsX4_init := goodIn_r _ [130, 131, 2, 3, 132, 41, 133, 134, 135, 198, 199, 200, 201] rfl (by decide +kernel)
set_option maxRecDepth 20000 in
theorem gX11_init_X4_init : GoodIn wsX11_init (wsX4_init) := ggX11_init_X4_init
theorem dX11_init_0 : decode cX11_init 0 = .ok (.aload_n 0, 1) := by decide +kernel
theorem dX11_init_1 : decode cX11_init 1 = .ok (.invokespecial 1, 3) := by decide +kernel
theorem dX11_init_4 : decode cX11_init 4 = .ok (.aload_n 0, 1) := by decide +kernel
theorem dX11_init_5 : decode cX11_init 5 = .ok (.new 7, 3) := by decide +kernel
theorem dX11_init_8 : decode cX11_init 8 = .ok (.dup, 1) := by decide +kernel
theorem dX11_init_9 : decode cX11_init 9 = .ok (.invokespecial 9, 3) := by decide +kernel
theorem dX11_init_12 : decode cX11_init 12 = .ok (.putfield 10, 3) := by decide +kernel
theorem dX11_init_15 : decode cX11_init 15 = .ok (.aload_n 0, 1) := by decide +kernel
theorem dX11_init_16 : decode cX11_init 16 = .ok (.new 7, 3) := by decide +kernel
theorem dX11_init_19 : decode cX11_init 19 = .ok (.dup, 1) := by decide +kernel
theorem dX11_init_20 : decode cX11_init 20 = .ok (.invokespecial 9, 3) := by decide +kernel
theorem dX11_init_23 : decode cX11_init 23 = .ok (.putfield 16, 3) := by decide +kernel
theorem dX11_init_26 : decode cX11_init 26 = .ok (.aload_n 0, 1) := by decide +kernel
theorem dX11_init_27 : decode cX11_init 27 = .ok (.new 19, 3) := by decide +kernel
theorem dX11_init_30 : decode cX11_init 30 = .ok (.dup, 1) := by decide +kernel
theorem dX11_init_31 : decode cX11_init 31 = .ok (.invokespecial 21, 3) := by decide +kernel
theorem dX11_init_34 : decode cX11_init 34 = .ok (.putfield 22, 3) := by decide +kernel
theorem dX11_init_37 : decode cX11_init 37 = .ok (.aload_n 0, 1) := by decide +kernel
theorem dX11_init_38 : decode cX11_init 38 = .ok (.new 26, 3) := by decide +kernel
theorem dX11_init_41 : decode cX11_init 41 = .ok (.dup, 1) := by decide +kernel
theorem dX11_init_42 : decode cX11_init 42 = .ok (.aload_n 0, 1) := by decide +kernel
theorem dX11_init_43 : decode cX11_init 43 = .ok (.getfield 10, 3) := by decide +kernel
theorem dX11_init_46 : decode cX11_init 46 = .ok (.invokespecial 28, 3) := by decide +kernel
theorem dX11_init_49 : decode cX11_init 49 = .ok (.putfield 31, 3) := by decide +kernel
theorem dX11_init_52 : decode cX11_init 52 = .ok (.aload_n 0, 1) := by decide +kernel
theorem dX11_init_53 : decode cX11_init 53 = .ok (.new 35, 3) := by decide +kernel
theorem dX11_init_56 : decode cX11_init 56 = .ok (.dup, 1) := by decide +kernel
theorem dX11_init_57 : decode cX11_init 57 = .ok (.aload_n 0, 1) := by decide +kernel
theorem dX11_init_58 : decode cX11_init 58 = .ok (.getfield 10, 3) := by decide +kernel
theorem dX11_init_61 : decode cX11_init 61 = .ok (.aload_n 0, 1) := by decide +kernel
theorem dX11_init_62 : decode cX11_init 62 = .ok (.getfield 31, 3) := by decide +kernel
theorem dX11_init_65 : decode cX11_init 65 = .ok (.invokespecial 37, 3) := by decide +kernel
theorem dX11_init_68 : decode cX11_init 68 = .ok (.putfield 40, 3) := by decide +kernel
theorem dX11_init_71 : decode cX11_init 71 = .ok (.aload_n 0, 1) := by decide +kernel
theorem dX11_init_72 : decode cX11_init 72 = .ok (.new 44, 3) := by decide +kernel
theorem dX11_init_75 : decode cX11_init 75 = .ok (.dup, 1) := by decide +kernel
theorem dX11_init_76 : decode cX11_init 76 = .ok (.invokespecial 46, 3) := by decide +kernel
theorem dX11_init_79 : decode cX11_init 79 = .ok (.putfield 47, 3) := by decide +kernel
theorem dX11_init_82 : decode cX11_init 82 = .ok (.aload_n 0, 1) := by decide +kernel
theorem dX11_init_83 : decode cX11_init 83 = .ok (.new 51, 3) := by decide +kernel
theorem dX11_init_86 : decode cX11_init 86 = .ok (.dup, 1) := by decide +kernel
theorem dX11_init_87 : decode cX11_init 87 = .ok (.aload_n 0, 1) := by decide +kernel
theorem dX11_init_88 : decode cX11_init 88 = .ok (.getfield 10, 3) := by decide +kernel
theorem dX11_init_91 : decode cX11_init 91 = .ok (.invokespecial 53, 3) := by decide +kernel
theorem dX11_init_94 : decode cX11_init 94 = .ok (.putfield 54, 3) := by decide +kernel
theorem dX11_init_97 : decode cX11_init 97 = .ok (.aload_n 0, 1) := by decide +kernel
theorem dX11_init_98 : decode cX11_init 98 = .ok (.new 58, 3) := by decide +kernel
theorem dX11_init_101 : decode cX11_init 101 = .ok (.dup, 1) := by decide +kernel
theorem dX11_init_102 : decode cX11_init 102 = .ok (.aload_n 0, 1) := by decide +kernel
theorem dX11_init_103 : decode cX11_init 103 = .ok (.getfield 10, 3) := by decide +kernel
theorem dX11_init_106 : decode cX11_init 106 = .ok (.aload_n 0, 1) := by decide +kernel
theorem dX11_init_107 : decode cX11_init 107 = .ok (.getfield 31, 3) := by decide +kernel
theorem dX11_init_110 : decode cX11_init 110 = .ok (.invokespecial 60, 3) := by decide +kernel
theorem dX11_init_113 : decode cX11_init 113 = .ok (.putfield 61, 3) := by decide +kernel
theorem dX11_init_116 : decode cX11_init 116 = .ok (.aload_n 0, 1) := by decide +kernel
theorem dX11_init_117 : decode cX11_init 117 = .ok (.new 65, 3) := by decide +kernel
theorem dX11_init_120 : decode cX11_init 120 = .ok (.dup, 1) := by decide +kernel
theorem dX11_init_121 : decode cX11_init 121 = .ok (.aload_n 0, 1) := by decide +kernel
theorem dX11_init_122 : decode cX11_init 122 = .ok (.getfield 10, 3) := by decide +kernel
theorem dX11_init_125 : decode cX11_init 125 = .ok (.invokespecial 67, 3) := by decide +kernel
theorem dX11_init_128 : decode cX11_init 128 = .ok (.putfield 68, 3) := by decide +kernel
theorem dX11_init_131 : decode cX11_init 131 = .ok (.return_, 1) := by decide +kernel
set_option maxRecDepth 20000 in
theorem ggX11_house_X11_within : GoodIn wsX11_house wsX11_within := goodIn_r _ [5] rfl (by decide +kernel)
set_option maxRecDepth 20000 in
theorem gX11_house_X11_within : GoodIn wsX11_house (va_wsS RX11 72 yX11_within wsX11_within) := goodIn_app (goodIn_of _ (by decide +kernel)) ggX11_house_X11_within
set_option maxRecDepth 20000 in
theorem ggX11_house_X0_addHouse : GoodIn wsX11_house wsX0_addHouse := goodIn_r _ [10, 11, 12, 13, 4, 14, 15, 16, 17, 18, 19, 9, 20, 30, 31, 32, 33, 34, 35, 36, 37, 38, 39, 40, 41, 42, 43, 44, 45] rfl (by decide +kernel)
set_option maxRecDepth 20000 in
theorem gX11_house_X0_addHouse : GoodIn wsX11_house (wsV RX11 76 RX0 yX0_addHouse wsX0_addHouse) := goodIn_app (goodIn_of _ (by decide +kernel)) ggX11_house_X0_addHouse
theorem dX11_house_0 : decode cX11_house 0 = .ok (.iload_n 1, 1) := by decide +kernel
theorem dX11_house_1 : decode cX11_house 1 = .ok (.iconst 0, 1) := by decide +kernel
theorem dX11_house_2 : decode cX11_house 2 = .ok (.iconst 3, 1) := by decide +kernel
theorem dX11_house_3 : decode cX11_house 3 = .ok (.invokestatic 72, 3) := by decide +kernel
theorem dX11_house_6 : decode cX11_house 6 = .ok (.ifCond .eq 13, 3) := by decide +kernel
theorem dX11_house_9 : decode cX11_house 9 = .ok (.iload_n 2, 1) := by decide +kernel
theorem dX11_house_10 : decode cX11_house 10 = .ok (.iconst 0, 1) := by decide +kernel
theorem dX11_house_11 : decode cX11_house 11 = .ok (.bipush 99, 2) := by decide +kernel
theorem dX11_house_13 : decode cX11_house 13 = .ok (.invokestatic 72, 3) := by decide +kernel
theorem dX11_house_16 : decode cX11_house 16 = .ok (.ifCond .ne 5, 3) := by decide +kernel
theorem dX11_house_19 : decode cX11_house 19 = .ok (.iconst (-1), 1) := by decide +kernel
theorem dX11_house_20 : decode cX11_house 20 = .ok (.ireturn, 1) := by decide +kernel
theorem dX11_house_21 : decode cX11_house 21 = .ok (.aload_n 0, 1) := by decide +kernel
theorem dX11_house_22 : decode cX11_house 22 = .ok (.getfield 10, 3) := by decide +kernel
theorem dX11_house_25 : decode cX11_house 25 = .ok (.iload_n 1, 1) := by decide +kernel
theorem dX11_house_26 : decode cX11_house 26 = .ok (.iload_n 2, 1) := by decide +kernel
theorem dX11_house_27 : decode cX11_house 27 = .ok (.invokevirtual 76, 3) := by decide +kernel
theorem dX11_house_30 : decode cX11_house 30 = .ok (.ireturn, 1) := by decide +kernel
set_option maxRecDepth 20000 in
theorem ggX11_clown_X11_within : GoodIn wsX11_clown wsX11_within := goodIn_r _ [5] rfl (by decide +kernel)
set_option maxRecDepth 20000 in
theorem gX11_clown_X11_within : GoodIn wsX11_clown (va_wsS RX11 72 yX11_within wsX11_within) := goodIn_app (goodIn_of _ (by decide +kernel)) ggX11_clown_X11_within
set_option maxRecDepth 20000 in
theorem ggX11_clown_X0_addClown : GoodIn wsX11_clown wsX0_addClown := goodIn_r _ [10, 11, 12, 13, 14, 4, 15, 16, 17, 18, 19, 20, 9, 21, 31, 32, 33, 34, 35, 36, 37, 38, 39, 40, 41, 42, 43, 44, 45, 46] rfl (by decide +kernel)
set_option maxRecDepth 20000 in
theorem gX11_clown_X0_addClown : GoodIn wsX11_clown (wsV RX11 80 RX0 yX0_addClown wsX0_addClown) := goodIn_app (goodIn_of _ (by decide +kernel)) ggX11_clown_X0_addClown
theorem dX11_clown_0 : decode cX11_clown 0 = .ok (.iload_n 1, 1) := by decide +kernel
theorem dX11_clown_1 : decode cX11_clown 1 = .ok (.iconst 1, 1) := by decide +kernel
theorem dX11_clown_2 : decode cX11_clown 2 = .ok (.bipush 9, 2) := by decide +kernel
theorem dX11_clown_4 : decode cX11_clown 4 = .ok (.invokestatic 72, 3) := by decide +kernel
theorem dX11_clown_7 : decode cX11_clown 7 = .ok (.ifCond .eq 13, 3) := by decide +kernel
theorem dX11_clown_10 : decode cX11_clown 10 = .ok (.iload_n 2, 1) := by decide +kernel
theorem dX11_clown_11 : decode cX11_clown 11 = .ok (.iconst 0, 1) := by decide +kernel
theorem dX11_clown_12 : decode cX11_clown 12 = .ok (.bipush 99, 2) := by decide +kernel
theorem dX11_clown_14 : decode cX11_clown 14 = .ok (.invokestatic 72, 3) := by decide +kernel
theorem dX11_clown_17 : decode cX11_clown 17 = .ok (.ifCond .ne 5, 3) := by decide +kernel
theorem dX11_clown_20 : decode cX11_clown 20 = .ok (.iconst (-1), 1) := by decide +kernel
theorem dX11_clown_21 : decode cX11_clown 21 = .ok (.ireturn, 1) := by decide +kernel
theorem dX11_clown_22 : decode cX11_clown 22 = .ok (.aload_n 0, 1) := by decide +kernel
theorem dX11_clown_23 : decode cX11_clown 23 = .ok (.getfield 10, 3) := by decide +kernel
theorem dX11_clown_26 : decode cX11_clown 26 = .ok (.iload_n 1, 1) := by decide +kernel
theorem dX11_clown_27 : decode cX11_clown 27 = .ok (.iload_n 2, 1) := by decide +kernel
theorem dX11_clown_28 : decode cX11_clown 28 = .ok (.invokevirtual 80, 3) := by decide +kernel
theorem dX11_clown_31 : decode cX11_clown 31 = .ok (.ireturn, 1) := by decide +kernel
set_option maxRecDepth 20000 in
theorem ggX11_mood_X11_isFall : GoodIn wsX11_mood wsX11_isFall := goodIn_r _ [6, 7, 8, 5, 9] rfl (by decide +kernel)
set_option maxRecDepth 20000 in
theorem gX11_mood_X11_isFall : GoodIn wsX11_mood (va_wsS RX11 83 yX11_isFall wsX11_isFall) := goodIn_app (goodIn_of _ (by decide +kernel)) ggX11_mood_X11_isFall
set_option maxRecDepth 20000 in
theorem ggX11_mood_X11_isMood : GoodIn wsX11_mood wsX11_isMood := goodIn_r _ [12, 7, 8, 5, 9] rfl (by decide +kernel)
set_option maxRecDepth 20000 in
theorem gX11_mood_X11_isMood : GoodIn wsX11_mood (va_wsS RX11 87 yX11_isMood wsX11_isMood) := goodIn_app (goodIn_of _ (by decide +kernel)) ggX11_mood_X11_isMood
set_option maxRecDepth 20000 in
theorem ggX11_mood_X11_put : GoodIn wsX11_mood wsX11_put := goodIn_r _ [15] rfl (by decide +kernel)
set_option maxRecDepth 20000 in
theorem gX11_mood_X11_put : GoodIn wsX11_mood (va_wsS RX11 94 yX11_put wsX11_put) := goodIn_app (goodIn_of _ (by decide +kernel)) ggX11_mood_X11_put
theorem dX11_mood_0 : decode cX11_mood 0 = .ok (.iload_n 1, 1) := by decide +kernel
theorem dX11_mood_1 : decode cX11_mood 1 = .ok (.invokestatic 83, 3) := by decide +kernel
theorem dX11_mood_4 : decode cX11_mood 4 = .ok (.ifCond .eq 17, 3) := by decide +kernel
theorem dX11_mood_7 : decode cX11_mood 7 = .ok (.iload_n 2, 1) := by decide +kernel
theorem dX11_mood_8 : decode cX11_mood 8 = .ok (.invokestatic 87, 3) := by decide +kernel
theorem dX11_mood_11 : decode cX11_mood 11 = .ok (.ifCond .eq 10, 3) := by decide +kernel
theorem dX11_mood_14 : decode cX11_mood 14 = .ok (.iload_n 3, 1) := by decide +kernel
theorem dX11_mood_15 : decode cX11_mood 15 = .ok (.invokestatic 87, 3) := by decide +kernel
theorem dX11_mood_18 : decode cX11_mood 18 = .ok (.ifCond .ne 5, 3) := by decide +kernel
theorem dX11_mood_21 : decode cX11_mood 21 = .ok (.iconst 0, 1) := by decide +kernel
theorem dX11_mood_22 : decode cX11_mood 22 = .ok (.ireturn, 1) := by decide +kernel
theorem dX11_mood_23 : decode cX11_mood 23 = .ok (.aload_n 0, 1) := by decide +kernel
theorem dX11_mood_24 : decode cX11_mood 24 = .ok (.getfield 10, 3) := by decide +kernel
theorem dX11_mood_27 : decode cX11_mood 27 = .ok (.getfield 90, 3) := by decide +kernel
theorem dX11_mood_30 : decode cX11_mood 30 = .ok (.iload_n 1, 1) := by decide +kernel
theorem dX11_mood_31 : decode cX11_mood 31 = .ok (.bipush 10, 2) := by decide +kernel
theorem dX11_mood_33 : decode cX11_mood 33 = .ok (.imul, 1) := by decide +kernel
theorem dX11_mood_34 : decode cX11_mood 34 = .ok (.iload_n 2, 1) := by decide +kernel
theorem dX11_mood_35 : decode cX11_mood 35 = .ok (.iadd, 1) := by decide +kernel
theorem dX11_mood_36 : decode cX11_mood 36 = .ok (.iload_n 3, 1) := by decide +kernel
theorem dX11_mood_37 : decode cX11_mood 37 = .ok (.invokestatic 94, 3) := by decide +kernel
theorem dX11_mood_40 : decode cX11_mood 40 = .ok (.iconst 1, 1) := by decide +kernel
theorem dX11_mood_41 : decode cX11_mood 41 = .ok (.ireturn, 1) := by decide +kernel
set_option maxRecDepth 20000 in
theorem ggX11_feed_X6_hasRoom : GoodIn wsX11_feed wsX6_hasRoom := goodIn_r _ [7, 8, 26, 27, 28, 29, 30, 31, 32, 33, 34, 35, 36, 37, 38, 39, 40, 41] rfl (by decide +kernel)
set_option maxRecDepth 20000 in
theorem gX11_feed_X6_hasRoom : GoodIn wsX11_feed (wsV RX11 98 RX6 yX6_hasRoom wsX6_hasRoom) := goodIn_app (goodIn_of _ (by decide +kernel)) ggX11_feed_X6_hasRoom
set_option maxRecDepth 20000 in
theorem ggX11_feed_X6_addBytes : GoodIn wsX11_feed wsX6_addBytes := goodIn_r _ [12, 13, 8, 14, 15, 16, 26, 27, 28, 29, 30, 31, 32, 33, 34, 35, 36, 37, 38, 39, 40, 41] rfl (by decide +kernel)
set_option maxRecDepth 20000 in
theorem gX11_feed_X6_addBytes : GoodIn wsX11_feed (wsV RX11 102 RX6 yX6_addBytes wsX6_addBytes) := goodIn_app (goodIn_of _ (by decide +kernel)) ggX11_feed_X6_addBytes
theorem dX11_feed_0 : decode cX11_feed 0 = .ok (.aload_n 0, 1) := by decide +kernel
theorem dX11_feed_1 : decode cX11_feed 1 = .ok (.getfield 22, 3) := by decide +kernel
theorem dX11_feed_4 : decode cX11_feed 4 = .ok (.invokevirtual 98, 3) := by decide +kernel
theorem dX11_feed_7 : decode cX11_feed 7 = .ok (.ifCond .ne 5, 3) := by decide +kernel
theorem dX11_feed_10 : decode cX11_feed 10 = .ok (.iconst (-1), 1) := by decide +kernel
theorem dX11_feed_11 : decode cX11_feed 11 = .ok (.ireturn, 1) := by decide +kernel
theorem dX11_feed_12 : decode cX11_feed 12 = .ok (.aload_n 0, 1) := by decide +kernel
theorem dX11_feed_13 : decode cX11_feed 13 = .ok (.getfield 22, 3) := by decide +kernel
theorem dX11_feed_16 : decode cX11_feed 16 = .ok (.iload_n 1, 1) := by decide +kernel
theorem dX11_feed_17 : decode cX11_feed 17 = .ok (.invokevirtual 102, 3) := by decide +kernel
theorem dX11_feed_20 : decode cX11_feed 20 = .ok (.aload_n 0, 1) := by decide +kernel
theorem dX11_feed_21 : decode cX11_feed 21 = .ok (.getfield 22, 3) := by decide +kernel
theorem dX11_feed_24 : decode cX11_feed 24 = .ok (.iload_n 2, 1) := by decide +kernel
theorem dX11_feed_25 : decode cX11_feed 25 = .ok (.invokevirtual 102, 3) := by decide +kernel
theorem dX11_feed_28 : decode cX11_feed 28 = .ok (.aload_n 0, 1) := by decide +kernel
theorem dX11_feed_29 : decode cX11_feed 29 = .ok (.getfield 22, 3) := by decide +kernel
theorem dX11_feed_32 : decode cX11_feed 32 = .ok (.iload_n 3, 1) := by decide +kernel
theorem dX11_feed_33 : decode cX11_feed 33 = .ok (.invokevirtual 102, 3) := by decide +kernel
theorem dX11_feed_36 : decode cX11_feed 36 = .ok (.aload_n 0, 1) := by decide +kernel
theorem dX11_feed_37 : decode cX11_feed 37 = .ok (.getfield 22, 3) := by decide +kernel
theorem dX11_feed_40 : decode cX11_feed 40 = .ok (.iload 4, 2) := by decide +kernel
theorem dX11_feed_42 : decode cX11_feed 42 = .ok (.invokevirtual 102, 3) := by decide +kernel
theorem dX11_feed_45 : decode cX11_feed 45 = .ok (.aload_n 0, 1) := by decide +kernel
theorem dX11_feed_46 : decode cX11_feed 46 = .ok (.getfield 22, 3) := by decide +kernel
theorem dX11_feed_49 : decode cX11_feed 49 = .ok (.iload 5, 2) := by decide +kernel
theorem dX11_feed_51 : decode cX11_feed 51 = .ok (.invokevirtual 102, 3) := by decide +kernel
theorem dX11_feed_54 : decode cX11_feed 54 = .ok (.aload_n 0, 1) := by decide +kernel
theorem dX11_feed_55 : decode cX11_feed 55 = .ok (.getfield 22, 3) := by decide +kernel
theorem dX11_feed_58 : decode cX11_feed 58 = .ok (.getfield 106, 3) := by decide +kernel
theorem dX11_feed_61 : decode cX11_feed 61 = .ok (.ireturn, 1) := by decide +kernel
set_option maxRecDepth 20000 in
theorem ggX11_end_X11_within : GoodIn wsX11_end wsX11_within := goodIn_r _ [6] rfl (by decide +kernel)
set_option maxRecDepth 20000 in
theorem gX11_end_X11_within : GoodIn wsX11_end (va_wsS RX11 72 yX11_within wsX11_within) := goodIn_app (goodIn_of _ (by decide +kernel)) ggX11_end_X11_within
theorem dX11_end_0 : decode cX11_end 0 = .ok (.iload_n 1, 1) := by decide +kernel
theorem dX11_end_1 : decode cX11_end 1 = .ok (.iconst 0, 1) := by decide +kernel
theorem dX11_end_2 : decode cX11_end 2 = .ok (.aload_n 0, 1) := by decide +kernel
theorem dX11_end_3 : decode cX11_end 3 = .ok (.getfield 22, 3) := by decide +kernel
theorem dX11_end_6 : decode cX11_end 6 = .ok (.getfield 106, 3) := by decide +kernel
theorem dX11_end_9 : decode cX11_end 9 = .ok (.invokestatic 72, 3) := by decide +kernel
theorem dX11_end_12 : decode cX11_end 12 = .ok (.ifCond .ne 5, 3) := by decide +kernel
theorem dX11_end_15 : decode cX11_end 15 = .ok (.iconst (-1), 1) := by decide +kernel
theorem dX11_end_16 : decode cX11_end 16 = .ok (.ireturn, 1) := by decide +kernel
theorem dX11_end_17 : decode cX11_end 17 = .ok (.aload_n 0, 1) := by decide +kernel
theorem dX11_end_18 : decode cX11_end 18 = .ok (.getfield 22, 3) := by decide +kernel
theorem dX11_end_21 : decode cX11_end 21 = .ok (.iload_n 1, 1) := by decide +kernel
theorem dX11_end_22 : decode cX11_end 22 = .ok (.putfield 106, 3) := by decide +kernel
theorem dX11_end_25 : decode cX11_end 25 = .ok (.iload_n 1, 1) := by decide +kernel
theorem dX11_end_26 : decode cX11_end 26 = .ok (.ireturn, 1) := by decide +kernel
set_option maxRecDepth 20000 in
theorem ggX11_text_X6_readTape : GoodIn wsX11_text wsX6_readTape := goodIn_r _ [8, 9, 10, 11, 12, 13, 14, 15, 16, 17, 18, 19, 20, 21, 22, 23, 24, 25, 26, 27, 28, 29, 30, 31, 32, 33, 34, 35, 36, 37, 7, 38, 39, 40, 41, 42, 43, 44, 45, 46, 47, 48, 49, 50, 51, 52, 53, 54, 55, 56, 57, 58, 59, 60, 61, 62, 63, 64, 65, 66, 67, 68, 69, 70, 71, 72, 73, 74, 75, 76, 77, 78, 79, 80, 81, 82, 83, 84, 85, 86, 87, 88, 89, 90, 91, 92, 93, 94, 95, 96, 97, 98, 99, 100, 101, 102, 103, 104, 105, 106, 107, 108, 109, 110, 111, 112, 113, 114, 115, 116, 117, 118, 119, 120, 121, 122, 123, 124, 125, 126, 127, 128, 129, 130, 131, 132, 133, 134, 135, 136, 137, 138, 139, 140, 141, 142, 143, 144, 145, 146, 147, 148, 149, 150, 151, 152, 153, 154, 155, 156, 157, 158, 159, 160, 161, 162, 163, 164, 165, 166, 167, 168, 169, 170, 171, 172, 173, 174, 175, 176, 177, 178, 179, 180, 181, 182, 183, 184, 185, 186, 187, 188, 189, 190, 191, 192, 193, 194, 195, 196, 197, 198, 199, 200, 201, 202, 203, 204, 205, 206, 207, 208, 209, 210, 211, 212, 213, 214, 215, 216, 217, 218, 251, 252, 253, 254, 255, 256, 257, 258, 259, 260, 261, 262, 263, 264, 265, 266, 267, 268, 269, 270] rfl (by decide +kernel)
set_option maxRecDepth 20000 in
theorem gX11_text_X6_readTape : GoodIn wsX11_text (wsV RX11 113 RX6 yX6_readTape wsX6_readTape) := goodIn_app (goodIn_of _ (by decide +kernel)) ggX11_text_X6_readTape
set_option maxRecDepth 20000 in
theorem ggX11_text_X0_addText : GoodIn wsX11_text wsX0_addText := goodIn_r _ [223, 224, 225, 235, 236, 237, 238, 239, 240, 241, 242, 243, 244, 245, 246, 247, 248, 249, 250] rfl (by decide +kernel)
set_option maxRecDepth 20000 in
theorem gX11_text_X0_addText : GoodIn wsX11_text (wsV RX11 117 RX0 yX0_addText wsX0_addText) := goodIn_app (goodIn_of _ (by decide +kernel)) ggX11_text_X0_addText
theorem dX11_text_0 : decode cX11_text 0 = .ok (.aload_n 0, 1) := by decide +kernel
theorem dX11_text_1 : decode cX11_text 1 = .ok (.getfield 10, 3) := by decide +kernel
theorem dX11_text_4 : decode cX11_text 4 = .ok (.getfield 110, 3) := by decide +kernel
theorem dX11_text_7 : decode cX11_text 7 = .ok (.iconst 4, 1) := by decide +kernel
theorem dX11_text_8 : decode cX11_text 8 = .ok (.if_icmp .lt 5, 3) := by decide +kernel
theorem dX11_text_11 : decode cX11_text 11 = .ok (.iconst (-1), 1) := by decide +kernel
theorem dX11_text_12 : decode cX11_text 12 = .ok (.ireturn, 1) := by decide +kernel
theorem dX11_text_13 : decode cX11_text 13 = .ok (.aload_n 0, 1) := by decide +kernel
theorem dX11_text_14 : decode cX11_text 14 = .ok (.getfield 22, 3) := by decide +kernel
theorem dX11_text_17 : decode cX11_text 17 = .ok (.invokevirtual 113, 3) := by decide +kernel
theorem dX11_text_20 : decode cX11_text 20 = .ok (.astore_n 1, 1) := by decide +kernel
theorem dX11_text_21 : decode cX11_text 21 = .ok (.aload_n 1, 1) := by decide +kernel
theorem dX11_text_22 : decode cX11_text 22 = .ok (.ifnonnull 7, 3) := by decide +kernel
theorem dX11_text_25 : decode cX11_text 25 = .ok (.iconst (-1), 1) := by decide +kernel
theorem dX11_text_26 : decode cX11_text 26 = .ok (.goto 11, 3) := by decide +kernel
theorem dX11_text_29 : decode cX11_text 29 = .ok (.aload_n 0, 1) := by decide +kernel
theorem dX11_text_30 : decode cX11_text 30 = .ok (.getfield 10, 3) := by decide +kernel
theorem dX11_text_33 : decode cX11_text 33 = .ok (.aload_n 1, 1) := by decide +kernel
theorem dX11_text_34 : decode cX11_text 34 = .ok (.invokevirtual 117, 3) := by decide +kernel
theorem dX11_text_37 : decode cX11_text 37 = .ok (.ireturn, 1) := by decide +kernel
theorem dX11_fault_0 : decode cX11_fault 0 = .ok (.iload_n 1, 1) := by decide +kernel
theorem dX11_fault_1 : decode cX11_fault 1 = .ok (.lookupswitch 43 #[(0, 27), (1, 35)], 27) := by decide +kernel
theorem dX11_fault_28 : decode cX11_fault 28 = .ok (.aload_n 0, 1) := by decide +kernel
theorem dX11_fault_29 : decode cX11_fault 29 = .ok (.getfield 22, 3) := by decide +kernel
theorem dX11_fault_32 : decode cX11_fault 32 = .ok (.getfield 121, 3) := by decide +kernel
theorem dX11_fault_35 : decode cX11_fault 35 = .ok (.ireturn, 1) := by decide +kernel
theorem dX11_fault_36 : decode cX11_fault 36 = .ok (.aload_n 0, 1) := by decide +kernel
theorem dX11_fault_37 : decode cX11_fault 37 = .ok (.getfield 22, 3) := by decide +kernel
theorem dX11_fault_40 : decode cX11_fault 40 = .ok (.getfield 124, 3) := by decide +kernel
theorem dX11_fault_43 : decode cX11_fault 43 = .ok (.ireturn, 1) := by decide +kernel
theorem dX11_fault_44 : decode cX11_fault 44 = .ok (.iconst (-1), 1) := by decide +kernel
theorem dX11_fault_45 : decode cX11_fault 45 = .ok (.ireturn, 1) := by decide +kernel
set_option maxRecDepth 20000 in
theorem ggX11_by_X11_within : GoodIn wsX11_by wsX11_within := goodIn_r _ [7] rfl (by decide +kernel)
set_option maxRecDepth 20000 in
theorem gX11_by_X11_within : GoodIn wsX11_by (va_wsS RX11 72 yX11_within wsX11_within) := goodIn_app (goodIn_of _ (by decide +kernel)) ggX11_by_X11_within
theorem dX11_by_0 : decode cX11_by 0 = .ok (.iload_n 1, 1) := by decide +kernel
theorem dX11_by_1 : decode cX11_by 1 = .ok (.iconst (-1), 1) := by decide +kernel
theorem dX11_by_2 : decode cX11_by 2 = .ok (.aload_n 0, 1) := by decide +kernel
theorem dX11_by_3 : decode cX11_by 3 = .ok (.getfield 10, 3) := by decide +kernel
theorem dX11_by_6 : decode cX11_by 6 = .ok (.getfield 110, 3) := by decide +kernel
theorem dX11_by_9 : decode cX11_by 9 = .ok (.iconst 1, 1) := by decide +kernel
theorem dX11_by_10 : decode cX11_by 10 = .ok (.isub, 1) := by decide +kernel
theorem dX11_by_11 : decode cX11_by 11 = .ok (.invokestatic 72, 3) := by decide +kernel
theorem dX11_by_14 : decode cX11_by 14 = .ok (.ifCond .ne 5, 3) := by decide +kernel
theorem dX11_by_17 : decode cX11_by 17 = .ok (.iconst 0, 1) := by decide +kernel
theorem dX11_by_18 : decode cX11_by 18 = .ok (.ireturn, 1) := by decide +kernel
theorem dX11_by_19 : decode cX11_by 19 = .ok (.aload_n 0, 1) := by decide +kernel
theorem dX11_by_20 : decode cX11_by 20 = .ok (.getfield 10, 3) := by decide +kernel
theorem dX11_by_23 : decode cX11_by 23 = .ok (.iload_n 1, 1) := by decide +kernel
theorem dX11_by_24 : decode cX11_by 24 = .ok (.putfield 127, 3) := by decide +kernel
theorem dX11_by_27 : decode cX11_by 27 = .ok (.iconst 1, 1) := by decide +kernel
theorem dX11_by_28 : decode cX11_by 28 = .ok (.ireturn, 1) := by decide +kernel
set_option maxRecDepth 20000 in
theorem ggX11_send_X2_canGo : GoodIn wsX11_send wsX2_canGo := goodIn_r _ [9, 10, 11, 12, 13, 14, 15, 16, 17, 18, 19, 20, 21, 22, 23, 24, 25, 26, 27, 81, 82, 83, 65, 66, 67, 68, 69, 70, 71, 72, 73, 74, 75, 76, 77, 78, 79, 80] rfl (by decide +kernel)
set_option maxRecDepth 20000 in
theorem gX11_send_X2_canGo : GoodIn wsX11_send (wsV RX11 130 RX2 yX2_canGo wsX2_canGo) := goodIn_app (goodIn_of _ (by decide +kernel)) ggX11_send_X2_canGo
set_option maxRecDepth 20000 in
theorem ggX11_send_X8_keepRow : GoodIn wsX11_send wsX8_keepRow := goodIn_r _ [32, 33, 34, 35, 36, 37, 38, 31, 39, 40, 18, 41, 42, 43, 44, 45, 84, 85, 86] rfl (by decide +kernel)
set_option maxRecDepth 20000 in
theorem gX11_send_X8_keepRow : GoodIn wsX11_send (wsV RX11 141 RX8 yX8_keepRow wsX8_keepRow) := goodIn_app (goodIn_of _ (by decide +kernel)) ggX11_send_X8_keepRow
set_option maxRecDepth 20000 in
theorem ggX11_send_X2_goes : GoodIn wsX11_send wsX2_goes := goodIn_r _ [49, 10, 50, 51, 52, 14, 53, 16, 54, 18, 55, 81, 82, 83, 65, 66, 67, 68, 69, 70, 71, 72, 73, 74, 75, 76, 77, 78, 79, 80] rfl (by decide +kernel)
set_option maxRecDepth 20000 in
theorem gX11_send_X2_goes : GoodIn wsX11_send (wsV RX11 147 RX2 yX2_goes wsX2_goes) := goodIn_app (goodIn_of _ (by decide +kernel)) ggX11_send_X2_goes
theorem dX11_send_0 : decode cX11_send 0 = .ok (.aload_n 0, 1) := by decide +kernel
theorem dX11_send_1 : decode cX11_send 1 = .ok (.getfield 40, 3) := by decide +kernel
theorem dX11_send_4 : decode cX11_send 4 = .ok (.iload_n 1, 1) := by decide +kernel
theorem dX11_send_5 : decode cX11_send 5 = .ok (.iload_n 2, 1) := by decide +kernel
theorem dX11_send_6 : decode cX11_send 6 = .ok (.invokevirtual 130, 3) := by decide +kernel
theorem dX11_send_9 : decode cX11_send 9 = .ok (.ifCond .ne 5, 3) := by decide +kernel
theorem dX11_send_12 : decode cX11_send 12 = .ok (.iconst 0, 1) := by decide +kernel
theorem dX11_send_13 : decode cX11_send 13 = .ok (.ireturn, 1) := by decide +kernel
theorem dX11_send_14 : decode cX11_send 14 = .ok (.aload_n 0, 1) := by decide +kernel
theorem dX11_send_15 : decode cX11_send 15 = .ok (.getfield 10, 3) := by decide +kernel
theorem dX11_send_18 : decode cX11_send 18 = .ok (.getfield 134, 3) := by decide +kernel
theorem dX11_send_21 : decode cX11_send 21 = .ok (.aload_n 0, 1) := by decide +kernel
theorem dX11_send_22 : decode cX11_send 22 = .ok (.getfield 10, 3) := by decide +kernel
theorem dX11_send_25 : decode cX11_send 25 = .ok (.getfield 138, 3) := by decide +kernel
theorem dX11_send_28 : decode cX11_send 28 = .ok (.invokevirtual 141, 3) := by decide +kernel
theorem dX11_send_31 : decode cX11_send 31 = .ok (.aload_n 0, 1) := by decide +kernel
theorem dX11_send_32 : decode cX11_send 32 = .ok (.getfield 40, 3) := by decide +kernel
theorem dX11_send_35 : decode cX11_send 35 = .ok (.iload_n 1, 1) := by decide +kernel
theorem dX11_send_36 : decode cX11_send 36 = .ok (.iload_n 2, 1) := by decide +kernel
theorem dX11_send_37 : decode cX11_send 37 = .ok (.invokevirtual 147, 3) := by decide +kernel
theorem dX11_send_40 : decode cX11_send 40 = .ok (.iconst 1, 1) := by decide +kernel
theorem dX11_send_41 : decode cX11_send 41 = .ok (.ireturn, 1) := by decide +kernel
set_option maxRecDepth 20000 in
theorem ggX11_fall_X2_canFall : GoodIn wsX11_fall wsX2_canFall := goodIn_r _ [9, 10, 11, 12, 13, 14, 15, 16, 17, 18, 19, 20, 21, 22, 23, 24, 25, 26, 27, 28, 29, 30, 31, 32, 33, 199, 200, 201, 183, 184, 185, 186, 187, 188, 189, 190, 191, 192, 193, 194, 195, 196, 197, 198] rfl (by decide +kernel)
set_option maxRecDepth 20000 in
theorem gX11_fall_X2_canFall : GoodIn wsX11_fall (wsV RX11 151 RX2 yX2_canFall wsX2_canFall) := goodIn_app (goodIn_of _ (by decide +kernel)) ggX11_fall_X2_canFall
set_option maxRecDepth 20000 in
theorem ggX11_fall_X8_keepRow : GoodIn wsX11_fall wsX8_keepRow := goodIn_r _ [38, 39, 40, 41, 42, 43, 44, 37, 45, 46, 12, 47, 48, 49, 50, 51, 202, 203, 204] rfl (by decide +kernel)
set_option maxRecDepth 20000 in
theorem gX11_fall_X8_keepRow : GoodIn wsX11_fall (wsV RX11 141 RX8 yX8_keepRow wsX8_keepRow) := goodIn_app (goodIn_of _ (by decide +kernel)) ggX11_fall_X8_keepRow
set_option maxRecDepth 20000 in
theorem ggX11_fall_X2_falls : GoodIn wsX11_fall wsX2_falls := goodIn_r _ [55, 10, 56, 57, 58, 59, 60, 33, 30, 31, 20, 32, 26, 27, 12, 28, 61, 62, 63, 64, 65, 66, 67, 68, 69, 70, 71, 72, 73, 74, 75, 76, 77, 78, 79, 80, 81, 82, 83, 84, 85, 86, 87, 88, 89, 90, 91, 92, 93, 94, 95, 96, 97, 98, 99, 100, 101, 102, 103, 104, 105, 106, 107, 108, 109, 110, 111, 112, 113, 114, 115, 116, 117, 118, 119, 120, 121, 122, 123, 124, 125, 126, 127, 128, 129, 130, 131, 132, 133, 134, 135, 136, 137, 138, 139, 140, 141, 142, 143, 144, 145, 8, 146, 147, 148, 149, 150, 151, 152, 153, 154, 155, 156, 157, 158, 159, 160, 161, 162, 163, 164, 165, 166, 167, 168, 169, 170, 46, 47, 48, 49, 50, 51, 171, 172, 199, 200, 201, 183, 184, 185, 186, 187, 188, 189, 190, 191, 192, 193, 194, 195, 196, 197, 198, 205, 206, 207, 208, 209, 210, 211, 212] rfl (by decide +kernel)
set_option maxRecDepth 20000 in
theorem gX11_fall_X2_falls : GoodIn wsX11_fall (wsV RX11 154 RX2 yX2_falls wsX2_falls) := goodIn_app (goodIn_of _ (by decide +kernel)) ggX11_fall_X2_falls
set_option maxRecDepth 20000 in
theorem ggX11_fall_X0_see : GoodIn wsX11_fall wsX0_see := goodIn_r _ [32, 26, 27, 12, 28, 183, 184, 185, 186, 187, 188, 189, 190, 191, 192, 193, 194, 195, 196, 197, 198] rfl (by decide +kernel)
set_option maxRecDepth 20000 in
theorem gX11_fall_X0_see : GoodIn wsX11_fall (wsV RX11 157 RX0 yX0_see wsX0_see) := goodIn_app (goodIn_of _ (by decide +kernel)) ggX11_fall_X0_see
theorem dX11_fall_0 : decode cX11_fall 0 = .ok (.aload_n 0, 1) := by decide +kernel
theorem dX11_fall_1 : decode cX11_fall 1 = .ok (.getfield 40, 3) := by decide +kernel
theorem dX11_fall_4 : decode cX11_fall 4 = .ok (.iload_n 1, 1) := by decide +kernel
theorem dX11_fall_5 : decode cX11_fall 5 = .ok (.iload_n 2, 1) := by decide +kernel
theorem dX11_fall_6 : decode cX11_fall 6 = .ok (.invokevirtual 151, 3) := by decide +kernel
theorem dX11_fall_9 : decode cX11_fall 9 = .ok (.ifCond .ne 5, 3) := by decide +kernel
theorem dX11_fall_12 : decode cX11_fall 12 = .ok (.iconst (-1), 1) := by decide +kernel
theorem dX11_fall_13 : decode cX11_fall 13 = .ok (.ireturn, 1) := by decide +kernel
theorem dX11_fall_14 : decode cX11_fall 14 = .ok (.aload_n 0, 1) := by decide +kernel
theorem dX11_fall_15 : decode cX11_fall 15 = .ok (.getfield 10, 3) := by decide +kernel
theorem dX11_fall_18 : decode cX11_fall 18 = .ok (.getfield 134, 3) := by decide +kernel
theorem dX11_fall_21 : decode cX11_fall 21 = .ok (.aload_n 0, 1) := by decide +kernel
theorem dX11_fall_22 : decode cX11_fall 22 = .ok (.getfield 10, 3) := by decide +kernel
theorem dX11_fall_25 : decode cX11_fall 25 = .ok (.getfield 138, 3) := by decide +kernel
theorem dX11_fall_28 : decode cX11_fall 28 = .ok (.invokevirtual 141, 3) := by decide +kernel
theorem dX11_fall_31 : decode cX11_fall 31 = .ok (.aload_n 0, 1) := by decide +kernel
theorem dX11_fall_32 : decode cX11_fall 32 = .ok (.getfield 40, 3) := by decide +kernel
theorem dX11_fall_35 : decode cX11_fall 35 = .ok (.iload_n 1, 1) := by decide +kernel
theorem dX11_fall_36 : decode cX11_fall 36 = .ok (.iload_n 2, 1) := by decide +kernel
theorem dX11_fall_37 : decode cX11_fall 37 = .ok (.invokevirtual 154, 3) := by decide +kernel
theorem dX11_fall_40 : decode cX11_fall 40 = .ok (.aload_n 0, 1) := by decide +kernel
theorem dX11_fall_41 : decode cX11_fall 41 = .ok (.getfield 10, 3) := by decide +kernel
theorem dX11_fall_44 : decode cX11_fall 44 = .ok (.bipush 6, 2) := by decide +kernel
theorem dX11_fall_46 : decode cX11_fall 46 = .ok (.aload_n 0, 1) := by decide +kernel
theorem dX11_fall_47 : decode cX11_fall 47 = .ok (.getfield 10, 3) := by decide +kernel
theorem dX11_fall_50 : decode cX11_fall 50 = .ok (.bipush 29, 2) := by decide +kernel
theorem dX11_fall_52 : decode cX11_fall 52 = .ok (.iload_n 1, 1) := by decide +kernel
theorem dX11_fall_53 : decode cX11_fall 53 = .ok (.invokevirtual 157, 3) := by decide +kernel
theorem dX11_fall_56 : decode cX11_fall 56 = .ok (.invokevirtual 157, 3) := by decide +kernel
theorem dX11_fall_59 : decode cX11_fall 59 = .ok (.ireturn, 1) := by decide +kernel
set_option maxRecDepth 20000 in
theorem ggX11_rest_X2_canRest : GoodIn wsX11_rest wsX2_canRest := goodIn_r _ [9, 10, 11, 12, 13, 14, 15, 16, 17, 18, 19, 20, 21, 22, 23, 24, 25, 26, 27, 81, 82, 83, 65, 66, 67, 68, 69, 70, 71, 72, 73, 74, 75, 76, 77, 78, 79, 80] rfl (by decide +kernel)
set_option maxRecDepth 20000 in
theorem gX11_rest_X2_canRest : GoodIn wsX11_rest (wsV RX11 160 RX2 yX2_canRest wsX2_canRest) := goodIn_app (goodIn_of _ (by decide +kernel)) ggX11_rest_X2_canRest
set_option maxRecDepth 20000 in
theorem ggX11_rest_X8_keepRow : GoodIn wsX11_rest wsX8_keepRow := goodIn_r _ [32, 33, 34, 35, 36, 37, 38, 31, 39, 40, 22, 41, 42, 43, 44, 45, 84, 85, 86] rfl (by decide +kernel)
set_option maxRecDepth 20000 in
theorem gX11_rest_X8_keepRow : GoodIn wsX11_rest (wsV RX11 141 RX8 yX8_keepRow wsX8_keepRow) := goodIn_app (goodIn_of _ (by decide +kernel)) ggX11_rest_X8_keepRow
set_option maxRecDepth 20000 in
theorem ggX11_rest_X2_goes : GoodIn wsX11_rest wsX2_goes := goodIn_r _ [49, 10, 50, 51, 52, 14, 53, 20, 54, 22, 55, 81, 82, 83, 65, 66, 67, 68, 69, 70, 71, 72, 73, 74, 75, 76, 77, 78, 79, 80] rfl (by decide +kernel)
set_option maxRecDepth 20000 in
theorem gX11_rest_X2_goes : GoodIn wsX11_rest (wsV RX11 147 RX2 yX2_goes wsX2_goes) := goodIn_app (goodIn_of _ (by decide +kernel)) ggX11_rest_X2_goes
theorem dX11_rest_0 : decode cX11_rest 0 = .ok (.aload_n 0, 1) := by decide +kernel
theorem dX11_rest_1 : decode cX11_rest 1 = .ok (.getfield 40, 3) := by decide +kernel
theorem dX11_rest_4 : decode cX11_rest 4 = .ok (.iload_n 1, 1) := by decide +kernel
theorem dX11_rest_5 : decode cX11_rest 5 = .ok (.invokevirtual 160, 3) := by decide +kernel
theorem dX11_rest_8 : decode cX11_rest 8 = .ok (.ifCond .ne 5, 3) := by decide +kernel
theorem dX11_rest_11 : decode cX11_rest 11 = .ok (.iconst 0, 1) := by decide +kernel
theorem dX11_rest_12 : decode cX11_rest 12 = .ok (.ireturn, 1) := by decide +kernel
theorem dX11_rest_13 : decode cX11_rest 13 = .ok (.aload_n 0, 1) := by decide +kernel
theorem dX11_rest_14 : decode cX11_rest 14 = .ok (.getfield 10, 3) := by decide +kernel
theorem dX11_rest_17 : decode cX11_rest 17 = .ok (.getfield 134, 3) := by decide +kernel
theorem dX11_rest_20 : decode cX11_rest 20 = .ok (.aload_n 0, 1) := by decide +kernel
theorem dX11_rest_21 : decode cX11_rest 21 = .ok (.getfield 10, 3) := by decide +kernel
theorem dX11_rest_24 : decode cX11_rest 24 = .ok (.getfield 138, 3) := by decide +kernel
theorem dX11_rest_27 : decode cX11_rest 27 = .ok (.invokevirtual 141, 3) := by decide +kernel
theorem dX11_rest_30 : decode cX11_rest 30 = .ok (.aload_n 0, 1) := by decide +kernel
theorem dX11_rest_31 : decode cX11_rest 31 = .ok (.getfield 40, 3) := by decide +kernel
theorem dX11_rest_34 : decode cX11_rest 34 = .ok (.iload_n 1, 1) := by decide +kernel
theorem dX11_rest_35 : decode cX11_rest 35 = .ok (.iconst (-1), 1) := by decide +kernel
theorem dX11_rest_36 : decode cX11_rest 36 = .ok (.invokevirtual 147, 3) := by decide +kernel
theorem dX11_rest_39 : decode cX11_rest 39 = .ok (.iconst 1, 1) := by decide +kernel
theorem dX11_rest_40 : decode cX11_rest 40 = .ok (.ireturn, 1) := by decide +kernel
set_option maxRecDepth 20000 in
theorem ggX11_day_X11_within : GoodIn wsX11_day wsX11_within := goodIn_r _ [5] rfl (by decide +kernel)
set_option maxRecDepth 20000 in
theorem gX11_day_X11_within : GoodIn wsX11_day (va_wsS RX11 72 yX11_within wsX11_within) := goodIn_app (goodIn_of _ (by decide +kernel)) ggX11_day_X11_within
set_option maxRecDepth 20000 in
theorem ggX11_day_X0_today : GoodIn wsX11_day wsX0_today := goodIn_r _ [10, 11, 12, 4, 13, 178, 179, 180, 181, 182, 183, 184, 185, 186, 187, 188, 189, 190, 191, 192, 193] rfl (by decide +kernel)
set_option maxRecDepth 20000 in
theorem gX11_day_X0_today : GoodIn wsX11_day (wsV RX11 163 RX0 yX0_today wsX0_today) := goodIn_app (goodIn_of _ (by decide +kernel)) ggX11_day_X0_today
set_option maxRecDepth 20000 in
theorem ggX11_day_X11_passDays : GoodIn wsX11_day wsX11_passDays := goodIn_r _ [17, 18, 1, 19, 20, 21, 22, 23, 24, 25, 26, 27, 7, 8, 9, 10, 11, 12, 4, 13, 28, 29, 30, 31, 32, 33, 34, 35, 36, 37, 38, 39, 40, 41, 42, 43, 44, 45, 46, 47, 48, 49, 50, 51, 52, 53, 54, 55, 56, 57, 58, 59, 60, 61, 62, 63, 64, 65, 66, 67, 68, 69, 70, 71, 72, 73, 74, 75, 76, 77, 78, 79, 80, 81, 82, 83, 84, 85, 86, 87, 88, 89, 90, 91, 92, 93, 94, 95, 96, 97, 98, 99, 100, 101, 102, 103, 104, 105, 106, 107, 108, 109, 110, 111, 112, 113, 114, 115, 116, 117, 118, 119, 120, 121, 122, 123, 124, 125, 126, 127, 128, 129, 130, 131, 132, 133, 134, 135, 136, 137, 138, 139, 140, 141, 142, 143, 144, 145, 146, 147, 148, 149, 150, 151, 152, 153, 154, 155, 156, 157, 158, 159, 160, 161, 162, 163, 164, 165, 166, 167, 168, 169, 170, 171, 172, 173, 174, 175, 176, 177, 178, 179, 180, 181, 182, 183, 184, 185, 186, 187, 188, 189, 190, 191, 192, 193, 194, 195, 196, 197, 198, 199, 200, 201, 202, 203, 204, 205, 206, 207] rfl (by decide +kernel)
set_option maxRecDepth 20000 in
theorem gX11_day_X11_passDays : GoodIn wsX11_day (wsV RX11 167 RX11 yX11_passDays wsX11_passDays) := goodIn_app (goodIn_of _ (by decide +kernel)) ggX11_day_X11_passDays
theorem dX11_day_0 : decode cX11_day 0 = .ok (.iload_n 1, 1) := by decide +kernel
theorem dX11_day_1 : decode cX11_day 1 = .ok (.iconst 1, 1) := by decide +kernel
theorem dX11_day_2 : decode cX11_day 2 = .ok (.bipush 60, 2) := by decide +kernel
theorem dX11_day_4 : decode cX11_day 4 = .ok (.invokestatic 72, 3) := by decide +kernel
theorem dX11_day_7 : decode cX11_day 7 = .ok (.ifCond .eq 18, 3) := by decide +kernel
theorem dX11_day_10 : decode cX11_day 10 = .ok (.aload_n 0, 1) := by decide +kernel
theorem dX11_day_11 : decode cX11_day 11 = .ok (.getfield 10, 3) := by decide +kernel
theorem dX11_day_14 : decode cX11_day 14 = .ok (.invokevirtual 163, 3) := by decide +kernel
theorem dX11_day_17 : decode cX11_day 17 = .ok (.iload_n 1, 1) := by decide +kernel
theorem dX11_day_18 : decode cX11_day 18 = .ok (.iadd, 1) := by decide +kernel
theorem dX11_day_19 : decode cX11_day 19 = .ok (.sipush 9999, 3) := by decide +kernel
theorem dX11_day_22 : decode cX11_day 22 = .ok (.if_icmp .le 5, 3) := by decide +kernel
theorem dX11_day_25 : decode cX11_day 25 = .ok (.iconst (-1), 1) := by decide +kernel
theorem dX11_day_26 : decode cX11_day 26 = .ok (.ireturn, 1) := by decide +kernel
theorem dX11_day_27 : decode cX11_day 27 = .ok (.aload_n 0, 1) := by decide +kernel
theorem dX11_day_28 : decode cX11_day 28 = .ok (.iload_n 1, 1) := by decide +kernel
theorem dX11_day_29 : decode cX11_day 29 = .ok (.invokevirtual 167, 3) := by decide +kernel
theorem dX11_day_32 : decode cX11_day 32 = .ok (.pop, 1) := by decide +kernel
theorem dX11_day_33 : decode cX11_day 33 = .ok (.aload_n 0, 1) := by decide +kernel
theorem dX11_day_34 : decode cX11_day 34 = .ok (.getfield 10, 3) := by decide +kernel
theorem dX11_day_37 : decode cX11_day 37 = .ok (.invokevirtual 163, 3) := by decide +kernel
theorem dX11_day_40 : decode cX11_day 40 = .ok (.ireturn, 1) := by decide +kernel
set_option maxRecDepth 20000 in
theorem ggX11_played_X0_textAt : GoodIn wsX11_played wsX0_textAt := goodIn_r _ [7, 8, 9, 296, 297, 298, 299, 300, 301, 302, 303, 304, 305, 306, 307, 308, 309, 310, 311] rfl (by decide +kernel)
set_option maxRecDepth 20000 in
theorem gX11_played_X0_textAt : GoodIn wsX11_played (wsV RX11 171 RX0 yX0_textAt wsX0_textAt) := goodIn_app (goodIn_of _ (by decide +kernel)) ggX11_played_X0_textAt
set_option maxRecDepth 20000 in
theorem ggX11_played_X11_playClause : GoodIn wsX11_played wsX11_playClause := goodIn_r _ [14, 15, 16, 17, 18, 19, 20, 21, 13, 22, 23, 24, 25, 26, 1, 27, 28, 29, 30, 31, 32, 6, 33, 34, 35, 36, 37, 38, 39, 40, 41, 42, 43, 44, 45, 46, 47, 48, 49, 50, 51, 52, 53, 54, 55, 56, 57, 58, 59, 60, 61, 62, 63, 64, 65, 66, 67, 68, 69, 70, 71, 72, 73, 74, 75, 76, 77, 78, 79, 80, 81, 82, 83, 84, 85, 86, 87, 88, 89, 90, 91, 92, 93, 94, 95, 96, 97, 98, 99, 100, 101, 102, 103, 104, 105, 106, 107, 108, 109, 110, 111, 112, 113, 114, 115, 116, 117, 118, 119, 120, 121, 122, 123, 124, 125, 126, 127, 128, 129, 130, 131, 132, 133, 134, 135, 136, 137, 138, 139, 140, 141, 142, 143, 4, 5, 7, 8, 9, 144, 145, 146, 147, 148, 149, 150, 151, 152, 153, 154, 155, 156, 157, 158, 159, 160, 161, 162, 163, 164, 165, 166, 167, 168, 169, 170, 171, 172, 173, 174, 175, 176, 177, 178, 179, 180, 181, 182, 183, 184, 185, 186, 187, 188, 189, 190, 191, 192, 193, 194, 195, 196, 197, 198, 199, 200, 201, 202, 203, 204, 205, 206, 207, 208, 209, 210, 211, 212, 213, 214, 215, 216, 217, 218, 219, 220, 221, 222, 223, 224, 225, 226, 227, 228, 229, 230, 231, 232, 233, 234, 235, 236, 237, 238, 239, 240, 241, 242, 243, 244, 245, 246, 247, 248, 249, 250, 251, 252, 253, 254, 255, 256, 257, 258, 259, 260, 261, 262, 263, 264, 265, 266, 267, 268, 269, 270, 271, 272, 273, 274, 275, 276, 277, 278, 279, 280, 281, 282, 292, 293, 294, 295, 283, 284, 285, 286, 287, 288, 289, 290, 291, 296, 297, 298, 299, 300, 301, 302, 303, 304, 305, 306, 307, 308, 309, 310, 311, 312, 313, 314, 315, 316, 317, 318, 319, 320, 321] rfl (by decide +kernel)
set_option maxRecDepth 20000 in
theorem gX11_played_X11_playClause : GoodIn wsX11_played (wsV RX11 180 RX11 yX11_playClause wsX11_playClause) := goodIn_app (goodIn_of _ (by decide +kernel)) ggX11_played_X11_playClause
theorem dX11_played_0 : decode cX11_played 0 = .ok (.aload_n 0, 1) := by decide +kernel
theorem dX11_played_1 : decode cX11_played 1 = .ok (.getfield 10, 3) := by decide +kernel
theorem dX11_played_4 : decode cX11_played 4 = .ok (.iload_n 1, 1) := by decide +kernel
theorem dX11_played_5 : decode cX11_played 5 = .ok (.invokevirtual 171, 3) := by decide +kernel
theorem dX11_played_8 : decode cX11_played 8 = .ok (.astore_n 2, 1) := by decide +kernel
theorem dX11_played_9 : decode cX11_played 9 = .ok (.aload_n 2, 1) := by decide +kernel
theorem dX11_played_10 : decode cX11_played 10 = .ok (.ifnonnull 6, 3) := by decide +kernel
theorem dX11_played_13 : decode cX11_played 13 = .ok (.bipush (-2), 2) := by decide +kernel
theorem dX11_played_15 : decode cX11_played 15 = .ok (.ireturn, 1) := by decide +kernel
theorem dX11_played_16 : decode cX11_played 16 = .ok (.iconst 0, 1) := by decide +kernel
theorem dX11_played_17 : decode cX11_played 17 = .ok (.istore_n 3, 1) := by decide +kernel
theorem dX11_played_18 : decode cX11_played 18 = .ok (.iload_n 3, 1) := by decide +kernel
theorem dX11_played_19 : decode cX11_played 19 = .ok (.aload_n 2, 1) := by decide +kernel
theorem dX11_played_20 : decode cX11_played 20 = .ok (.getfield 175, 3) := by decide +kernel
theorem dX11_played_23 : decode cX11_played 23 = .ok (.if_icmp .ge 20, 3) := by decide +kernel
theorem dX11_played_26 : decode cX11_played 26 = .ok (.aload_n 0, 1) := by decide +kernel
theorem dX11_played_27 : decode cX11_played 27 = .ok (.aload_n 2, 1) := by decide +kernel
theorem dX11_played_28 : decode cX11_played 28 = .ok (.iload_n 3, 1) := by decide +kernel
theorem dX11_played_29 : decode cX11_played 29 = .ok (.invokevirtual 180, 3) := by decide +kernel
theorem dX11_played_32 : decode cX11_played 32 = .ok (.ifCond .ne 5, 3) := by decide +kernel
theorem dX11_played_35 : decode cX11_played 35 = .ok (.iload_n 3, 1) := by decide +kernel
theorem dX11_played_36 : decode cX11_played 36 = .ok (.ireturn, 1) := by decide +kernel
theorem dX11_played_37 : decode cX11_played 37 = .ok (.iinc 3 1, 3) := by decide +kernel
theorem dX11_played_40 : decode cX11_played 40 = .ok (.goto (-22), 3) := by decide +kernel
theorem dX11_played_43 : decode cX11_played 43 = .ok (.iconst (-1), 1) := by decide +kernel
theorem dX11_played_44 : decode cX11_played 44 = .ok (.ireturn, 1) := by decide +kernel
set_option maxRecDepth 20000 in
theorem ggX11_decades_X11_within : GoodIn wsX11_decades wsX11_within := goodIn_r _ [8] rfl (by decide +kernel)
set_option maxRecDepth 20000 in
theorem gX11_decades_X11_within : GoodIn wsX11_decades (va_wsS RX11 72 yX11_within wsX11_within) := goodIn_app (goodIn_of _ (by decide +kernel)) ggX11_decades_X11_within
set_option maxRecDepth 20000 in
theorem ggX11_decades_X8_keepRow : GoodIn wsX11_decades wsX8_keepRow := goodIn_r _ [13, 14, 15, 16, 17, 18, 19, 12, 20, 21, 7, 22, 23, 24, 25, 26, 257, 258, 259] rfl (by decide +kernel)
set_option maxRecDepth 20000 in
theorem gX11_decades_X8_keepRow : GoodIn wsX11_decades (wsV RX11 141 RX8 yX8_keepRow wsX8_keepRow) := goodIn_app (goodIn_of _ (by decide +kernel)) ggX11_decades_X8_keepRow
set_option maxRecDepth 20000 in
theorem ggX11_decades_X0_set : GoodIn wsX11_decades wsX0_set := goodIn_r _ [31, 32, 33, 7, 34, 241, 242, 243, 244, 245, 246, 247, 248, 249, 250, 251, 252, 253, 254, 255, 256] rfl (by decide +kernel)
set_option maxRecDepth 20000 in
theorem gX11_decades_X0_set : GoodIn wsX11_decades (wsV RX11 184 RX0 yX0_set wsX0_set) := goodIn_app (goodIn_of _ (by decide +kernel)) ggX11_decades_X0_set
set_option maxRecDepth 20000 in
theorem ggX11_decades_X2_actsByDraw : GoodIn wsX11_decades wsX2_actsByDraw := goodIn_r _ [39, 40, 41, 42, 43, 38, 44, 45, 46, 47, 30, 48, 32, 49, 7, 50, 51, 28, 29, 31, 33, 34, 52, 53, 54, 55, 56, 57, 58, 59, 60, 61, 62, 63, 64, 65, 66, 67, 68, 69, 70, 71, 72, 73, 74, 75, 76, 77, 78, 79, 80, 81, 82, 83, 84, 85, 86, 87, 88, 89, 90, 91, 92, 93, 94, 95, 96, 97, 98, 99, 100, 101, 102, 103, 104, 105, 106, 107, 108, 109, 110, 111, 112, 113, 114, 115, 116, 117, 118, 119, 120, 121, 122, 123, 124, 125, 126, 127, 128, 129, 130, 131, 132, 133, 134, 135, 136, 137, 138, 139, 140, 141, 142, 143, 144, 145, 146, 147, 148, 149, 150, 151, 152, 153, 154, 155, 156, 157, 158, 159, 160, 161, 162, 163, 164, 165, 166, 167, 168, 169, 170, 171, 172, 173, 174, 175, 176, 177, 178, 179, 180, 181, 182, 183, 184, 185, 186, 187, 188, 189, 190, 191, 192, 193, 194, 195, 5, 6, 8, 196, 197, 198, 199, 200, 201, 202, 203, 204, 205, 206, 207, 208, 209, 210, 211, 212, 213, 214, 215, 216, 217, 218, 219, 220, 221, 222, 223, 224, 225, 226, 227, 228, 21, 22, 23, 24, 25, 26, 229, 230, 260, 261, 262, 241, 242, 243, 244, 245, 246, 247, 248, 249, 250, 251, 252, 253, 254, 255, 256, 263, 264, 265, 266, 267, 268, 269, 270] rfl (by decide +kernel)
set_option maxRecDepth 20000 in
theorem gX11_decades_X2_actsByDraw : GoodIn wsX11_decades (wsV RX11 188 RX2 yX2_actsByDraw wsX2_actsByDraw) := goodIn_app (goodIn_of _ (by decide +kernel)) ggX11_decades_X2_actsByDraw
set_option maxRecDepth 20000 in
theorem ggX11_decades_X0_today : GoodIn wsX11_decades wsX0_today := goodIn_r _ [71, 32, 49, 7, 50, 241, 242, 243, 244, 245, 246, 247, 248, 249, 250, 251, 252, 253, 254, 255, 256] rfl (by decide +kernel)
set_option maxRecDepth 20000 in
theorem gX11_decades_X0_today : GoodIn wsX11_decades (wsV RX11 163 RX0 yX0_today wsX0_today) := goodIn_app (goodIn_of _ (by decide +kernel)) ggX11_decades_X0_today
theorem dX11_decades_0 : decode cX11_decades 0 = .ok (.iload_n 1, 1) := by decide +kernel
theorem dX11_decades_1 : decode cX11_decades 1 = .ok (.iconst 0, 1) := by decide +kernel
theorem dX11_decades_2 : decode cX11_decades 2 = .ok (.sipush 9999, 3) := by decide +kernel
theorem dX11_decades_5 : decode cX11_decades 5 = .ok (.invokestatic 72, 3) := by decide +kernel
theorem dX11_decades_8 : decode cX11_decades 8 = .ok (.ifCond .eq 13, 3) := by decide +kernel
theorem dX11_decades_11 : decode cX11_decades 11 = .ok (.iload_n 2, 1) := by decide +kernel
theorem dX11_decades_12 : decode cX11_decades 12 = .ok (.iconst 1, 1) := by decide +kernel
theorem dX11_decades_13 : decode cX11_decades 13 = .ok (.bipush 40, 2) := by decide +kernel
theorem dX11_decades_15 : decode cX11_decades 15 = .ok (.invokestatic 72, 3) := by decide +kernel
theorem dX11_decades_18 : decode cX11_decades 18 = .ok (.ifCond .ne 5, 3) := by decide +kernel
theorem dX11_decades_21 : decode cX11_decades 21 = .ok (.iconst (-1), 1) := by decide +kernel
theorem dX11_decades_22 : decode cX11_decades 22 = .ok (.ireturn, 1) := by decide +kernel
theorem dX11_decades_23 : decode cX11_decades 23 = .ok (.aload_n 0, 1) := by decide +kernel
theorem dX11_decades_24 : decode cX11_decades 24 = .ok (.getfield 10, 3) := by decide +kernel
theorem dX11_decades_27 : decode cX11_decades 27 = .ok (.getfield 134, 3) := by decide +kernel
theorem dX11_decades_30 : decode cX11_decades 30 = .ok (.aload_n 0, 1) := by decide +kernel
theorem dX11_decades_31 : decode cX11_decades 31 = .ok (.getfield 10, 3) := by decide +kernel
theorem dX11_decades_34 : decode cX11_decades 34 = .ok (.getfield 138, 3) := by decide +kernel
theorem dX11_decades_37 : decode cX11_decades 37 = .ok (.invokevirtual 141, 3) := by decide +kernel
theorem dX11_decades_40 : decode cX11_decades 40 = .ok (.aload_n 0, 1) := by decide +kernel
theorem dX11_decades_41 : decode cX11_decades 41 = .ok (.getfield 10, 3) := by decide +kernel
theorem dX11_decades_44 : decode cX11_decades 44 = .ok (.bipush 40, 2) := by decide +kernel
theorem dX11_decades_46 : decode cX11_decades 46 = .ok (.iconst 0, 1) := by decide +kernel
theorem dX11_decades_47 : decode cX11_decades 47 = .ok (.iload_n 1, 1) := by decide +kernel
theorem dX11_decades_48 : decode cX11_decades 48 = .ok (.iconst 2, 1) := by decide +kernel
theorem dX11_decades_49 : decode cX11_decades 49 = .ok (.imul, 1) := by decide +kernel
theorem dX11_decades_50 : decode cX11_decades 50 = .ok (.sipush 179, 3) := by decide +kernel
theorem dX11_decades_53 : decode cX11_decades 53 = .ok (.iadd, 1) := by decide +kernel
theorem dX11_decades_54 : decode cX11_decades 54 = .ok (.invokevirtual 184, 3) := by decide +kernel
theorem dX11_decades_57 : decode cX11_decades 57 = .ok (.iconst 0, 1) := by decide +kernel
theorem dX11_decades_58 : decode cX11_decades 58 = .ok (.istore_n 3, 1) := by decide +kernel
theorem dX11_decades_59 : decode cX11_decades 59 = .ok (.iload_n 3, 1) := by decide +kernel
theorem dX11_decades_60 : decode cX11_decades 60 = .ok (.iload_n 2, 1) := by decide +kernel
theorem dX11_decades_61 : decode cX11_decades 61 = .ok (.if_icmp .ge 16, 3) := by decide +kernel
theorem dX11_decades_64 : decode cX11_decades 64 = .ok (.aload_n 0, 1) := by decide +kernel
theorem dX11_decades_65 : decode cX11_decades 65 = .ok (.getfield 40, 3) := by decide +kernel
theorem dX11_decades_68 : decode cX11_decades 68 = .ok (.invokevirtual 188, 3) := by decide +kernel
theorem dX11_decades_71 : decode cX11_decades 71 = .ok (.iinc 3 1, 3) := by decide +kernel
theorem dX11_decades_74 : decode cX11_decades 74 = .ok (.goto (-15), 3) := by decide +kernel
theorem dX11_decades_77 : decode cX11_decades 77 = .ok (.aload_n 0, 1) := by decide +kernel
theorem dX11_decades_78 : decode cX11_decades 78 = .ok (.getfield 10, 3) := by decide +kernel
theorem dX11_decades_81 : decode cX11_decades 81 = .ok (.invokevirtual 163, 3) := by decide +kernel
theorem dX11_decades_84 : decode cX11_decades 84 = .ok (.ireturn, 1) := by decide +kernel
set_option maxRecDepth 20000 in
theorem ggX11_undo_X8_takeBack : GoodIn wsX11_undo wsX8_takeBack := goodIn_r _ [9, 10, 11, 12, 13, 14, 8, 15, 16, 17, 18, 19, 20, 21, 22, 23, 24, 25, 26, 27, 28, 29, 55, 56, 57] rfl (by decide +kernel)
set_option maxRecDepth 20000 in
theorem gX11_undo_X8_takeBack : GoodIn wsX11_undo (wsV RX11 194 RX8 yX8_takeBack wsX8_takeBack) := goodIn_app (goodIn_of _ (by decide +kernel)) ggX11_undo_X8_takeBack
theorem dX11_undo_0 : decode cX11_undo 0 = .ok (.aload_n 0, 1) := by decide +kernel
theorem dX11_undo_1 : decode cX11_undo 1 = .ok (.getfield 10, 3) := by decide +kernel
theorem dX11_undo_4 : decode cX11_undo 4 = .ok (.getfield 134, 3) := by decide +kernel
theorem dX11_undo_7 : decode cX11_undo 7 = .ok (.getfield 191, 3) := by decide +kernel
theorem dX11_undo_10 : decode cX11_undo 10 = .ok (.ifCond .ne 5, 3) := by decide +kernel
theorem dX11_undo_13 : decode cX11_undo 13 = .ok (.iconst (-1), 1) := by decide +kernel
theorem dX11_undo_14 : decode cX11_undo 14 = .ok (.ireturn, 1) := by decide +kernel
theorem dX11_undo_15 : decode cX11_undo 15 = .ok (.aload_n 0, 1) := by decide +kernel
theorem dX11_undo_16 : decode cX11_undo 16 = .ok (.getfield 10, 3) := by decide +kernel
theorem dX11_undo_19 : decode cX11_undo 19 = .ok (.getfield 134, 3) := by decide +kernel
theorem dX11_undo_22 : decode cX11_undo 22 = .ok (.aload_n 0, 1) := by decide +kernel
theorem dX11_undo_23 : decode cX11_undo 23 = .ok (.getfield 10, 3) := by decide +kernel
theorem dX11_undo_26 : decode cX11_undo 26 = .ok (.getfield 138, 3) := by decide +kernel
theorem dX11_undo_29 : decode cX11_undo 29 = .ok (.invokevirtual 194, 3) := by decide +kernel
theorem dX11_undo_32 : decode cX11_undo 32 = .ok (.aload_n 0, 1) := by decide +kernel
theorem dX11_undo_33 : decode cX11_undo 33 = .ok (.getfield 10, 3) := by decide +kernel
theorem dX11_undo_36 : decode cX11_undo 36 = .ok (.getfield 134, 3) := by decide +kernel
theorem dX11_undo_39 : decode cX11_undo 39 = .ok (.getfield 191, 3) := by decide +kernel
theorem dX11_undo_42 : decode cX11_undo 42 = .ok (.ireturn, 1) := by decide +kernel
set_option maxRecDepth 20000 in
theorem ggX11_of_X0_hasHouse : GoodIn wsX11_of wsX0_hasHouse := goodIn_r _ [9, 10, 11, 12, 13, 124, 125, 126, 127, 128, 129, 130, 131, 132, 133, 134, 135, 136, 137, 138, 139] rfl (by decide +kernel)
set_option maxRecDepth 20000 in
theorem gX11_of_X0_hasHouse : GoodIn wsX11_of (wsV RX11 197 RX0 yX0_hasHouse wsX0_hasHouse) := goodIn_app (goodIn_of _ (by decide +kernel)) ggX11_of_X0_hasHouse
set_option maxRecDepth 20000 in
theorem ggX11_of_X11_at : GoodIn wsX11_of wsX11_at := goodIn_r _ [13] rfl (by decide +kernel)
set_option maxRecDepth 20000 in
theorem gX11_of_X11_at : GoodIn wsX11_of (va_wsS RX11 203 yX11_at wsX11_at) := goodIn_app (goodIn_of _ (by decide +kernel)) ggX11_of_X11_at
set_option maxRecDepth 20000 in
theorem ggX11_of_X0_see : GoodIn wsX11_of wsX0_see := goodIn_r _ [18, 10, 11, 12, 13, 124, 125, 126, 127, 128, 129, 130, 131, 132, 133, 134, 135, 136, 137, 138, 139] rfl (by decide +kernel)
set_option maxRecDepth 20000 in
theorem gX11_of_X0_see : GoodIn wsX11_of (wsV RX11 157 RX0 yX0_see wsX0_see) := goodIn_app (goodIn_of _ (by decide +kernel)) ggX11_of_X0_see
set_option maxRecDepth 20000 in
theorem ggX11_of_X0_textAt : GoodIn wsX11_of wsX0_textAt := goodIn_r _ [22, 23, 24, 124, 125, 126, 127, 128, 129, 130, 131, 132, 133, 134, 135, 136, 137, 138, 139] rfl (by decide +kernel)
set_option maxRecDepth 20000 in
theorem gX11_of_X0_textAt : GoodIn wsX11_of (wsV RX11 171 RX0 yX0_textAt wsX0_textAt) := goodIn_app (goodIn_of _ (by decide +kernel)) ggX11_of_X0_textAt
set_option maxRecDepth 20000 in
theorem ggX11_of_X3_growing : GoodIn wsX11_of wsX3_growing := goodIn_r _ [29, 30, 31, 32, 33, 34, 8, 35, 36, 37, 38, 39, 10, 40, 41, 42, 43, 11, 12, 13, 44, 16, 17, 18, 45, 46, 47, 48, 49, 50, 51, 52, 53, 54, 55, 56, 57, 58, 59, 60, 61, 62, 63, 64, 65, 66, 67, 68, 28, 69, 70, 71, 72, 73, 74, 75, 76, 77, 78, 79, 80, 81, 82, 83, 84, 85, 86, 87, 88, 89, 90, 91, 92, 93, 94, 95, 96, 97, 98, 99, 100, 101, 102, 103, 104, 105, 106, 107, 108, 109, 110, 111, 112, 113, 140, 141, 142, 143, 124, 125, 126, 127, 128, 129, 130, 131, 132, 133, 134, 135, 136, 137, 138, 139, 144, 145, 146, 147] rfl (by decide +kernel)
set_option maxRecDepth 20000 in
theorem gX11_of_X3_growing : GoodIn wsX11_of (wsV RX11 207 RX3 yX3_growing wsX3_growing) := goodIn_app (goodIn_of _ (by decide +kernel)) ggX11_of_X3_growing
set_option maxRecDepth 20000 in
theorem ggX11_of_X0_clownsAt : GoodIn wsX11_of wsX0_clownsAt := goodIn_r _ [35, 36, 37, 38, 8, 39, 10, 40, 41, 42, 43, 11, 12, 13, 44, 16, 17, 18, 124, 125, 126, 127, 128, 129, 130, 131, 132, 133, 134, 135, 136, 137, 138, 139] rfl (by decide +kernel)
set_option maxRecDepth 20000 in
theorem gX11_of_X0_clownsAt : GoodIn wsX11_of (wsV RX11 211 RX0 yX0_clownsAt wsX0_clownsAt) := goodIn_app (goodIn_of _ (by decide +kernel)) ggX11_of_X0_clownsAt
theorem dX11_of_0 : decode cX11_of 0 = .ok (.aload_n 0, 1) := by decide +kernel
theorem dX11_of_1 : decode cX11_of 1 = .ok (.getfield 10, 3) := by decide +kernel
theorem dX11_of_4 : decode cX11_of 4 = .ok (.iload_n 1, 1) := by decide +kernel
theorem dX11_of_5 : decode cX11_of 5 = .ok (.invokevirtual 197, 3) := by decide +kernel
theorem dX11_of_8 : decode cX11_of 8 = .ok (.ifCond .ne 6, 3) := by decide +kernel
theorem dX11_of_11 : decode cX11_of 11 = .ok (.bipush (-2), 2) := by decide +kernel
theorem dX11_of_13 : decode cX11_of 13 = .ok (.ireturn, 1) := by decide +kernel
theorem dX11_of_14 : decode cX11_of 14 = .ok (.iload_n 2, 1) := by decide +kernel
theorem dX11_of_15 : decode cX11_of 15 = .ok (.tableswitch 128 0 6 #[41, 53, 63, 74, 85, 96, 119], 41) := by decide +kernel
theorem dX11_of_56 : decode cX11_of 56 = .ok (.aload_n 0, 1) := by decide +kernel
theorem dX11_of_57 : decode cX11_of 57 = .ok (.getfield 10, 3) := by decide +kernel
theorem dX11_of_60 : decode cX11_of 60 = .ok (.getfield 200, 3) := by decide +kernel
theorem dX11_of_63 : decode cX11_of 63 = .ok (.iload_n 1, 1) := by decide +kernel
theorem dX11_of_64 : decode cX11_of 64 = .ok (.invokestatic 203, 3) := by decide +kernel
theorem dX11_of_67 : decode cX11_of 67 = .ok (.ireturn, 1) := by decide +kernel
theorem dX11_of_68 : decode cX11_of 68 = .ok (.aload_n 0, 1) := by decide +kernel
theorem dX11_of_69 : decode cX11_of 69 = .ok (.getfield 10, 3) := by decide +kernel
theorem dX11_of_72 : decode cX11_of 72 = .ok (.iconst 0, 1) := by decide +kernel
theorem dX11_of_73 : decode cX11_of 73 = .ok (.iload_n 1, 1) := by decide +kernel
theorem dX11_of_74 : decode cX11_of 74 = .ok (.invokevirtual 157, 3) := by decide +kernel
theorem dX11_of_77 : decode cX11_of 77 = .ok (.ireturn, 1) := by decide +kernel
theorem dX11_of_78 : decode cX11_of 78 = .ok (.aload_n 0, 1) := by decide +kernel
theorem dX11_of_79 : decode cX11_of 79 = .ok (.getfield 10, 3) := by decide +kernel
theorem dX11_of_82 : decode cX11_of 82 = .ok (.bipush 6, 2) := by decide +kernel
theorem dX11_of_84 : decode cX11_of 84 = .ok (.iload_n 1, 1) := by decide +kernel
theorem dX11_of_85 : decode cX11_of 85 = .ok (.invokevirtual 157, 3) := by decide +kernel
theorem dX11_of_88 : decode cX11_of 88 = .ok (.ireturn, 1) := by decide +kernel
theorem dX11_of_89 : decode cX11_of 89 = .ok (.aload_n 0, 1) := by decide +kernel
theorem dX11_of_90 : decode cX11_of 90 = .ok (.getfield 10, 3) := by decide +kernel
theorem dX11_of_93 : decode cX11_of 93 = .ok (.bipush 12, 2) := by decide +kernel
theorem dX11_of_95 : decode cX11_of 95 = .ok (.iload_n 1, 1) := by decide +kernel
theorem dX11_of_96 : decode cX11_of 96 = .ok (.invokevirtual 157, 3) := by decide +kernel
theorem dX11_of_99 : decode cX11_of 99 = .ok (.ireturn, 1) := by decide +kernel
theorem dX11_of_100 : decode cX11_of 100 = .ok (.aload_n 0, 1) := by decide +kernel
theorem dX11_of_101 : decode cX11_of 101 = .ok (.getfield 10, 3) := by decide +kernel
theorem dX11_of_104 : decode cX11_of 104 = .ok (.bipush 18, 2) := by decide +kernel
theorem dX11_of_106 : decode cX11_of 106 = .ok (.iload_n 1, 1) := by decide +kernel
theorem dX11_of_107 : decode cX11_of 107 = .ok (.invokevirtual 157, 3) := by decide +kernel
theorem dX11_of_110 : decode cX11_of 110 = .ok (.ireturn, 1) := by decide +kernel
theorem dX11_of_111 : decode cX11_of 111 = .ok (.aload_n 0, 1) := by decide +kernel
theorem dX11_of_112 : decode cX11_of 112 = .ok (.getfield 31, 3) := by decide +kernel
theorem dX11_of_115 : decode cX11_of 115 = .ok (.aload_n 0, 1) := by decide +kernel
theorem dX11_of_116 : decode cX11_of 116 = .ok (.getfield 10, 3) := by decide +kernel
theorem dX11_of_119 : decode cX11_of 119 = .ok (.aload_n 0, 1) := by decide +kernel
theorem dX11_of_120 : decode cX11_of 120 = .ok (.getfield 10, 3) := by decide +kernel
theorem dX11_of_123 : decode cX11_of 123 = .ok (.getfield 127, 3) := by decide +kernel
theorem dX11_of_126 : decode cX11_of 126 = .ok (.invokevirtual 171, 3) := by decide +kernel
theorem dX11_of_129 : decode cX11_of 129 = .ok (.iload_n 1, 1) := by decide +kernel
theorem dX11_of_130 : decode cX11_of 130 = .ok (.invokevirtual 207, 3) := by decide +kernel
theorem dX11_of_133 : decode cX11_of 133 = .ok (.ireturn, 1) := by decide +kernel
theorem dX11_of_134 : decode cX11_of 134 = .ok (.aload_n 0, 1) := by decide +kernel
theorem dX11_of_135 : decode cX11_of 135 = .ok (.getfield 10, 3) := by decide +kernel
theorem dX11_of_138 : decode cX11_of 138 = .ok (.iload_n 1, 1) := by decide +kernel
theorem dX11_of_139 : decode cX11_of 139 = .ok (.invokevirtual 211, 3) := by decide +kernel
theorem dX11_of_142 : decode cX11_of 142 = .ok (.ireturn, 1) := by decide +kernel
theorem dX11_of_143 : decode cX11_of 143 = .ok (.bipush (-2), 2) := by decide +kernel
theorem dX11_of_145 : decode cX11_of 145 = .ok (.ireturn, 1) := by decide +kernel
set_option maxRecDepth 20000 in
theorem ggX11_ofClown_X0_hasClown : GoodIn wsX11_ofClown wsX0_hasClown := goodIn_r _ [8, 9, 10, 11, 12, 27, 28, 29, 30, 31, 32, 33, 34, 35, 36, 37, 38, 39, 40, 41, 42] rfl (by decide +kernel)
set_option maxRecDepth 20000 in
theorem gX11_ofClown_X0_hasClown : GoodIn wsX11_ofClown (wsV RX11 214 RX0 yX0_hasClown wsX0_hasClown) := goodIn_app (goodIn_of _ (by decide +kernel)) ggX11_ofClown_X0_hasClown
set_option maxRecDepth 20000 in
theorem ggX11_ofClown_X11_at : GoodIn wsX11_ofClown wsX11_at := goodIn_r _ [12] rfl (by decide +kernel)
set_option maxRecDepth 20000 in
theorem gX11_ofClown_X11_at : GoodIn wsX11_ofClown (va_wsS RX11 203 yX11_at wsX11_at) := goodIn_app (goodIn_of _ (by decide +kernel)) ggX11_ofClown_X11_at
set_option maxRecDepth 20000 in
theorem ggX11_ofClown_X0_see : GoodIn wsX11_ofClown wsX0_see := goodIn_r _ [17, 9, 10, 11, 12, 27, 28, 29, 30, 31, 32, 33, 34, 35, 36, 37, 38, 39, 40, 41, 42] rfl (by decide +kernel)
set_option maxRecDepth 20000 in
theorem gX11_ofClown_X0_see : GoodIn wsX11_ofClown (wsV RX11 157 RX0 yX0_see wsX0_see) := goodIn_app (goodIn_of _ (by decide +kernel)) ggX11_ofClown_X0_see
theorem dX11_ofClown_0 : decode cX11_ofClown 0 = .ok (.aload_n 0, 1) := by decide +kernel
theorem dX11_ofClown_1 : decode cX11_ofClown 1 = .ok (.getfield 10, 3) := by decide +kernel
theorem dX11_ofClown_4 : decode cX11_ofClown 4 = .ok (.iload_n 1, 1) := by decide +kernel
theorem dX11_ofClown_5 : decode cX11_ofClown 5 = .ok (.invokevirtual 214, 3) := by decide +kernel
theorem dX11_ofClown_8 : decode cX11_ofClown 8 = .ok (.ifCond .ne 6, 3) := by decide +kernel
theorem dX11_ofClown_11 : decode cX11_ofClown 11 = .ok (.bipush (-2), 2) := by decide +kernel
theorem dX11_ofClown_13 : decode cX11_ofClown 13 = .ok (.ireturn, 1) := by decide +kernel
theorem dX11_ofClown_14 : decode cX11_ofClown 14 = .ok (.iload_n 2, 1) := by decide +kernel
theorem dX11_ofClown_15 : decode cX11_ofClown 15 = .ok (.tableswitch 90 0 4 #[33, 45, 57, 68, 79], 33) := by decide +kernel
theorem dX11_ofClown_48 : decode cX11_ofClown 48 = .ok (.aload_n 0, 1) := by decide +kernel
theorem dX11_ofClown_49 : decode cX11_ofClown 49 = .ok (.getfield 10, 3) := by decide +kernel
theorem dX11_ofClown_52 : decode cX11_ofClown 52 = .ok (.getfield 217, 3) := by decide +kernel
theorem dX11_ofClown_55 : decode cX11_ofClown 55 = .ok (.iload_n 1, 1) := by decide +kernel
theorem dX11_ofClown_56 : decode cX11_ofClown 56 = .ok (.invokestatic 203, 3) := by decide +kernel
theorem dX11_ofClown_59 : decode cX11_ofClown 59 = .ok (.ireturn, 1) := by decide +kernel
theorem dX11_ofClown_60 : decode cX11_ofClown 60 = .ok (.aload_n 0, 1) := by decide +kernel
theorem dX11_ofClown_61 : decode cX11_ofClown 61 = .ok (.getfield 10, 3) := by decide +kernel
theorem dX11_ofClown_64 : decode cX11_ofClown 64 = .ok (.getfield 220, 3) := by decide +kernel
theorem dX11_ofClown_67 : decode cX11_ofClown 67 = .ok (.iload_n 1, 1) := by decide +kernel
theorem dX11_ofClown_68 : decode cX11_ofClown 68 = .ok (.invokestatic 203, 3) := by decide +kernel
theorem dX11_ofClown_71 : decode cX11_ofClown 71 = .ok (.ireturn, 1) := by decide +kernel
theorem dX11_ofClown_72 : decode cX11_ofClown 72 = .ok (.aload_n 0, 1) := by decide +kernel
theorem dX11_ofClown_73 : decode cX11_ofClown 73 = .ok (.getfield 10, 3) := by decide +kernel
theorem dX11_ofClown_76 : decode cX11_ofClown 76 = .ok (.bipush 24, 2) := by decide +kernel
theorem dX11_ofClown_78 : decode cX11_ofClown 78 = .ok (.iload_n 1, 1) := by decide +kernel
theorem dX11_ofClown_79 : decode cX11_ofClown 79 = .ok (.invokevirtual 157, 3) := by decide +kernel
theorem dX11_ofClown_82 : decode cX11_ofClown 82 = .ok (.ireturn, 1) := by decide +kernel
theorem dX11_ofClown_83 : decode cX11_ofClown 83 = .ok (.aload_n 0, 1) := by decide +kernel
theorem dX11_ofClown_84 : decode cX11_ofClown 84 = .ok (.getfield 10, 3) := by decide +kernel
theorem dX11_ofClown_87 : decode cX11_ofClown 87 = .ok (.bipush 29, 2) := by decide +kernel
theorem dX11_ofClown_89 : decode cX11_ofClown 89 = .ok (.iload_n 1, 1) := by decide +kernel
theorem dX11_ofClown_90 : decode cX11_ofClown 90 = .ok (.invokevirtual 157, 3) := by decide +kernel
theorem dX11_ofClown_93 : decode cX11_ofClown 93 = .ok (.ireturn, 1) := by decide +kernel
theorem dX11_ofClown_94 : decode cX11_ofClown 94 = .ok (.aload_n 0, 1) := by decide +kernel
theorem dX11_ofClown_95 : decode cX11_ofClown 95 = .ok (.getfield 10, 3) := by decide +kernel
theorem dX11_ofClown_98 : decode cX11_ofClown 98 = .ok (.bipush 34, 2) := by decide +kernel
theorem dX11_ofClown_100 : decode cX11_ofClown 100 = .ok (.iload_n 1, 1) := by decide +kernel
theorem dX11_ofClown_101 : decode cX11_ofClown 101 = .ok (.invokevirtual 157, 3) := by decide +kernel
theorem dX11_ofClown_104 : decode cX11_ofClown 104 = .ok (.ireturn, 1) := by decide +kernel
theorem dX11_ofClown_105 : decode cX11_ofClown 105 = .ok (.bipush (-2), 2) := by decide +kernel
theorem dX11_ofClown_107 : decode cX11_ofClown 107 = .ok (.ireturn, 1) := by decide +kernel
set_option maxRecDepth 20000 in
theorem ggX11_eased_X0_isOut : GoodIn wsX11_eased wsX0_isOut := goodIn_r _ [7, 8, 9, 10, 6, 11, 12, 13, 14, 15, 16, 17, 18, 19, 117, 118, 119, 120, 121, 122, 123, 124, 125, 126, 127, 128, 129, 130, 131, 132] rfl (by decide +kernel)
set_option maxRecDepth 20000 in
theorem gX11_eased_X0_isOut : GoodIn wsX11_eased (wsV RX11 223 RX0 yX0_isOut wsX0_isOut) := goodIn_app (goodIn_of _ (by decide +kernel)) ggX11_eased_X0_isOut
set_option maxRecDepth 20000 in
theorem ggX11_eased_X11_isFall : GoodIn wsX11_eased wsX11_isFall := goodIn_r _ [22, 23, 24, 14, 25] rfl (by decide +kernel)
set_option maxRecDepth 20000 in
theorem gX11_eased_X11_isFall : GoodIn wsX11_eased (va_wsS RX11 83 yX11_isFall wsX11_isFall) := goodIn_app (goodIn_of _ (by decide +kernel)) ggX11_eased_X11_isFall
set_option maxRecDepth 20000 in
theorem ggX11_eased_X3_easing : GoodIn wsX11_eased wsX3_easing := goodIn_r _ [30, 31, 32, 33, 34, 35, 36, 6, 37, 38, 39, 40, 41, 42, 43, 44, 45, 46, 47, 48, 49, 13, 14, 15, 50, 51, 52, 53, 54, 17, 18, 19, 12, 55, 56, 57, 29, 58, 59, 60, 61, 62, 63, 64, 65, 66, 67, 68, 69, 70, 71, 72, 73, 74, 75, 76, 77, 78, 79, 80, 81, 82, 83, 84, 85, 86, 87, 88, 89, 90, 91, 92, 93, 94, 95, 96, 97, 98, 99, 100, 101, 102, 103, 104, 105, 106, 107, 133, 134, 135, 136, 117, 118, 119, 120, 121, 122, 123, 124, 125, 126, 127, 128, 129, 130, 131, 132, 137, 138, 139, 140] rfl (by decide +kernel)
set_option maxRecDepth 20000 in
theorem gX11_eased_X3_easing : GoodIn wsX11_eased (wsV RX11 226 RX3 yX3_easing wsX3_easing) := goodIn_app (goodIn_of _ (by decide +kernel)) ggX11_eased_X3_easing
theorem dX11_eased_0 : decode cX11_eased 0 = .ok (.aload_n 0, 1) := by decide +kernel
theorem dX11_eased_1 : decode cX11_eased 1 = .ok (.getfield 10, 3) := by decide +kernel
theorem dX11_eased_4 : decode cX11_eased 4 = .ok (.iload_n 1, 1) := by decide +kernel
theorem dX11_eased_5 : decode cX11_eased 5 = .ok (.invokevirtual 223, 3) := by decide +kernel
theorem dX11_eased_8 : decode cX11_eased 8 = .ok (.ifCond .eq 22, 3) := by decide +kernel
theorem dX11_eased_11 : decode cX11_eased 11 = .ok (.iload_n 2, 1) := by decide +kernel
theorem dX11_eased_12 : decode cX11_eased 12 = .ok (.invokestatic 83, 3) := by decide +kernel
theorem dX11_eased_15 : decode cX11_eased 15 = .ok (.ifCond .eq 15, 3) := by decide +kernel
theorem dX11_eased_18 : decode cX11_eased 18 = .ok (.aload_n 0, 1) := by decide +kernel
theorem dX11_eased_19 : decode cX11_eased 19 = .ok (.getfield 31, 3) := by decide +kernel
theorem dX11_eased_22 : decode cX11_eased 22 = .ok (.iload_n 1, 1) := by decide +kernel
theorem dX11_eased_23 : decode cX11_eased 23 = .ok (.iload_n 2, 1) := by decide +kernel
theorem dX11_eased_24 : decode cX11_eased 24 = .ok (.invokevirtual 226, 3) := by decide +kernel
theorem dX11_eased_27 : decode cX11_eased 27 = .ok (.goto 4, 3) := by decide +kernel
theorem dX11_eased_30 : decode cX11_eased 30 = .ok (.iconst (-1), 1) := by decide +kernel
theorem dX11_eased_31 : decode cX11_eased 31 = .ok (.ireturn, 1) := by decide +kernel
set_option maxRecDepth 20000 in
theorem ggX11_laughs_X0_isOut : GoodIn wsX11_laughs wsX0_isOut := goodIn_r _ [7, 8, 9, 10, 6, 11, 12, 13, 14, 15, 16, 17, 18, 19, 146, 147, 148, 149, 150, 151, 152, 153, 154, 155, 156, 157, 158, 159, 160, 161] rfl (by decide +kernel)
set_option maxRecDepth 20000 in
theorem gX11_laughs_X0_isOut : GoodIn wsX11_laughs (wsV RX11 223 RX0 yX0_isOut wsX0_isOut) := goodIn_app (goodIn_of _ (by decide +kernel)) ggX11_laughs_X0_isOut
set_option maxRecDepth 20000 in
theorem ggX11_laughs_X11_isFall : GoodIn wsX11_laughs wsX11_isFall := goodIn_r _ [22, 23, 24, 14, 25] rfl (by decide +kernel)
set_option maxRecDepth 20000 in
theorem gX11_laughs_X11_isFall : GoodIn wsX11_laughs (va_wsS RX11 83 yX11_isFall wsX11_isFall) := goodIn_app (goodIn_of _ (by decide +kernel)) ggX11_laughs_X11_isFall
set_option maxRecDepth 20000 in
theorem ggX11_laughs_X2_oddsOfFall : GoodIn wsX11_laughs wsX2_oddsOfFall := goodIn_r _ [30, 31, 32, 33, 17, 18, 6, 19, 12, 13, 14, 15, 34, 35, 36, 37, 38, 39, 40, 41, 42, 43, 44, 45, 46, 47, 48, 49, 50, 51, 52, 53, 54, 55, 56, 57, 58, 59, 60, 61, 62, 63, 64, 65, 66, 67, 68, 69, 70, 71, 72, 73, 74, 75, 76, 77, 78, 79, 80, 81, 82, 83, 84, 85, 86, 87, 88, 89, 90, 91, 92, 93, 94, 95, 96, 97, 98, 99, 100, 101, 102, 103, 104, 105, 106, 107, 108, 109, 110, 111, 112, 113, 114, 115, 116, 117, 118, 29, 119, 120, 121, 122, 123, 124, 125, 126, 127, 128, 129, 130, 131, 132, 133, 134, 135, 136, 162, 163, 164, 146, 147, 148, 149, 150, 151, 152, 153, 154, 155, 156, 157, 158, 159, 160, 161, 165, 166, 167, 168, 169, 170, 171, 172] rfl (by decide +kernel)
set_option maxRecDepth 20000 in
theorem gX11_laughs_X2_oddsOfFall : GoodIn wsX11_laughs (wsV RX11 229 RX2 yX2_oddsOfFall wsX2_oddsOfFall) := goodIn_app (goodIn_of _ (by decide +kernel)) ggX11_laughs_X2_oddsOfFall
theorem dX11_laughs_0 : decode cX11_laughs 0 = .ok (.aload_n 0, 1) := by decide +kernel
theorem dX11_laughs_1 : decode cX11_laughs 1 = .ok (.getfield 10, 3) := by decide +kernel
theorem dX11_laughs_4 : decode cX11_laughs 4 = .ok (.iload_n 1, 1) := by decide +kernel
theorem dX11_laughs_5 : decode cX11_laughs 5 = .ok (.invokevirtual 223, 3) := by decide +kernel
theorem dX11_laughs_8 : decode cX11_laughs 8 = .ok (.ifCond .eq 22, 3) := by decide +kernel
theorem dX11_laughs_11 : decode cX11_laughs 11 = .ok (.iload_n 2, 1) := by decide +kernel
theorem dX11_laughs_12 : decode cX11_laughs 12 = .ok (.invokestatic 83, 3) := by decide +kernel
theorem dX11_laughs_15 : decode cX11_laughs 15 = .ok (.ifCond .eq 15, 3) := by decide +kernel
theorem dX11_laughs_18 : decode cX11_laughs 18 = .ok (.aload_n 0, 1) := by decide +kernel
theorem dX11_laughs_19 : decode cX11_laughs 19 = .ok (.getfield 40, 3) := by decide +kernel
theorem dX11_laughs_22 : decode cX11_laughs 22 = .ok (.iload_n 1, 1) := by decide +kernel
theorem dX11_laughs_23 : decode cX11_laughs 23 = .ok (.iload_n 2, 1) := by decide +kernel
theorem dX11_laughs_24 : decode cX11_laughs 24 = .ok (.invokevirtual 229, 3) := by decide +kernel
theorem dX11_laughs_27 : decode cX11_laughs 27 = .ok (.goto 4, 3) := by decide +kernel
theorem dX11_laughs_30 : decode cX11_laughs 30 = .ok (.iconst (-1), 1) := by decide +kernel
theorem dX11_laughs_31 : decode cX11_laughs 31 = .ok (.ireturn, 1) := by decide +kernel
set_option maxRecDepth 20000 in
theorem ggX11_is_X0_today : GoodIn wsX11_is wsX0_today := goodIn_r _ [6, 7, 8, 9, 10, 24, 25, 26, 27, 28, 29, 30, 31, 32, 33, 34, 35, 36, 37, 38, 39] rfl (by decide +kernel)
set_option maxRecDepth 20000 in
theorem gX11_is_X0_today : GoodIn wsX11_is (wsV RX11 163 RX0 yX0_today wsX0_today) := goodIn_app (goodIn_of _ (by decide +kernel)) ggX11_is_X0_today
set_option maxRecDepth 20000 in
theorem ggX11_is_X0_see : GoodIn wsX11_is wsX0_see := goodIn_r _ [14, 7, 8, 9, 10, 24, 25, 26, 27, 28, 29, 30, 31, 32, 33, 34, 35, 36, 37, 38, 39] rfl (by decide +kernel)
set_option maxRecDepth 20000 in
theorem gX11_is_X0_see : GoodIn wsX11_is (wsV RX11 157 RX0 yX0_see wsX0_see) := goodIn_app (goodIn_of _ (by decide +kernel)) ggX11_is_X0_see
theorem dX11_is_0 : decode cX11_is 0 = .ok (.iload_n 1, 1) := by decide +kernel
theorem dX11_is_1 : decode cX11_is 1 = .ok (.lookupswitch 46 #[(0, 27), (1, 35)], 27) := by decide +kernel
theorem dX11_is_28 : decode cX11_is 28 = .ok (.aload_n 0, 1) := by decide +kernel
theorem dX11_is_29 : decode cX11_is 29 = .ok (.getfield 10, 3) := by decide +kernel
theorem dX11_is_32 : decode cX11_is 32 = .ok (.invokevirtual 163, 3) := by decide +kernel
theorem dX11_is_35 : decode cX11_is 35 = .ok (.ireturn, 1) := by decide +kernel
theorem dX11_is_36 : decode cX11_is 36 = .ok (.aload_n 0, 1) := by decide +kernel
theorem dX11_is_37 : decode cX11_is 37 = .ok (.getfield 10, 3) := by decide +kernel
theorem dX11_is_40 : decode cX11_is 40 = .ok (.bipush 40, 2) := by decide +kernel
theorem dX11_is_42 : decode cX11_is 42 = .ok (.iconst 0, 1) := by decide +kernel
theorem dX11_is_43 : decode cX11_is 43 = .ok (.invokevirtual 157, 3) := by decide +kernel
theorem dX11_is_46 : decode cX11_is 46 = .ok (.ireturn, 1) := by decide +kernel
theorem dX11_is_47 : decode cX11_is 47 = .ok (.bipush (-2), 2) := by decide +kernel
theorem dX11_is_49 : decode cX11_is 49 = .ok (.ireturn, 1) := by decide +kernel
set_option maxRecDepth 20000 in
theorem ggX11_book_X0_see : GoodIn wsX11_book wsX0_see := goodIn_r _ [6, 7, 8, 9, 10, 23, 24, 25, 26, 27, 28, 29, 30, 31, 32, 33, 34, 35, 36, 37, 38] rfl (by decide +kernel)
set_option maxRecDepth 20000 in
theorem gX11_book_X0_see : GoodIn wsX11_book (wsV RX11 157 RX0 yX0_see wsX0_see) := goodIn_app (goodIn_of _ (by decide +kernel)) ggX11_book_X0_see
set_option maxRecDepth 20000 in
theorem ggX11_book_X11_within : GoodIn wsX11_book wsX11_within := goodIn_r _ [13] rfl (by decide +kernel)
set_option maxRecDepth 20000 in
theorem gX11_book_X11_within : GoodIn wsX11_book (va_wsS RX11 72 yX11_within wsX11_within) := goodIn_app (goodIn_of _ (by decide +kernel)) ggX11_book_X11_within
theorem dX11_book_0 : decode cX11_book 0 = .ok (.aload_n 0, 1) := by decide +kernel
theorem dX11_book_1 : decode cX11_book 1 = .ok (.getfield 10, 3) := by decide +kernel
theorem dX11_book_4 : decode cX11_book 4 = .ok (.bipush 41, 2) := by decide +kernel
theorem dX11_book_6 : decode cX11_book 6 = .ok (.iconst 0, 1) := by decide +kernel
theorem dX11_book_7 : decode cX11_book 7 = .ok (.invokevirtual 157, 3) := by decide +kernel
theorem dX11_book_10 : decode cX11_book 10 = .ok (.istore_n 3, 1) := by decide +kernel
theorem dX11_book_11 : decode cX11_book 11 = .ok (.iload_n 1, 1) := by decide +kernel
theorem dX11_book_12 : decode cX11_book 12 = .ok (.iconst (-1), 1) := by decide +kernel
theorem dX11_book_13 : decode cX11_book 13 = .ok (.if_icmp .ne 5, 3) := by decide +kernel
theorem dX11_book_16 : decode cX11_book 16 = .ok (.iload_n 3, 1) := by decide +kernel
theorem dX11_book_17 : decode cX11_book 17 = .ok (.ireturn, 1) := by decide +kernel
theorem dX11_book_18 : decode cX11_book 18 = .ok (.iload_n 1, 1) := by decide +kernel
theorem dX11_book_19 : decode cX11_book 19 = .ok (.iconst 0, 1) := by decide +kernel
theorem dX11_book_20 : decode cX11_book 20 = .ok (.iload_n 3, 1) := by decide +kernel
theorem dX11_book_21 : decode cX11_book 21 = .ok (.iconst 1, 1) := by decide +kernel
theorem dX11_book_22 : decode cX11_book 22 = .ok (.isub, 1) := by decide +kernel
theorem dX11_book_23 : decode cX11_book 23 = .ok (.invokestatic 72, 3) := by decide +kernel
theorem dX11_book_26 : decode cX11_book 26 = .ok (.ifCond .ne 6, 3) := by decide +kernel
theorem dX11_book_29 : decode cX11_book 29 = .ok (.bipush (-2), 2) := by decide +kernel
theorem dX11_book_31 : decode cX11_book 31 = .ok (.ireturn, 1) := by decide +kernel
theorem dX11_book_32 : decode cX11_book 32 = .ok (.aload_n 0, 1) := by decide +kernel
theorem dX11_book_33 : decode cX11_book 33 = .ok (.getfield 10, 3) := by decide +kernel
theorem dX11_book_36 : decode cX11_book 36 = .ok (.bipush 42, 2) := by decide +kernel
theorem dX11_book_38 : decode cX11_book 38 = .ok (.iload_n 1, 1) := by decide +kernel
theorem dX11_book_39 : decode cX11_book 39 = .ok (.invokevirtual 157, 3) := by decide +kernel
theorem dX11_book_42 : decode cX11_book 42 = .ok (.istore 4, 2) := by decide +kernel
theorem dX11_book_44 : decode cX11_book 44 = .ok (.iload_n 2, 1) := by decide +kernel
theorem dX11_book_45 : decode cX11_book 45 = .ok (.tableswitch 47 0 2 #[27, 33, 41], 27) := by decide +kernel
theorem dX11_book_72 : decode cX11_book 72 = .ok (.iload 4, 2) := by decide +kernel
theorem dX11_book_74 : decode cX11_book 74 = .ok (.bipush 6, 2) := by decide +kernel
theorem dX11_book_76 : decode cX11_book 76 = .ok (.ishr, 1) := by decide +kernel
theorem dX11_book_77 : decode cX11_book 77 = .ok (.ireturn, 1) := by decide +kernel
theorem dX11_book_78 : decode cX11_book 78 = .ok (.iload 4, 2) := by decide +kernel
theorem dX11_book_80 : decode cX11_book 80 = .ok (.iconst 3, 1) := by decide +kernel
theorem dX11_book_81 : decode cX11_book 81 = .ok (.ishr, 1) := by decide +kernel
theorem dX11_book_82 : decode cX11_book 82 = .ok (.bipush 7, 2) := by decide +kernel
theorem dX11_book_84 : decode cX11_book 84 = .ok (.iand, 1) := by decide +kernel
theorem dX11_book_85 : decode cX11_book 85 = .ok (.ireturn, 1) := by decide +kernel
theorem dX11_book_86 : decode cX11_book 86 = .ok (.iload 4, 2) := by decide +kernel
theorem dX11_book_88 : decode cX11_book 88 = .ok (.bipush 7, 2) := by decide +kernel
theorem dX11_book_90 : decode cX11_book 90 = .ok (.iand, 1) := by decide +kernel
theorem dX11_book_91 : decode cX11_book 91 = .ok (.ireturn, 1) := by decide +kernel
theorem dX11_book_92 : decode cX11_book 92 = .ok (.bipush (-2), 2) := by decide +kernel
theorem dX11_book_94 : decode cX11_book 94 = .ok (.ireturn, 1) := by decide +kernel
set_option maxRecDepth 20000 in
theorem ggX11_foretold_X11_within : GoodIn wsX11_foretold wsX11_within := goodIn_r _ [6] rfl (by decide +kernel)
set_option maxRecDepth 20000 in
theorem gX11_foretold_X11_within : GoodIn wsX11_foretold (va_wsS RX11 72 yX11_within wsX11_within) := goodIn_app (goodIn_of _ (by decide +kernel)) ggX11_foretold_X11_within
set_option maxRecDepth 20000 in
theorem ggX11_foretold_X0_hasHouse : GoodIn wsX11_foretold wsX0_hasHouse := goodIn_r _ [11, 12, 13, 5, 14, 177, 178, 179, 180, 181, 182, 183, 184, 185, 186, 187, 188, 189, 190, 191, 192] rfl (by decide +kernel)
set_option maxRecDepth 20000 in
theorem gX11_foretold_X0_hasHouse : GoodIn wsX11_foretold (wsV RX11 197 RX0 yX0_hasHouse wsX0_hasHouse) := goodIn_app (goodIn_of _ (by decide +kernel)) ggX11_foretold_X0_hasHouse
set_option maxRecDepth 20000 in
theorem ggX11_foretold_X2_beginForetelling : GoodIn wsX11_foretold wsX2_beginForetelling := goodIn_r _ [19, 20, 21, 22, 23, 5, 24, 25, 26, 27, 28, 29, 30, 31, 193, 194, 195, 177, 178, 179, 180, 181, 182, 183, 184, 185, 186, 187, 188, 189, 190, 191, 192] rfl (by decide +kernel)
set_option maxRecDepth 20000 in
theorem gX11_foretold_X2_beginForetelling : GoodIn wsX11_foretold (wsV RX11 232 RX2 yX2_beginForetelling wsX2_beginForetelling) := goodIn_app (goodIn_of _ (by decide +kernel)) ggX11_foretold_X2_beginForetelling
set_option maxRecDepth 20000 in
theorem ggX11_foretold_X2_canPass : GoodIn wsX11_foretold wsX2_canPass := goodIn_r _ [35, 20, 36, 37, 38, 10, 39, 12, 13, 5, 14, 193, 194, 195, 177, 178, 179, 180, 181, 182, 183, 184, 185, 186, 187, 188, 189, 190, 191, 192] rfl (by decide +kernel)
set_option maxRecDepth 20000 in
theorem gX11_foretold_X2_canPass : GoodIn wsX11_foretold (wsV RX11 235 RX2 yX2_canPass wsX2_canPass) := goodIn_app (goodIn_of _ (by decide +kernel)) ggX11_foretold_X2_canPass
set_option maxRecDepth 20000 in
theorem ggX11_foretold_X2_passes : GoodIn wsX11_foretold wsX2_passes := goodIn_r _ [43, 20, 44, 45, 46, 47, 48, 49, 50, 51, 52, 53, 54, 55, 10, 56, 12, 57, 13, 5, 14, 58, 59, 60, 61, 62, 63, 64, 65, 66, 67, 68, 69, 70, 71, 72, 73, 74, 75, 76, 77, 78, 79, 80, 81, 82, 83, 84, 85, 86, 87, 88, 89, 90, 91, 92, 93, 94, 95, 96, 97, 98, 99, 100, 101, 102, 103, 104, 105, 106, 107, 108, 109, 37, 38, 39, 110, 111, 112, 113, 114, 115, 116, 117, 118, 119, 120, 121, 122, 123, 124, 125, 126, 127, 128, 129, 130, 131, 132, 133, 134, 135, 136, 137, 138, 139, 140, 141, 142, 143, 144, 145, 146, 147, 148, 149, 150, 151, 152, 153, 154, 155, 156, 157, 158, 159, 160, 161, 162, 36, 193, 194, 195, 177, 178, 179, 180, 181, 182, 183, 184, 185, 186, 187, 188, 189, 190, 191, 192, 196, 197, 198, 199, 200, 201, 202, 203] rfl (by decide +kernel)
set_option maxRecDepth 20000 in
theorem gX11_foretold_X2_passes : GoodIn wsX11_foretold (wsV RX11 238 RX2 yX2_passes wsX2_passes) := goodIn_app (goodIn_of _ (by decide +kernel)) ggX11_foretold_X2_passes
set_option maxRecDepth 20000 in
theorem ggX11_foretold_X0_see : GoodIn wsX11_foretold wsX0_see := goodIn_r _ [82, 12, 13, 5, 14, 177, 178, 179, 180, 181, 182, 183, 184, 185, 186, 187, 188, 189, 190, 191, 192] rfl (by decide +kernel)
set_option maxRecDepth 20000 in
theorem gX11_foretold_X0_see : GoodIn wsX11_foretold (wsV RX11 157 RX0 yX0_see wsX0_see) := goodIn_app (goodIn_of _ (by decide +kernel)) ggX11_foretold_X0_see
set_option maxRecDepth 20000 in
theorem ggX11_foretold_X2_endForetelling : GoodIn wsX11_foretold wsX2_endForetelling := goodIn_r _ [167, 22, 20, 21, 23, 5, 24, 25, 26, 27, 28, 29, 30, 31, 193, 194, 195, 177, 178, 179, 180, 181, 182, 183, 184, 185, 186, 187, 188, 189, 190, 191, 192] rfl (by decide +kernel)
set_option maxRecDepth 20000 in
theorem gX11_foretold_X2_endForetelling : GoodIn wsX11_foretold (wsV RX11 241 RX2 yX2_endForetelling wsX2_endForetelling) := goodIn_app (goodIn_of _ (by decide +kernel)) ggX11_foretold_X2_endForetelling
theorem dX11_foretold_0 : decode cX11_foretold 0 = .ok (.iload_n 1, 1) := by decide +kernel
theorem dX11_foretold_1 : decode cX11_foretold 1 = .ok (.iconst 1, 1) := by decide +kernel
theorem dX11_foretold_2 : decode cX11_foretold 2 = .ok (.bipush 60, 2) := by decide +kernel
theorem dX11_foretold_4 : decode cX11_foretold 4 = .ok (.invokestatic 72, 3) := by decide +kernel
theorem dX11_foretold_7 : decode cX11_foretold 7 = .ok (.ifCond .eq 14, 3) := by decide +kernel
theorem dX11_foretold_10 : decode cX11_foretold 10 = .ok (.aload_n 0, 1) := by decide +kernel
theorem dX11_foretold_11 : decode cX11_foretold 11 = .ok (.getfield 10, 3) := by decide +kernel
theorem dX11_foretold_14 : decode cX11_foretold 14 = .ok (.iload_n 2, 1) := by decide +kernel
theorem dX11_foretold_15 : decode cX11_foretold 15 = .ok (.invokevirtual 197, 3) := by decide +kernel
theorem dX11_foretold_18 : decode cX11_foretold 18 = .ok (.ifCond .ne 5, 3) := by decide +kernel
theorem dX11_foretold_21 : decode cX11_foretold 21 = .ok (.iconst (-1), 1) := by decide +kernel
theorem dX11_foretold_22 : decode cX11_foretold 22 = .ok (.ireturn, 1) := by decide +kernel
theorem dX11_foretold_23 : decode cX11_foretold 23 = .ok (.aload_n 0, 1) := by decide +kernel
theorem dX11_foretold_24 : decode cX11_foretold 24 = .ok (.getfield 40, 3) := by decide +kernel
theorem dX11_foretold_27 : decode cX11_foretold 27 = .ok (.invokevirtual 232, 3) := by decide +kernel
theorem dX11_foretold_30 : decode cX11_foretold 30 = .ok (.iconst 0, 1) := by decide +kernel
theorem dX11_foretold_31 : decode cX11_foretold 31 = .ok (.istore_n 3, 1) := by decide +kernel
theorem dX11_foretold_32 : decode cX11_foretold 32 = .ok (.iload_n 3, 1) := by decide +kernel
theorem dX11_foretold_33 : decode cX11_foretold 33 = .ok (.iload_n 1, 1) := by decide +kernel
theorem dX11_foretold_34 : decode cX11_foretold 34 = .ok (.if_icmp .ge 26, 3) := by decide +kernel
theorem dX11_foretold_37 : decode cX11_foretold 37 = .ok (.aload_n 0, 1) := by decide +kernel
theorem dX11_foretold_38 : decode cX11_foretold 38 = .ok (.getfield 40, 3) := by decide +kernel
theorem dX11_foretold_41 : decode cX11_foretold 41 = .ok (.invokevirtual 235, 3) := by decide +kernel
theorem dX11_foretold_44 : decode cX11_foretold 44 = .ok (.ifCond .eq 16, 3) := by decide +kernel
theorem dX11_foretold_47 : decode cX11_foretold 47 = .ok (.aload_n 0, 1) := by decide +kernel
theorem dX11_foretold_48 : decode cX11_foretold 48 = .ok (.getfield 40, 3) := by decide +kernel
theorem dX11_foretold_51 : decode cX11_foretold 51 = .ok (.invokevirtual 238, 3) := by decide +kernel
theorem dX11_foretold_54 : decode cX11_foretold 54 = .ok (.iinc 3 1, 3) := by decide +kernel
theorem dX11_foretold_57 : decode cX11_foretold 57 = .ok (.goto (-25), 3) := by decide +kernel
theorem dX11_foretold_60 : decode cX11_foretold 60 = .ok (.aload_n 0, 1) := by decide +kernel
theorem dX11_foretold_61 : decode cX11_foretold 61 = .ok (.getfield 10, 3) := by decide +kernel
theorem dX11_foretold_64 : decode cX11_foretold 64 = .ok (.iconst 0, 1) := by decide +kernel
theorem dX11_foretold_65 : decode cX11_foretold 65 = .ok (.iload_n 2, 1) := by decide +kernel
theorem dX11_foretold_66 : decode cX11_foretold 66 = .ok (.invokevirtual 157, 3) := by decide +kernel
theorem dX11_foretold_69 : decode cX11_foretold 69 = .ok (.istore_n 3, 1) := by decide +kernel
theorem dX11_foretold_70 : decode cX11_foretold 70 = .ok (.aload_n 0, 1) := by decide +kernel
theorem dX11_foretold_71 : decode cX11_foretold 71 = .ok (.getfield 40, 3) := by decide +kernel
theorem dX11_foretold_74 : decode cX11_foretold 74 = .ok (.invokevirtual 241, 3) := by decide +kernel
theorem dX11_foretold_77 : decode cX11_foretold 77 = .ok (.iload_n 3, 1) := by decide +kernel
theorem dX11_foretold_78 : decode cX11_foretold 78 = .ok (.ireturn, 1) := by decide +kernel
set_option maxRecDepth 20000 in
theorem ggX11_heavy_X11_within : GoodIn wsX11_heavy wsX11_within := goodIn_r _ [6] rfl (by decide +kernel)
set_option maxRecDepth 20000 in
theorem gX11_heavy_X11_within : GoodIn wsX11_heavy (va_wsS RX11 72 yX11_within wsX11_within) := goodIn_app (goodIn_of _ (by decide +kernel)) ggX11_heavy_X11_within
set_option maxRecDepth 20000 in
theorem ggX11_heavy_X2_beginForetelling : GoodIn wsX11_heavy wsX2_beginForetelling := goodIn_r _ [11, 12, 13, 14, 15, 5, 16, 17, 18, 19, 20, 21, 22, 23, 177, 178, 179, 180, 181, 182, 183, 184, 185, 186, 187, 188, 189, 190, 191, 192, 193, 194, 195] rfl (by decide +kernel)
set_option maxRecDepth 20000 in
theorem gX11_heavy_X2_beginForetelling : GoodIn wsX11_heavy (wsV RX11 232 RX2 yX2_beginForetelling wsX2_beginForetelling) := goodIn_app (goodIn_of _ (by decide +kernel)) ggX11_heavy_X2_beginForetelling
set_option maxRecDepth 20000 in
theorem ggX11_heavy_X2_canPass : GoodIn wsX11_heavy wsX2_canPass := goodIn_r _ [27, 12, 28, 29, 30, 31, 32, 33, 34, 5, 35, 177, 178, 179, 180, 181, 182, 183, 184, 185, 186, 187, 188, 189, 190, 191, 192, 193, 194, 195] rfl (by decide +kernel)
set_option maxRecDepth 20000 in
theorem gX11_heavy_X2_canPass : GoodIn wsX11_heavy (wsV RX11 235 RX2 yX2_canPass wsX2_canPass) := goodIn_app (goodIn_of _ (by decide +kernel)) ggX11_heavy_X2_canPass
set_option maxRecDepth 20000 in
theorem ggX11_heavy_X0_allGrief : GoodIn wsX11_heavy wsX0_allGrief := goodIn_r _ [39, 40, 41, 42, 31, 43, 33, 44, 45, 46, 47, 34, 5, 35, 48, 49, 50, 51, 180, 181, 182, 183, 184, 185, 186, 187, 188, 189, 190, 191, 192, 193, 194, 195] rfl (by decide +kernel)
set_option maxRecDepth 20000 in
theorem gX11_heavy_X0_allGrief : GoodIn wsX11_heavy (wsV RX11 244 RX0 yX0_allGrief wsX0_allGrief) := goodIn_app (goodIn_of _ (by decide +kernel)) ggX11_heavy_X0_allGrief
set_option maxRecDepth 20000 in
theorem ggX11_heavy_X2_passes : GoodIn wsX11_heavy wsX2_passes := goodIn_r _ [55, 12, 56, 57, 58, 45, 46, 47, 59, 60, 61, 62, 41, 42, 31, 43, 33, 44, 34, 5, 35, 63, 64, 65, 66, 67, 68, 69, 70, 71, 72, 73, 74, 75, 76, 77, 78, 79, 80, 81, 82, 83, 48, 49, 50, 51, 84, 85, 86, 87, 88, 89, 90, 91, 92, 93, 94, 95, 96, 97, 98, 99, 100, 101, 102, 103, 104, 105, 106, 107, 108, 109, 110, 29, 30, 32, 111, 112, 113, 114, 115, 116, 117, 118, 119, 120, 121, 122, 123, 124, 125, 126, 127, 128, 129, 130, 131, 132, 133, 134, 135, 136, 137, 138, 139, 140, 141, 142, 143, 144, 145, 146, 147, 148, 149, 150, 151, 152, 153, 154, 155, 156, 157, 158, 159, 160, 161, 162, 163, 28, 177, 178, 179, 180, 181, 182, 183, 184, 185, 186, 187, 188, 189, 190, 191, 192, 193, 194, 195, 196, 197, 198, 199, 200, 201, 202, 203] rfl (by decide +kernel)
set_option maxRecDepth 20000 in
theorem gX11_heavy_X2_passes : GoodIn wsX11_heavy (wsV RX11 238 RX2 yX2_passes wsX2_passes) := goodIn_app (goodIn_of _ (by decide +kernel)) ggX11_heavy_X2_passes
set_option maxRecDepth 20000 in
theorem ggX11_heavy_X2_endForetelling : GoodIn wsX11_heavy wsX2_endForetelling := goodIn_r _ [167, 14, 12, 13, 15, 5, 16, 17, 18, 19, 20, 21, 22, 23, 177, 178, 179, 180, 181, 182, 183, 184, 185, 186, 187, 188, 189, 190, 191, 192, 193, 194, 195] rfl (by decide +kernel)
set_option maxRecDepth 20000 in
theorem gX11_heavy_X2_endForetelling : GoodIn wsX11_heavy (wsV RX11 241 RX2 yX2_endForetelling wsX2_endForetelling) := goodIn_app (goodIn_of _ (by decide +kernel)) ggX11_heavy_X2_endForetelling
theorem dX11_heavy_0 : decode cX11_heavy 0 = .ok (.iload_n 1, 1) := by decide +kernel
theorem dX11_heavy_1 : decode cX11_heavy 1 = .ok (.iconst 0, 1) := by decide +kernel
theorem dX11_heavy_2 : decode cX11_heavy 2 = .ok (.sipush 600, 3) := by decide +kernel
theorem dX11_heavy_5 : decode cX11_heavy 5 = .ok (.invokestatic 72, 3) := by decide +kernel
theorem dX11_heavy_8 : decode cX11_heavy 8 = .ok (.ifCond .ne 5, 3) := by decide +kernel
theorem dX11_heavy_11 : decode cX11_heavy 11 = .ok (.iconst (-1), 1) := by decide +kernel
theorem dX11_heavy_12 : decode cX11_heavy 12 = .ok (.ireturn, 1) := by decide +kernel
theorem dX11_heavy_13 : decode cX11_heavy 13 = .ok (.aload_n 0, 1) := by decide +kernel
theorem dX11_heavy_14 : decode cX11_heavy 14 = .ok (.getfield 40, 3) := by decide +kernel
theorem dX11_heavy_17 : decode cX11_heavy 17 = .ok (.invokevirtual 232, 3) := by decide +kernel
theorem dX11_heavy_20 : decode cX11_heavy 20 = .ok (.iconst 0, 1) := by decide +kernel
theorem dX11_heavy_21 : decode cX11_heavy 21 = .ok (.istore_n 2, 1) := by decide +kernel
theorem dX11_heavy_22 : decode cX11_heavy 22 = .ok (.iload_n 2, 1) := by decide +kernel
theorem dX11_heavy_23 : decode cX11_heavy 23 = .ok (.bipush 60, 2) := by decide +kernel
theorem dX11_heavy_25 : decode cX11_heavy 25 = .ok (.if_icmp .ge 37, 3) := by decide +kernel
theorem dX11_heavy_28 : decode cX11_heavy 28 = .ok (.aload_n 0, 1) := by decide +kernel
theorem dX11_heavy_29 : decode cX11_heavy 29 = .ok (.getfield 40, 3) := by decide +kernel
theorem dX11_heavy_32 : decode cX11_heavy 32 = .ok (.invokevirtual 235, 3) := by decide +kernel
theorem dX11_heavy_35 : decode cX11_heavy 35 = .ok (.ifCond .eq 27, 3) := by decide +kernel
theorem dX11_heavy_38 : decode cX11_heavy 38 = .ok (.aload_n 0, 1) := by decide +kernel
theorem dX11_heavy_39 : decode cX11_heavy 39 = .ok (.getfield 10, 3) := by decide +kernel
theorem dX11_heavy_42 : decode cX11_heavy 42 = .ok (.invokevirtual 244, 3) := by decide +kernel
theorem dX11_heavy_45 : decode cX11_heavy 45 = .ok (.iload_n 1, 1) := by decide +kernel
theorem dX11_heavy_46 : decode cX11_heavy 46 = .ok (.if_icmp .ge 16, 3) := by decide +kernel
theorem dX11_heavy_49 : decode cX11_heavy 49 = .ok (.aload_n 0, 1) := by decide +kernel
theorem dX11_heavy_50 : decode cX11_heavy 50 = .ok (.getfield 40, 3) := by decide +kernel
theorem dX11_heavy_53 : decode cX11_heavy 53 = .ok (.invokevirtual 238, 3) := by decide +kernel
theorem dX11_heavy_56 : decode cX11_heavy 56 = .ok (.iinc 2 1, 3) := by decide +kernel
theorem dX11_heavy_59 : decode cX11_heavy 59 = .ok (.goto (-37), 3) := by decide +kernel
theorem dX11_heavy_62 : decode cX11_heavy 62 = .ok (.aload_n 0, 1) := by decide +kernel
theorem dX11_heavy_63 : decode cX11_heavy 63 = .ok (.getfield 10, 3) := by decide +kernel
theorem dX11_heavy_66 : decode cX11_heavy 66 = .ok (.invokevirtual 244, 3) := by decide +kernel
theorem dX11_heavy_69 : decode cX11_heavy 69 = .ok (.iload_n 1, 1) := by decide +kernel
theorem dX11_heavy_70 : decode cX11_heavy 70 = .ok (.if_icmp .lt 7, 3) := by decide +kernel
theorem dX11_heavy_73 : decode cX11_heavy 73 = .ok (.iload_n 2, 1) := by decide +kernel
theorem dX11_heavy_74 : decode cX11_heavy 74 = .ok (.goto 4, 3) := by decide +kernel
theorem dX11_heavy_77 : decode cX11_heavy 77 = .ok (.iconst (-1), 1) := by decide +kernel
theorem dX11_heavy_78 : decode cX11_heavy 78 = .ok (.istore_n 3, 1) := by decide +kernel
theorem dX11_heavy_79 : decode cX11_heavy 79 = .ok (.aload_n 0, 1) := by decide +kernel
theorem dX11_heavy_80 : decode cX11_heavy 80 = .ok (.getfield 40, 3) := by decide +kernel
theorem dX11_heavy_83 : decode cX11_heavy 83 = .ok (.invokevirtual 241, 3) := by decide +kernel
theorem dX11_heavy_86 : decode cX11_heavy 86 = .ok (.iload_n 3, 1) := by decide +kernel
theorem dX11_heavy_87 : decode cX11_heavy 87 = .ok (.ireturn, 1) := by decide +kernel
set_option maxRecDepth 20000 in
theorem ggX11_told_X11_isFall : GoodIn wsX11_told wsX11_isFall := goodIn_r _ [5, 6, 7, 4, 8] rfl (by decide +kernel)
set_option maxRecDepth 20000 in
theorem gX11_told_X11_isFall : GoodIn wsX11_told (va_wsS RX11 83 yX11_isFall wsX11_isFall) := goodIn_app (goodIn_of _ (by decide +kernel)) ggX11_told_X11_isFall
set_option maxRecDepth 20000 in
theorem ggX11_told_X11_isMood : GoodIn wsX11_told wsX11_isMood := goodIn_r _ [11, 6, 7, 4, 8] rfl (by decide +kernel)
set_option maxRecDepth 20000 in
theorem gX11_told_X11_isMood : GoodIn wsX11_told (va_wsS RX11 87 yX11_isMood wsX11_isMood) := goodIn_app (goodIn_of _ (by decide +kernel)) ggX11_told_X11_isMood
set_option maxRecDepth 20000 in
theorem ggX11_told_X0_turned : GoodIn wsX11_told wsX0_turned := goodIn_r _ [16, 17, 18, 4, 19, 29, 30, 31, 32, 33, 34, 35, 36, 37, 38, 39, 40, 41, 42, 43, 44] rfl (by decide +kernel)
set_option maxRecDepth 20000 in
theorem gX11_told_X0_turned : GoodIn wsX11_told (wsV RX11 247 RX0 yX0_turned wsX0_turned) := goodIn_app (goodIn_of _ (by decide +kernel)) ggX11_told_X0_turned
theorem dX11_told_0 : decode cX11_told 0 = .ok (.iload_n 1, 1) := by decide +kernel
theorem dX11_told_1 : decode cX11_told 1 = .ok (.invokestatic 83, 3) := by decide +kernel
theorem dX11_told_4 : decode cX11_told 4 = .ok (.ifCond .eq 22, 3) := by decide +kernel
theorem dX11_told_7 : decode cX11_told 7 = .ok (.iload_n 2, 1) := by decide +kernel
theorem dX11_told_8 : decode cX11_told 8 = .ok (.invokestatic 87, 3) := by decide +kernel
theorem dX11_told_11 : decode cX11_told 11 = .ok (.ifCond .eq 15, 3) := by decide +kernel
theorem dX11_told_14 : decode cX11_told 14 = .ok (.aload_n 0, 1) := by decide +kernel
theorem dX11_told_15 : decode cX11_told 15 = .ok (.getfield 10, 3) := by decide +kernel
theorem dX11_told_18 : decode cX11_told 18 = .ok (.iload_n 1, 1) := by decide +kernel
theorem dX11_told_19 : decode cX11_told 19 = .ok (.iload_n 2, 1) := by decide +kernel
theorem dX11_told_20 : decode cX11_told 20 = .ok (.invokevirtual 247, 3) := by decide +kernel
theorem dX11_told_23 : decode cX11_told 23 = .ok (.goto 4, 3) := by decide +kernel
theorem dX11_told_26 : decode cX11_told 26 = .ok (.iconst (-1), 1) := by decide +kernel
theorem dX11_told_27 : decode cX11_told 27 = .ok (.ireturn, 1) := by decide +kernel
set_option maxRecDepth 20000 in
theorem ggX11_order_X0_hasHouse : GoodIn wsX11_order wsX0_hasHouse := goodIn_r _ [8, 9, 10, 11, 12, 204, 205, 206, 207, 208, 209, 210, 211, 212, 213, 214, 215, 216, 217, 218, 219] rfl (by decide +kernel)
set_option maxRecDepth 20000 in
theorem gX11_order_X0_hasHouse : GoodIn wsX11_order (wsV RX11 197 RX0 yX0_hasHouse wsX0_hasHouse) := goodIn_app (goodIn_of _ (by decide +kernel)) ggX11_order_X0_hasHouse
set_option maxRecDepth 20000 in
theorem ggX11_order_X0_see : GoodIn wsX11_order wsX0_see := goodIn_r _ [16, 9, 10, 11, 12, 204, 205, 206, 207, 208, 209, 210, 211, 212, 213, 214, 215, 216, 217, 218, 219] rfl (by decide +kernel)
set_option maxRecDepth 20000 in
theorem gX11_order_X0_see : GoodIn wsX11_order (wsV RX11 157 RX0 yX0_see wsX0_see) := goodIn_app (goodIn_of _ (by decide +kernel)) ggX11_order_X0_see
set_option maxRecDepth 20000 in
theorem ggX11_order_X5_fromMood : GoodIn wsX11_order wsX5_fromMood := goodIn_r _ [21, 22, 220, 221] rfl (by decide +kernel)
set_option maxRecDepth 20000 in
theorem gX11_order_X5_fromMood : GoodIn wsX11_order (wsV RX11 250 RX5 yX5_fromMood wsX5_fromMood) := goodIn_app (goodIn_of _ (by decide +kernel)) ggX11_order_X5_fromMood
set_option maxRecDepth 20000 in
theorem ggX11_order_X7_find : GoodIn wsX11_order wsX7_find := goodIn_r _ [27, 28, 29, 30, 31, 32, 33, 34, 35, 36, 37, 38, 39, 40, 41, 42, 43, 44, 45, 46, 47, 48, 20, 49, 22, 50, 51, 52, 53, 54, 55, 56, 57, 58, 59, 60, 61, 62, 63, 64, 65, 66, 67, 68, 69, 70, 71, 72, 73, 74, 75, 76, 77, 78, 79, 80, 81, 82, 83, 84, 85, 86, 87, 88, 89, 7, 90, 9, 91, 11, 92, 93, 94, 95, 96, 97, 98, 99, 100, 101, 102, 103, 104, 105, 106, 107, 108, 109, 110, 111, 112, 113, 114, 115, 116, 10, 12, 117, 118, 119, 120, 121, 14, 15, 16, 122, 123, 124, 125, 126, 127, 128, 129, 130, 131, 132, 133, 134, 135, 136, 137, 138, 139, 140, 141, 142, 143, 144, 145, 146, 147, 148, 149, 150, 151, 152, 153, 154, 155, 156, 157, 158, 159, 160, 161, 162, 163, 164, 165, 166, 167, 168, 169, 170, 171, 172, 173, 174, 175, 176, 177, 178, 179, 180, 181, 182, 183, 184, 185, 186, 187, 188, 189, 26, 190, 222, 223, 224, 225, 226, 227, 228, 229, 230, 231, 232, 233, 220, 221, 204, 205, 206, 207, 208, 209, 210, 211, 212, 213, 214, 215, 216, 217, 218, 219, 234, 235, 236, 237, 238, 239, 240, 241] rfl (by decide +kernel)
set_option maxRecDepth 20000 in
theorem gX11_order_X7_find : GoodIn wsX11_order (wsV RX11 253 RX7 yX7_find wsX7_find) := goodIn_app (goodIn_of _ (by decide +kernel)) ggX11_order_X7_find
set_option maxRecDepth 20000 in
theorem ggX11_order_X7_answer : GoodIn wsX11_order wsX7_answer := goodIn_r _ [194, 28, 29, 34, 222, 223, 224, 225, 226, 227] rfl (by decide +kernel)
set_option maxRecDepth 20000 in
theorem gX11_order_X7_answer : GoodIn wsX11_order (wsV RX11 257 RX7 yX7_answer wsX7_answer) := goodIn_app (goodIn_of _ (by decide +kernel)) ggX11_order_X7_answer
theorem dX11_order_0 : decode cX11_order 0 = .ok (.aload_n 0, 1) := by decide +kernel
theorem dX11_order_1 : decode cX11_order 1 = .ok (.getfield 10, 3) := by decide +kernel
theorem dX11_order_4 : decode cX11_order 4 = .ok (.iload_n 1, 1) := by decide +kernel
theorem dX11_order_5 : decode cX11_order 5 = .ok (.invokevirtual 197, 3) := by decide +kernel
theorem dX11_order_8 : decode cX11_order 8 = .ok (.ifCond .ne 6, 3) := by decide +kernel
theorem dX11_order_11 : decode cX11_order 11 = .ok (.bipush (-2), 2) := by decide +kernel
theorem dX11_order_13 : decode cX11_order 13 = .ok (.ireturn, 1) := by decide +kernel
theorem dX11_order_14 : decode cX11_order 14 = .ok (.aload_n 0, 1) := by decide +kernel
theorem dX11_order_15 : decode cX11_order 15 = .ok (.getfield 47, 3) := by decide +kernel
theorem dX11_order_18 : decode cX11_order 18 = .ok (.aload_n 0, 1) := by decide +kernel
theorem dX11_order_19 : decode cX11_order 19 = .ok (.getfield 54, 3) := by decide +kernel
theorem dX11_order_22 : decode cX11_order 22 = .ok (.aload_n 0, 1) := by decide +kernel
theorem dX11_order_23 : decode cX11_order 23 = .ok (.getfield 54, 3) := by decide +kernel
theorem dX11_order_26 : decode cX11_order 26 = .ok (.aload_n 0, 1) := by decide +kernel
theorem dX11_order_27 : decode cX11_order 27 = .ok (.getfield 10, 3) := by decide +kernel
theorem dX11_order_30 : decode cX11_order 30 = .ok (.bipush 6, 2) := by decide +kernel
theorem dX11_order_32 : decode cX11_order 32 = .ok (.iload_n 1, 1) := by decide +kernel
theorem dX11_order_33 : decode cX11_order 33 = .ok (.invokevirtual 157, 3) := by decide +kernel
theorem dX11_order_36 : decode cX11_order 36 = .ok (.invokevirtual 250, 3) := by decide +kernel
theorem dX11_order_39 : decode cX11_order 39 = .ok (.bipush 9, 2) := by decide +kernel
theorem dX11_order_41 : decode cX11_order 41 = .ok (.invokevirtual 253, 3) := by decide +kernel
theorem dX11_order_44 : decode cX11_order 44 = .ok (.aload_n 0, 1) := by decide +kernel
theorem dX11_order_45 : decode cX11_order 45 = .ok (.getfield 47, 3) := by decide +kernel
theorem dX11_order_48 : decode cX11_order 48 = .ok (.iload_n 2, 1) := by decide +kernel
theorem dX11_order_49 : decode cX11_order 49 = .ok (.invokevirtual 257, 3) := by decide +kernel
theorem dX11_order_52 : decode cX11_order 52 = .ok (.ireturn, 1) := by decide +kernel
set_option maxRecDepth 20000 in
theorem ggX11_all_X5_fromEveryMood : GoodIn wsX11_all wsX5_fromEveryMood := goodIn_r _ [7, 8, 198, 199] rfl (by decide +kernel)
set_option maxRecDepth 20000 in
theorem gX11_all_X5_fromEveryMood : GoodIn wsX11_all (wsV RX11 260 RX5 yX5_fromEveryMood wsX5_fromEveryMood) := goodIn_app (goodIn_of _ (by decide +kernel)) ggX11_all_X5_fromEveryMood
set_option maxRecDepth 20000 in
theorem ggX11_all_X7_find : GoodIn wsX11_all wsX7_find := goodIn_r _ [13, 14, 15, 16, 17, 18, 19, 20, 21, 22, 23, 24, 25, 26, 27, 28, 29, 30, 31, 32, 33, 34, 6, 35, 8, 36, 37, 38, 39, 40, 41, 42, 43, 44, 45, 46, 47, 48, 49, 50, 51, 52, 53, 54, 55, 56, 57, 58, 59, 60, 61, 62, 63, 64, 65, 66, 67, 68, 69, 70, 71, 72, 73, 74, 75, 76, 77, 78, 79, 80, 81, 82, 83, 84, 85, 86, 87, 88, 89, 90, 91, 92, 93, 94, 95, 96, 97, 98, 99, 100, 101, 102, 103, 104, 105, 106, 107, 108, 109, 110, 111, 112, 113, 114, 115, 116, 117, 118, 119, 120, 121, 122, 123, 124, 125, 126, 127, 128, 129, 130, 131, 132, 133, 134, 135, 136, 137, 138, 139, 140, 141, 142, 143, 144, 145, 146, 147, 148, 149, 150, 151, 152, 153, 154, 155, 156, 157, 158, 159, 160, 161, 162, 163, 164, 165, 166, 167, 168, 169, 170, 171, 172, 173, 174, 175, 176, 177, 178, 179, 180, 181, 182, 183, 12, 184, 200, 201, 202, 203, 204, 205, 206, 207, 208, 209, 210, 211, 198, 199, 212, 213, 214, 215, 216, 217, 218, 219, 220, 221, 222, 223, 224, 225, 226, 227, 228, 229, 230, 231, 232, 233, 234, 235] rfl (by decide +kernel)
set_option maxRecDepth 20000 in
theorem gX11_all_X7_find : GoodIn wsX11_all (wsV RX11 253 RX7 yX7_find wsX7_find) := goodIn_app (goodIn_of _ (by decide +kernel)) ggX11_all_X7_find
set_option maxRecDepth 20000 in
theorem ggX11_all_X7_answer : GoodIn wsX11_all wsX7_answer := goodIn_r _ [188, 14, 15, 20, 200, 201, 202, 203, 204, 205] rfl (by decide +kernel)
set_option maxRecDepth 20000 in
theorem gX11_all_X7_answer : GoodIn wsX11_all (wsV RX11 257 RX7 yX7_answer wsX7_answer) := goodIn_app (goodIn_of _ (by decide +kernel)) ggX11_all_X7_answer
theorem dX11_all_0 : decode cX11_all 0 = .ok (.aload_n 0, 1) := by decide +kernel
theorem dX11_all_1 : decode cX11_all 1 = .ok (.getfield 47, 3) := by decide +kernel
theorem dX11_all_4 : decode cX11_all 4 = .ok (.aload_n 0, 1) := by decide +kernel
theorem dX11_all_5 : decode cX11_all 5 = .ok (.getfield 54, 3) := by decide +kernel
theorem dX11_all_8 : decode cX11_all 8 = .ok (.aload_n 0, 1) := by decide +kernel
theorem dX11_all_9 : decode cX11_all 9 = .ok (.getfield 54, 3) := by decide +kernel
theorem dX11_all_12 : decode cX11_all 12 = .ok (.invokevirtual 260, 3) := by decide +kernel
theorem dX11_all_15 : decode cX11_all 15 = .ok (.bipush 20, 2) := by decide +kernel
theorem dX11_all_17 : decode cX11_all 17 = .ok (.invokevirtual 253, 3) := by decide +kernel
theorem dX11_all_20 : decode cX11_all 20 = .ok (.aload_n 0, 1) := by decide +kernel
theorem dX11_all_21 : decode cX11_all 21 = .ok (.getfield 47, 3) := by decide +kernel
theorem dX11_all_24 : decode cX11_all 24 = .ok (.iload_n 1, 1) := by decide +kernel
theorem dX11_all_25 : decode cX11_all 25 = .ok (.invokevirtual 257, 3) := by decide +kernel
theorem dX11_all_28 : decode cX11_all 28 = .ok (.ireturn, 1) := by decide +kernel
set_option maxRecDepth 20000 in
theorem ggX11_comfort_X0_isOut : GoodIn wsX11_comfort wsX0_isOut := goodIn_r _ [9, 10, 11, 12, 8, 13, 14, 15, 16, 17, 18, 19, 20, 21, 223, 224, 225, 226, 227, 228, 229, 230, 231, 232, 233, 234, 235, 236, 237, 238] rfl (by decide +kernel)
set_option maxRecDepth 20000 in
theorem gX11_comfort_X0_isOut : GoodIn wsX11_comfort (wsV RX11 223 RX0 yX0_isOut wsX0_isOut) := goodIn_app (goodIn_of _ (by decide +kernel)) ggX11_comfort_X0_isOut
set_option maxRecDepth 20000 in
theorem ggX11_comfort_X11_within : GoodIn wsX11_comfort wsX11_within := goodIn_r _ [24] rfl (by decide +kernel)
set_option maxRecDepth 20000 in
theorem gX11_comfort_X11_within : GoodIn wsX11_comfort (va_wsS RX11 72 yX11_within wsX11_within) := goodIn_app (goodIn_of _ (by decide +kernel)) ggX11_comfort_X11_within
set_option maxRecDepth 20000 in
theorem ggX11_comfort_X1_begin : GoodIn wsX11_comfort wsX1_begin := goodIn_r _ [29, 30, 31, 32, 33, 34, 35, 19, 20, 8, 21, 14, 15, 16, 17, 217, 218, 219, 220, 221, 222, 223, 224, 225, 226, 227, 228, 229, 230, 231, 232, 233, 234, 235, 236, 237, 238] rfl (by decide +kernel)
set_option maxRecDepth 20000 in
theorem gX11_comfort_X1_begin : GoodIn wsX11_comfort (wsV RX11 263 RX1 yX1_begin wsX1_begin) := goodIn_app (goodIn_of _ (by decide +kernel)) ggX11_comfort_X1_begin
set_option maxRecDepth 20000 in
theorem ggX11_comfort_X7_find : GoodIn wsX11_comfort wsX7_find := goodIn_r _ [40, 41, 42, 43, 44, 45, 46, 47, 48, 49, 50, 51, 52, 53, 54, 55, 56, 28, 57, 34, 58, 59, 60, 61, 62, 63, 64, 65, 66, 67, 68, 69, 70, 71, 72, 73, 74, 75, 76, 77, 78, 79, 80, 81, 82, 83, 84, 85, 86, 33, 87, 30, 88, 89, 90, 91, 31, 92, 93, 94, 95, 32, 96, 97, 98, 8, 99, 14, 100, 16, 101, 102, 103, 104, 105, 106, 107, 108, 109, 110, 111, 112, 113, 114, 115, 116, 117, 118, 119, 120, 121, 122, 123, 124, 125, 15, 17, 126, 127, 128, 129, 130, 19, 20, 21, 131, 132, 133, 134, 135, 136, 137, 138, 139, 140, 141, 142, 143, 144, 145, 146, 147, 148, 149, 150, 151, 152, 153, 154, 155, 156, 157, 158, 159, 160, 161, 162, 163, 164, 165, 166, 167, 168, 169, 170, 171, 172, 173, 174, 175, 176, 177, 178, 179, 180, 181, 182, 183, 184, 185, 186, 187, 188, 189, 190, 191, 192, 193, 194, 195, 196, 197, 198, 39, 199, 239, 240, 241, 242, 243, 244, 217, 218, 219, 220, 221, 222, 245, 246, 223, 224, 225, 226, 227, 228, 229, 230, 231, 232, 233, 234, 235, 236, 237, 238, 247, 248, 249, 250, 251, 252, 253, 254] rfl (by decide +kernel)
set_option maxRecDepth 20000 in
theorem gX11_comfort_X7_find : GoodIn wsX11_comfort (wsV RX11 253 RX7 yX7_find wsX7_find) := goodIn_app (goodIn_of _ (by decide +kernel)) ggX11_comfort_X7_find
set_option maxRecDepth 20000 in
theorem ggX11_comfort_X1_leaveAsItWas : GoodIn wsX11_comfort wsX1_leaveAsItWas := goodIn_r _ [203, 33, 92, 93, 94, 28, 95, 31, 32, 30, 96, 97, 98, 8, 99, 14, 100, 16, 101, 217, 218, 219, 220, 221, 222, 223, 224, 225, 226, 227, 228, 229, 230, 231, 232, 233, 234, 235, 236, 237, 238] rfl (by decide +kernel)
set_option maxRecDepth 20000 in
theorem gX11_comfort_X1_leaveAsItWas : GoodIn wsX11_comfort (wsV RX11 269 RX1 yX1_leaveAsItWas wsX1_leaveAsItWas) := goodIn_app (goodIn_of _ (by decide +kernel)) ggX11_comfort_X1_leaveAsItWas
set_option maxRecDepth 20000 in
theorem ggX11_comfort_X7_answer : GoodIn wsX11_comfort wsX7_answer := goodIn_r _ [207, 41, 42, 47, 239, 240, 241, 242, 243, 244] rfl (by decide +kernel)
set_option maxRecDepth 20000 in
theorem gX11_comfort_X7_answer : GoodIn wsX11_comfort (wsV RX11 257 RX7 yX7_answer wsX7_answer) := goodIn_app (goodIn_of _ (by decide +kernel)) ggX11_comfort_X7_answer
theorem dX11_comfort_0 : decode cX11_comfort 0 = .ok (.aload_n 0, 1) := by decide +kernel
theorem dX11_comfort_1 : decode cX11_comfort 1 = .ok (.getfield 10, 3) := by decide +kernel
theorem dX11_comfort_4 : decode cX11_comfort 4 = .ok (.iload_n 1, 1) := by decide +kernel
theorem dX11_comfort_5 : decode cX11_comfort 5 = .ok (.invokevirtual 223, 3) := by decide +kernel
theorem dX11_comfort_8 : decode cX11_comfort 8 = .ok (.ifCond .eq 13, 3) := by decide +kernel
theorem dX11_comfort_11 : decode cX11_comfort 11 = .ok (.iload_n 2, 1) := by decide +kernel
theorem dX11_comfort_12 : decode cX11_comfort 12 = .ok (.iconst 0, 1) := by decide +kernel
theorem dX11_comfort_13 : decode cX11_comfort 13 = .ok (.bipush 99, 2) := by decide +kernel
theorem dX11_comfort_15 : decode cX11_comfort 15 = .ok (.invokestatic 72, 3) := by decide +kernel
theorem dX11_comfort_18 : decode cX11_comfort 18 = .ok (.ifCond .ne 6, 3) := by decide +kernel
theorem dX11_comfort_21 : decode cX11_comfort 21 = .ok (.bipush (-2), 2) := by decide +kernel
theorem dX11_comfort_23 : decode cX11_comfort 23 = .ok (.ireturn, 1) := by decide +kernel
theorem dX11_comfort_24 : decode cX11_comfort 24 = .ok (.aload_n 0, 1) := by decide +kernel
theorem dX11_comfort_25 : decode cX11_comfort 25 = .ok (.getfield 61, 3) := by decide +kernel
theorem dX11_comfort_28 : decode cX11_comfort 28 = .ok (.iload_n 1, 1) := by decide +kernel
theorem dX11_comfort_29 : decode cX11_comfort 29 = .ok (.iload_n 2, 1) := by decide +kernel
theorem dX11_comfort_30 : decode cX11_comfort 30 = .ok (.invokevirtual 263, 3) := by decide +kernel
theorem dX11_comfort_33 : decode cX11_comfort 33 = .ok (.istore 4, 2) := by decide +kernel
theorem dX11_comfort_35 : decode cX11_comfort 35 = .ok (.aload_n 0, 1) := by decide +kernel
theorem dX11_comfort_36 : decode cX11_comfort 36 = .ok (.getfield 47, 3) := by decide +kernel
theorem dX11_comfort_39 : decode cX11_comfort 39 = .ok (.aload_n 0, 1) := by decide +kernel
theorem dX11_comfort_40 : decode cX11_comfort 40 = .ok (.getfield 61, 3) := by decide +kernel
theorem dX11_comfort_43 : decode cX11_comfort 43 = .ok (.iload 4, 2) := by decide +kernel
theorem dX11_comfort_45 : decode cX11_comfort 45 = .ok (.bipush 9, 2) := by decide +kernel
theorem dX11_comfort_47 : decode cX11_comfort 47 = .ok (.aload_n 0, 1) := by decide +kernel
theorem dX11_comfort_48 : decode cX11_comfort 48 = .ok (.getfield 61, 3) := by decide +kernel
theorem dX11_comfort_51 : decode cX11_comfort 51 = .ok (.getfield 266, 3) := by decide +kernel
theorem dX11_comfort_54 : decode cX11_comfort 54 = .ok (.isub, 1) := by decide +kernel
theorem dX11_comfort_55 : decode cX11_comfort 55 = .ok (.invokevirtual 253, 3) := by decide +kernel
theorem dX11_comfort_58 : decode cX11_comfort 58 = .ok (.aload_n 0, 1) := by decide +kernel
theorem dX11_comfort_59 : decode cX11_comfort 59 = .ok (.getfield 61, 3) := by decide +kernel
theorem dX11_comfort_62 : decode cX11_comfort 62 = .ok (.iload 4, 2) := by decide +kernel
theorem dX11_comfort_64 : decode cX11_comfort 64 = .ok (.invokevirtual 269, 3) := by decide +kernel
theorem dX11_comfort_67 : decode cX11_comfort 67 = .ok (.aload_n 0, 1) := by decide +kernel
theorem dX11_comfort_68 : decode cX11_comfort 68 = .ok (.getfield 47, 3) := by decide +kernel
theorem dX11_comfort_71 : decode cX11_comfort 71 = .ok (.iload_n 3, 1) := by decide +kernel
theorem dX11_comfort_72 : decode cX11_comfort 72 = .ok (.invokevirtual 257, 3) := by decide +kernel
theorem dX11_comfort_75 : decode cX11_comfort 75 = .ok (.ireturn, 1) := by decide +kernel
set_option maxRecDepth 20000 in
theorem ggX11_ring_X11_isFall : GoodIn wsX11_ring wsX11_isFall := goodIn_r _ [5, 6, 7, 4, 8] rfl (by decide +kernel)
set_option maxRecDepth 20000 in
theorem gX11_ring_X11_isFall : GoodIn wsX11_ring (va_wsS RX11 83 yX11_isFall wsX11_isFall) := goodIn_app (goodIn_of _ (by decide +kernel)) ggX11_ring_X11_isFall
set_option maxRecDepth 20000 in
theorem ggX11_ring_X0_turnedSet : GoodIn wsX11_ring wsX0_turnedSet := goodIn_r _ [13, 14, 15, 16, 12, 17, 18, 19, 4, 20, 30, 31, 32, 33, 34, 35, 36, 37, 38, 39, 40, 41, 42, 43, 44, 45] rfl (by decide +kernel)
set_option maxRecDepth 20000 in
theorem gX11_ring_X0_turnedSet : GoodIn wsX11_ring (wsV RX11 272 RX0 yX0_turnedSet wsX0_turnedSet) := goodIn_app (goodIn_of _ (by decide +kernel)) ggX11_ring_X0_turnedSet
theorem dX11_ring_0 : decode cX11_ring 0 = .ok (.iload_n 1, 1) := by decide +kernel
theorem dX11_ring_1 : decode cX11_ring 1 = .ok (.invokestatic 83, 3) := by decide +kernel
theorem dX11_ring_4 : decode cX11_ring 4 = .ok (.ifCond .ne 5, 3) := by decide +kernel
theorem dX11_ring_7 : decode cX11_ring 7 = .ok (.iconst (-1), 1) := by decide +kernel
theorem dX11_ring_8 : decode cX11_ring 8 = .ok (.ireturn, 1) := by decide +kernel
theorem dX11_ring_9 : decode cX11_ring 9 = .ok (.sipush 1023, 3) := by decide +kernel
theorem dX11_ring_12 : decode cX11_ring 12 = .ok (.istore_n 2, 1) := by decide +kernel
theorem dX11_ring_13 : decode cX11_ring 13 = .ok (.iconst 0, 1) := by decide +kernel
theorem dX11_ring_14 : decode cX11_ring 14 = .ok (.istore_n 3, 1) := by decide +kernel
theorem dX11_ring_15 : decode cX11_ring 15 = .ok (.iload_n 3, 1) := by decide +kernel
theorem dX11_ring_16 : decode cX11_ring 16 = .ok (.bipush 10, 2) := by decide +kernel
theorem dX11_ring_18 : decode cX11_ring 18 = .ok (.if_icmp .ge 19, 3) := by decide +kernel
theorem dX11_ring_21 : decode cX11_ring 21 = .ok (.aload_n 0, 1) := by decide +kernel
theorem dX11_ring_22 : decode cX11_ring 22 = .ok (.getfield 10, 3) := by decide +kernel
theorem dX11_ring_25 : decode cX11_ring 25 = .ok (.iload_n 1, 1) := by decide +kernel
theorem dX11_ring_26 : decode cX11_ring 26 = .ok (.iload_n 2, 1) := by decide +kernel
theorem dX11_ring_27 : decode cX11_ring 27 = .ok (.invokevirtual 272, 3) := by decide +kernel
theorem dX11_ring_30 : decode cX11_ring 30 = .ok (.istore_n 2, 1) := by decide +kernel
theorem dX11_ring_31 : decode cX11_ring 31 = .ok (.iinc 3 1, 3) := by decide +kernel
theorem dX11_ring_34 : decode cX11_ring 34 = .ok (.goto (-19), 3) := by decide +kernel
theorem dX11_ring_37 : decode cX11_ring 37 = .ok (.iload_n 2, 1) := by decide +kernel
theorem dX11_ring_38 : decode cX11_ring 38 = .ok (.ireturn, 1) := by decide +kernel
set_option maxRecDepth 20000 in
theorem ggX11_cost_X11_within : GoodIn wsX11_cost wsX11_within := goodIn_r _ [6] rfl (by decide +kernel)
set_option maxRecDepth 20000 in
theorem gX11_cost_X11_within : GoodIn wsX11_cost (va_wsS RX11 72 yX11_within wsX11_within) := goodIn_app (goodIn_of _ (by decide +kernel)) ggX11_cost_X11_within
set_option maxRecDepth 20000 in
theorem ggX11_cost_X11_put : GoodIn wsX11_cost wsX11_put := goodIn_r _ [9] rfl (by decide +kernel)
set_option maxRecDepth 20000 in
theorem gX11_cost_X11_put : GoodIn wsX11_cost (va_wsS RX11 94 yX11_put wsX11_put) := goodIn_app (goodIn_of _ (by decide +kernel)) ggX11_cost_X11_put
theorem dX11_cost_0 : decode cX11_cost 0 = .ok (.iload_n 1, 1) := by decide +kernel
theorem dX11_cost_1 : decode cX11_cost 1 = .ok (.iconst 0, 1) := by decide +kernel
theorem dX11_cost_2 : decode cX11_cost 2 = .ok (.iconst 4, 1) := by decide +kernel
theorem dX11_cost_3 : decode cX11_cost 3 = .ok (.invokestatic 72, 3) := by decide +kernel
theorem dX11_cost_6 : decode cX11_cost 6 = .ok (.ifCond .eq 22, 3) := by decide +kernel
theorem dX11_cost_9 : decode cX11_cost 9 = .ok (.iload_n 2, 1) := by decide +kernel
theorem dX11_cost_10 : decode cX11_cost 10 = .ok (.iconst 0, 1) := by decide +kernel
theorem dX11_cost_11 : decode cX11_cost 11 = .ok (.iconst 5, 1) := by decide +kernel
theorem dX11_cost_12 : decode cX11_cost 12 = .ok (.invokestatic 72, 3) := by decide +kernel
theorem dX11_cost_15 : decode cX11_cost 15 = .ok (.ifCond .eq 13, 3) := by decide +kernel
theorem dX11_cost_18 : decode cX11_cost 18 = .ok (.iload_n 3, 1) := by decide +kernel
theorem dX11_cost_19 : decode cX11_cost 19 = .ok (.iconst 0, 1) := by decide +kernel
theorem dX11_cost_20 : decode cX11_cost 20 = .ok (.bipush 99, 2) := by decide +kernel
theorem dX11_cost_22 : decode cX11_cost 22 = .ok (.invokestatic 72, 3) := by decide +kernel
theorem dX11_cost_25 : decode cX11_cost 25 = .ok (.ifCond .ne 5, 3) := by decide +kernel
theorem dX11_cost_28 : decode cX11_cost 28 = .ok (.iconst 0, 1) := by decide +kernel
theorem dX11_cost_29 : decode cX11_cost 29 = .ok (.ireturn, 1) := by decide +kernel
theorem dX11_cost_30 : decode cX11_cost 30 = .ok (.aload_n 0, 1) := by decide +kernel
theorem dX11_cost_31 : decode cX11_cost 31 = .ok (.getfield 10, 3) := by decide +kernel
theorem dX11_cost_34 : decode cX11_cost 34 = .ok (.getfield 275, 3) := by decide +kernel
theorem dX11_cost_37 : decode cX11_cost 37 = .ok (.iload_n 1, 1) := by decide +kernel
theorem dX11_cost_38 : decode cX11_cost 38 = .ok (.bipush 6, 2) := by decide +kernel
theorem dX11_cost_40 : decode cX11_cost 40 = .ok (.imul, 1) := by decide +kernel
theorem dX11_cost_41 : decode cX11_cost 41 = .ok (.iload_n 2, 1) := by decide +kernel
theorem dX11_cost_42 : decode cX11_cost 42 = .ok (.iadd, 1) := by decide +kernel
theorem dX11_cost_43 : decode cX11_cost 43 = .ok (.iload_n 3, 1) := by decide +kernel
theorem dX11_cost_44 : decode cX11_cost 44 = .ok (.invokestatic 94, 3) := by decide +kernel
theorem dX11_cost_47 : decode cX11_cost 47 = .ok (.iconst 1, 1) := by decide +kernel
theorem dX11_cost_48 : decode cX11_cost 48 = .ok (.ireturn, 1) := by decide +kernel
set_option maxRecDepth 20000 in
theorem ggX11_matched_X0_hasClown : GoodIn wsX11_matched wsX0_hasClown := goodIn_r _ [9, 10, 11, 12, 13, 68, 69, 70, 71, 72, 73, 74, 75, 76, 77, 78, 79, 80, 81, 82, 83] rfl (by decide +kernel)
set_option maxRecDepth 20000 in
theorem gX11_matched_X0_hasClown : GoodIn wsX11_matched (wsV RX11 214 RX0 yX0_hasClown wsX0_hasClown) := goodIn_app (goodIn_of _ (by decide +kernel)) ggX11_matched_X0_hasClown
set_option maxRecDepth 20000 in
theorem ggX11_matched_X4_find : GoodIn wsX11_matched wsX4_find := goodIn_r _ [18, 19, 20, 21, 22, 23, 24, 25, 26, 27, 8, 28, 10, 29, 30, 31, 11, 12, 13, 32, 33, 34, 35, 36, 37, 38, 17, 39, 40, 41, 42, 43, 44, 45, 46, 47, 48, 49, 50, 51, 52, 53, 64, 65, 66, 67, 68, 69, 70, 71, 72, 73, 74, 75, 76, 77, 78, 79, 80, 81, 82, 83] rfl (by decide +kernel)
set_option maxRecDepth 20000 in
theorem gX11_matched_X4_find : GoodIn wsX11_matched (wsV RX11 278 RX4 yX4_find wsX4_find) := goodIn_app (goodIn_of _ (by decide +kernel)) ggX11_matched_X4_find
set_option maxRecDepth 20000 in
theorem ggX11_matched_X11_at : GoodIn wsX11_matched wsX11_at := goodIn_r _ [13] rfl (by decide +kernel)
set_option maxRecDepth 20000 in
theorem gX11_matched_X11_at : GoodIn wsX11_matched (va_wsS RX11 203 yX11_at wsX11_at) := goodIn_app (goodIn_of _ (by decide +kernel)) ggX11_matched_X11_at
theorem dX11_matched_0 : decode cX11_matched 0 = .ok (.iload_n 1, 1) := by decide +kernel
theorem dX11_matched_1 : decode cX11_matched 1 = .ok (.iconst (-1), 1) := by decide +kernel
theorem dX11_matched_2 : decode cX11_matched 2 = .ok (.if_icmp .eq 17, 3) := by decide +kernel
theorem dX11_matched_5 : decode cX11_matched 5 = .ok (.aload_n 0, 1) := by decide +kernel
theorem dX11_matched_6 : decode cX11_matched 6 = .ok (.getfield 10, 3) := by decide +kernel
theorem dX11_matched_9 : decode cX11_matched 9 = .ok (.iload_n 1, 1) := by decide +kernel
theorem dX11_matched_10 : decode cX11_matched 10 = .ok (.invokevirtual 214, 3) := by decide +kernel
theorem dX11_matched_13 : decode cX11_matched 13 = .ok (.ifCond .ne 6, 3) := by decide +kernel
theorem dX11_matched_16 : decode cX11_matched 16 = .ok (.bipush (-2), 2) := by decide +kernel
theorem dX11_matched_18 : decode cX11_matched 18 = .ok (.ireturn, 1) := by decide +kernel
theorem dX11_matched_19 : decode cX11_matched 19 = .ok (.aload_n 0, 1) := by decide +kernel
theorem dX11_matched_20 : decode cX11_matched 20 = .ok (.getfield 68, 3) := by decide +kernel
theorem dX11_matched_23 : decode cX11_matched 23 = .ok (.invokevirtual 278, 3) := by decide +kernel
theorem dX11_matched_26 : decode cX11_matched 26 = .ok (.iload_n 1, 1) := by decide +kernel
theorem dX11_matched_27 : decode cX11_matched 27 = .ok (.iconst (-1), 1) := by decide +kernel
theorem dX11_matched_28 : decode cX11_matched 28 = .ok (.if_icmp .ne 13, 3) := by decide +kernel
theorem dX11_matched_31 : decode cX11_matched 31 = .ok (.aload_n 0, 1) := by decide +kernel
theorem dX11_matched_32 : decode cX11_matched 32 = .ok (.getfield 68, 3) := by decide +kernel
theorem dX11_matched_35 : decode cX11_matched 35 = .ok (.getfield 280, 3) := by decide +kernel
theorem dX11_matched_38 : decode cX11_matched 38 = .ok (.goto 14, 3) := by decide +kernel
theorem dX11_matched_41 : decode cX11_matched 41 = .ok (.aload_n 0, 1) := by decide +kernel
theorem dX11_matched_42 : decode cX11_matched 42 = .ok (.getfield 68, 3) := by decide +kernel
theorem dX11_matched_45 : decode cX11_matched 45 = .ok (.getfield 283, 3) := by decide +kernel
theorem dX11_matched_48 : decode cX11_matched 48 = .ok (.iload_n 1, 1) := by decide +kernel
theorem dX11_matched_49 : decode cX11_matched 49 = .ok (.invokestatic 203, 3) := by decide +kernel
theorem dX11_matched_52 : decode cX11_matched 52 = .ok (.ireturn, 1) := by decide +kernel
set_option maxRecDepth 20000 in
theorem ggX11_bore_X11_within : GoodIn wsX11_bore wsX11_within := goodIn_r _ [7] rfl (by decide +kernel)
set_option maxRecDepth 20000 in
theorem gX11_bore_X11_within : GoodIn wsX11_bore (va_wsS RX11 72 yX11_within wsX11_within) := goodIn_app (goodIn_of _ (by decide +kernel)) ggX11_bore_X11_within
set_option maxRecDepth 20000 in
theorem ggX11_bore_X11_put : GoodIn wsX11_bore wsX11_put := goodIn_r _ [10] rfl (by decide +kernel)
set_option maxRecDepth 20000 in
theorem gX11_bore_X11_put : GoodIn wsX11_bore (va_wsS RX11 94 yX11_put wsX11_put) := goodIn_app (goodIn_of _ (by decide +kernel)) ggX11_bore_X11_put
theorem dX11_bore_0 : decode cX11_bore 0 = .ok (.iload_n 1, 1) := by decide +kernel
theorem dX11_bore_1 : decode cX11_bore 1 = .ok (.iconst (-1), 1) := by decide +kernel
theorem dX11_bore_2 : decode cX11_bore 2 = .ok (.if_icmp .ne 13, 3) := by decide +kernel
theorem dX11_bore_5 : decode cX11_bore 5 = .ok (.aload_n 0, 1) := by decide +kernel
theorem dX11_bore_6 : decode cX11_bore 6 = .ok (.getfield 10, 3) := by decide +kernel
theorem dX11_bore_9 : decode cX11_bore 9 = .ok (.iconst 0, 1) := by decide +kernel
theorem dX11_bore_10 : decode cX11_bore 10 = .ok (.putfield 286, 3) := by decide +kernel
theorem dX11_bore_13 : decode cX11_bore 13 = .ok (.iconst 0, 1) := by decide +kernel
theorem dX11_bore_14 : decode cX11_bore 14 = .ok (.ireturn, 1) := by decide +kernel
theorem dX11_bore_15 : decode cX11_bore 15 = .ok (.iload_n 1, 1) := by decide +kernel
theorem dX11_bore_16 : decode cX11_bore 16 = .ok (.iconst 0, 1) := by decide +kernel
theorem dX11_bore_17 : decode cX11_bore 17 = .ok (.bipush 99, 2) := by decide +kernel
theorem dX11_bore_19 : decode cX11_bore 19 = .ok (.invokestatic 72, 3) := by decide +kernel
theorem dX11_bore_22 : decode cX11_bore 22 = .ok (.ifCond .eq 15, 3) := by decide +kernel
theorem dX11_bore_25 : decode cX11_bore 25 = .ok (.aload_n 0, 1) := by decide +kernel
theorem dX11_bore_26 : decode cX11_bore 26 = .ok (.getfield 10, 3) := by decide +kernel
theorem dX11_bore_29 : decode cX11_bore 29 = .ok (.getfield 286, 3) := by decide +kernel
theorem dX11_bore_32 : decode cX11_bore 32 = .ok (.bipush 8, 2) := by decide +kernel
theorem dX11_bore_34 : decode cX11_bore 34 = .ok (.if_icmp .lt 6, 3) := by decide +kernel
theorem dX11_bore_37 : decode cX11_bore 37 = .ok (.bipush (-2), 2) := by decide +kernel
theorem dX11_bore_39 : decode cX11_bore 39 = .ok (.ireturn, 1) := by decide +kernel
theorem dX11_bore_40 : decode cX11_bore 40 = .ok (.aload_n 0, 1) := by decide +kernel
theorem dX11_bore_41 : decode cX11_bore 41 = .ok (.getfield 10, 3) := by decide +kernel
theorem dX11_bore_44 : decode cX11_bore 44 = .ok (.getfield 289, 3) := by decide +kernel
theorem dX11_bore_47 : decode cX11_bore 47 = .ok (.aload_n 0, 1) := by decide +kernel
theorem dX11_bore_48 : decode cX11_bore 48 = .ok (.getfield 10, 3) := by decide +kernel
theorem dX11_bore_51 : decode cX11_bore 51 = .ok (.getfield 286, 3) := by decide +kernel
theorem dX11_bore_54 : decode cX11_bore 54 = .ok (.iload_n 1, 1) := by decide +kernel
theorem dX11_bore_55 : decode cX11_bore 55 = .ok (.iconst 2, 1) := by decide +kernel
theorem dX11_bore_56 : decode cX11_bore 56 = .ok (.imul, 1) := by decide +kernel
theorem dX11_bore_57 : decode cX11_bore 57 = .ok (.iload_n 2, 1) := by decide +kernel
theorem dX11_bore_58 : decode cX11_bore 58 = .ok (.ifCond .eq 7, 3) := by decide +kernel
theorem dX11_bore_61 : decode cX11_bore 61 = .ok (.iconst 1, 1) := by decide +kernel
theorem dX11_bore_62 : decode cX11_bore 62 = .ok (.goto 4, 3) := by decide +kernel
theorem dX11_bore_65 : decode cX11_bore 65 = .ok (.iconst 0, 1) := by decide +kernel
theorem dX11_bore_66 : decode cX11_bore 66 = .ok (.iadd, 1) := by decide +kernel
theorem dX11_bore_67 : decode cX11_bore 67 = .ok (.invokestatic 94, 3) := by decide +kernel
theorem dX11_bore_70 : decode cX11_bore 70 = .ok (.aload_n 0, 1) := by decide +kernel
theorem dX11_bore_71 : decode cX11_bore 71 = .ok (.getfield 10, 3) := by decide +kernel
theorem dX11_bore_74 : decode cX11_bore 74 = .ok (.dup, 1) := by decide +kernel
theorem dX11_bore_75 : decode cX11_bore 75 = .ok (.getfield 286, 3) := by decide +kernel
theorem dX11_bore_78 : decode cX11_bore 78 = .ok (.iconst 1, 1) := by decide +kernel
theorem dX11_bore_79 : decode cX11_bore 79 = .ok (.iadd, 1) := by decide +kernel
theorem dX11_bore_80 : decode cX11_bore 80 = .ok (.putfield 286, 3) := by decide +kernel
theorem dX11_bore_83 : decode cX11_bore 83 = .ok (.aload_n 0, 1) := by decide +kernel
theorem dX11_bore_84 : decode cX11_bore 84 = .ok (.getfield 10, 3) := by decide +kernel
theorem dX11_bore_87 : decode cX11_bore 87 = .ok (.getfield 286, 3) := by decide +kernel
theorem dX11_bore_90 : decode cX11_bore 90 = .ok (.ireturn, 1) := by decide +kernel
set_option maxRecDepth 20000 in
theorem ggX11_bears_X0_leastErrors : GoodIn wsX11_bears wsX0_leastErrors := goodIn_r _ [6, 7, 8, 9, 10, 11, 12, 13, 5, 14, 15, 16, 17, 18, 19, 38, 39, 40, 41, 42, 43, 44, 45, 46, 47, 48, 49, 50, 51, 52, 53] rfl (by decide +kernel)
set_option maxRecDepth 20000 in
theorem gX11_bears_X0_leastErrors : GoodIn wsX11_bears (wsV RX11 292 RX0 yX0_leastErrors wsX0_leastErrors) := goodIn_app (goodIn_of _ (by decide +kernel)) ggX11_bears_X0_leastErrors
set_option maxRecDepth 20000 in
theorem ggX11_bears_X0_leastBorne : GoodIn wsX11_bears wsX0_leastBorne := goodIn_r _ [23, 24, 3, 4, 5, 6, 7, 8, 9, 10, 11, 12, 13, 14, 15, 16, 17, 18, 19, 38, 39, 40, 41, 42, 43, 44, 45, 46, 47, 48, 49, 50, 51, 52, 53] rfl (by decide +kernel)
set_option maxRecDepth 20000 in
theorem gX11_bears_X0_leastBorne : GoodIn wsX11_bears (wsV RX11 295 RX0 yX0_leastBorne wsX0_leastBorne) := goodIn_app (goodIn_of _ (by decide +kernel)) ggX11_bears_X0_leastBorne
set_option maxRecDepth 20000 in
theorem ggX11_bears_X0_greatestBorne : GoodIn wsX11_bears wsX0_greatestBorne := goodIn_r _ [28, 24, 3, 4, 5, 6, 7, 8, 9, 10, 11, 12, 13, 14, 15, 16, 17, 18, 19, 38, 39, 40, 41, 42, 43, 44, 45, 46, 47, 48, 49, 50, 51, 52, 53] rfl (by decide +kernel)
set_option maxRecDepth 20000 in
theorem gX11_bears_X0_greatestBorne : GoodIn wsX11_bears (wsV RX11 298 RX0 yX0_greatestBorne wsX0_greatestBorne) := goodIn_app (goodIn_of _ (by decide +kernel)) ggX11_bears_X0_greatestBorne
theorem dX11_bears_0 : decode cX11_bears 0 = .ok (.iload_n 1, 1) := by decide +kernel
theorem dX11_bears_1 : decode cX11_bears 1 = .ok (.tableswitch 51 0 2 #[27, 35, 43], 27) := by decide +kernel
theorem dX11_bears_28 : decode cX11_bears 28 = .ok (.aload_n 0, 1) := by decide +kernel
theorem dX11_bears_29 : decode cX11_bears 29 = .ok (.getfield 10, 3) := by decide +kernel
theorem dX11_bears_32 : decode cX11_bears 32 = .ok (.invokevirtual 292, 3) := by decide +kernel
theorem dX11_bears_35 : decode cX11_bears 35 = .ok (.ireturn, 1) := by decide +kernel
theorem dX11_bears_36 : decode cX11_bears 36 = .ok (.aload_n 0, 1) := by decide +kernel
theorem dX11_bears_37 : decode cX11_bears 37 = .ok (.getfield 10, 3) := by decide +kernel
theorem dX11_bears_40 : decode cX11_bears 40 = .ok (.invokevirtual 295, 3) := by decide +kernel
theorem dX11_bears_43 : decode cX11_bears 43 = .ok (.ireturn, 1) := by decide +kernel
theorem dX11_bears_44 : decode cX11_bears 44 = .ok (.aload_n 0, 1) := by decide +kernel
theorem dX11_bears_45 : decode cX11_bears 45 = .ok (.getfield 10, 3) := by decide +kernel
theorem dX11_bears_48 : decode cX11_bears 48 = .ok (.invokevirtual 298, 3) := by decide +kernel
theorem dX11_bears_51 : decode cX11_bears 51 = .ok (.ireturn, 1) := by decide +kernel
theorem dX11_bears_52 : decode cX11_bears 52 = .ok (.bipush (-2), 2) := by decide +kernel
theorem dX11_bears_54 : decode cX11_bears 54 = .ok (.ireturn, 1) := by decide +kernel
set_option maxRecDepth 20000 in
theorem ggX11_next_X11_within : GoodIn wsX11_next wsX11_within := goodIn_r _ [9] rfl (by decide +kernel)
set_option maxRecDepth 20000 in
theorem gX11_next_X11_within : GoodIn wsX11_next (va_wsS RX11 72 yX11_within wsX11_within) := goodIn_app (goodIn_of _ (by decide +kernel)) ggX11_next_X11_within
set_option maxRecDepth 20000 in
theorem ggX11_next_X0_leastErrors : GoodIn wsX11_next wsX0_leastErrors := goodIn_r _ [14, 15, 16, 4, 17, 18, 19, 20, 13, 21, 22, 23, 24, 8, 25, 36, 37, 38, 39, 40, 41, 42, 43, 44, 45, 46, 47, 48, 49, 50, 51] rfl (by decide +kernel)
set_option maxRecDepth 20000 in
theorem gX11_next_X0_leastErrors : GoodIn wsX11_next (wsV RX11 292 RX0 yX0_leastErrors wsX0_leastErrors) := goodIn_app (goodIn_of _ (by decide +kernel)) ggX11_next_X0_leastErrors
set_option maxRecDepth 20000 in
theorem ggX11_next_X0_errorsAt : GoodIn wsX11_next wsX0_errorsAt := goodIn_r _ [21, 22, 23, 24, 8, 25, 36, 37, 38, 39, 40, 41, 42, 43, 44, 45, 46, 47, 48, 49, 50, 51] rfl (by decide +kernel)
set_option maxRecDepth 20000 in
theorem gX11_next_X0_errorsAt : GoodIn wsX11_next (wsV RX11 301 RX0 yX0_errorsAt wsX0_errorsAt) := goodIn_app (goodIn_of _ (by decide +kernel)) ggX11_next_X0_errorsAt
theorem dX11_next_0 : decode cX11_next 0 = .ok (.iload_n 1, 1) := by decide +kernel
theorem dX11_next_1 : decode cX11_next 1 = .ok (.iconst 0, 1) := by decide +kernel
theorem dX11_next_2 : decode cX11_next 2 = .ok (.bipush 99, 2) := by decide +kernel
theorem dX11_next_4 : decode cX11_next 4 = .ok (.invokestatic 72, 3) := by decide +kernel
theorem dX11_next_7 : decode cX11_next 7 = .ok (.ifCond .ne 5, 3) := by decide +kernel
theorem dX11_next_10 : decode cX11_next 10 = .ok (.iconst (-1), 1) := by decide +kernel
theorem dX11_next_11 : decode cX11_next 11 = .ok (.ireturn, 1) := by decide +kernel
theorem dX11_next_12 : decode cX11_next 12 = .ok (.aload_n 0, 1) := by decide +kernel
theorem dX11_next_13 : decode cX11_next 13 = .ok (.getfield 10, 3) := by decide +kernel
theorem dX11_next_16 : decode cX11_next 16 = .ok (.invokevirtual 292, 3) := by decide +kernel
theorem dX11_next_19 : decode cX11_next 19 = .ok (.istore_n 2, 1) := by decide +kernel
theorem dX11_next_20 : decode cX11_next 20 = .ok (.iconst 0, 1) := by decide +kernel
theorem dX11_next_21 : decode cX11_next 21 = .ok (.istore_n 3, 1) := by decide +kernel
theorem dX11_next_22 : decode cX11_next 22 = .ok (.iconst 0, 1) := by decide +kernel
theorem dX11_next_23 : decode cX11_next 23 = .ok (.istore 4, 2) := by decide +kernel
theorem dX11_next_25 : decode cX11_next 25 = .ok (.iload 4, 2) := by decide +kernel
theorem dX11_next_27 : decode cX11_next 27 = .ok (.bipush 100, 2) := by decide +kernel
theorem dX11_next_29 : decode cX11_next 29 = .ok (.if_icmp .gt 30, 3) := by decide +kernel
theorem dX11_next_32 : decode cX11_next 32 = .ok (.iload_n 3, 1) := by decide +kernel
theorem dX11_next_33 : decode cX11_next 33 = .ok (.aload_n 0, 1) := by decide +kernel
theorem dX11_next_34 : decode cX11_next 34 = .ok (.getfield 10, 3) := by decide +kernel
theorem dX11_next_37 : decode cX11_next 37 = .ok (.iload 4, 2) := by decide +kernel
theorem dX11_next_39 : decode cX11_next 39 = .ok (.invokevirtual 301, 3) := by decide +kernel
theorem dX11_next_42 : decode cX11_next 42 = .ok (.iload_n 2, 1) := by decide +kernel
theorem dX11_next_43 : decode cX11_next 43 = .ok (.if_icmp .ne 7, 3) := by decide +kernel
theorem dX11_next_46 : decode cX11_next 46 = .ok (.iconst 1, 1) := by decide +kernel
theorem dX11_next_47 : decode cX11_next 47 = .ok (.goto 4, 3) := by decide +kernel
theorem dX11_next_50 : decode cX11_next 50 = .ok (.iconst 0, 1) := by decide +kernel
theorem dX11_next_51 : decode cX11_next 51 = .ok (.iadd, 1) := by decide +kernel
theorem dX11_next_52 : decode cX11_next 52 = .ok (.istore_n 3, 1) := by decide +kernel
theorem dX11_next_53 : decode cX11_next 53 = .ok (.iinc 4 1, 3) := by decide +kernel
theorem dX11_next_56 : decode cX11_next 56 = .ok (.goto (-31), 3) := by decide +kernel
theorem dX11_next_59 : decode cX11_next 59 = .ok (.iconst (-1), 1) := by decide +kernel
theorem dX11_next_60 : decode cX11_next 60 = .ok (.istore 4, 2) := by decide +kernel
theorem dX11_next_62 : decode cX11_next 62 = .ok (.iconst 0, 1) := by decide +kernel
theorem dX11_next_63 : decode cX11_next 63 = .ok (.istore 5, 2) := by decide +kernel
theorem dX11_next_65 : decode cX11_next 65 = .ok (.iload_n 3, 1) := by decide +kernel
theorem dX11_next_66 : decode cX11_next 66 = .ok (.istore 6, 2) := by decide +kernel
theorem dX11_next_68 : decode cX11_next 68 = .ok (.iconst 0, 1) := by decide +kernel
theorem dX11_next_69 : decode cX11_next 69 = .ok (.istore 7, 2) := by decide +kernel
theorem dX11_next_71 : decode cX11_next 71 = .ok (.iload 7, 2) := by decide +kernel
theorem dX11_next_73 : decode cX11_next 73 = .ok (.iload_n 1, 1) := by decide +kernel
theorem dX11_next_74 : decode cX11_next 74 = .ok (.if_icmp .gt 75, 3) := by decide +kernel
theorem dX11_next_77 : decode cX11_next 77 = .ok (.iload 6, 2) := by decide +kernel
theorem dX11_next_79 : decode cX11_next 79 = .ok (.aload_n 0, 1) := by decide +kernel
theorem dX11_next_80 : decode cX11_next 80 = .ok (.getfield 10, 3) := by decide +kernel
theorem dX11_next_83 : decode cX11_next 83 = .ok (.iload 7, 2) := by decide +kernel
theorem dX11_next_85 : decode cX11_next 85 = .ok (.invokevirtual 301, 3) := by decide +kernel
theorem dX11_next_88 : decode cX11_next 88 = .ok (.iload_n 2, 1) := by decide +kernel
theorem dX11_next_89 : decode cX11_next 89 = .ok (.if_icmp .ne 7, 3) := by decide +kernel
theorem dX11_next_92 : decode cX11_next 92 = .ok (.iconst 1, 1) := by decide +kernel
theorem dX11_next_93 : decode cX11_next 93 = .ok (.goto 4, 3) := by decide +kernel
theorem dX11_next_96 : decode cX11_next 96 = .ok (.iconst 0, 1) := by decide +kernel
theorem dX11_next_97 : decode cX11_next 97 = .ok (.isub, 1) := by decide +kernel
theorem dX11_next_98 : decode cX11_next 98 = .ok (.istore 6, 2) := by decide +kernel
theorem dX11_next_100 : decode cX11_next 100 = .ok (.iconst 2, 1) := by decide +kernel
theorem dX11_next_101 : decode cX11_next 101 = .ok (.iload 6, 2) := by decide +kernel
theorem dX11_next_103 : decode cX11_next 103 = .ok (.imul, 1) := by decide +kernel
theorem dX11_next_104 : decode cX11_next 104 = .ok (.iload_n 3, 1) := by decide +kernel
theorem dX11_next_105 : decode cX11_next 105 = .ok (.isub, 1) := by decide +kernel
theorem dX11_next_106 : decode cX11_next 106 = .ok (.invokestatic 304, 3) := by decide +kernel
theorem dX11_next_109 : decode cX11_next 109 = .ok (.istore 8, 2) := by decide +kernel
theorem dX11_next_111 : decode cX11_next 111 = .ok (.iload 6, 2) := by decide +kernel
theorem dX11_next_113 : decode cX11_next 113 = .ok (.ifCond .le 30, 3) := by decide +kernel
theorem dX11_next_116 : decode cX11_next 116 = .ok (.iload 6, 2) := by decide +kernel
theorem dX11_next_118 : decode cX11_next 118 = .ok (.iload_n 3, 1) := by decide +kernel
theorem dX11_next_119 : decode cX11_next 119 = .ok (.if_icmp .ge 24, 3) := by decide +kernel
theorem dX11_next_122 : decode cX11_next 122 = .ok (.iload 4, 2) := by decide +kernel
theorem dX11_next_124 : decode cX11_next 124 = .ok (.iconst (-1), 1) := by decide +kernel
theorem dX11_next_125 : decode cX11_next 125 = .ok (.if_icmp .eq 10, 3) := by decide +kernel
theorem dX11_next_128 : decode cX11_next 128 = .ok (.iload 8, 2) := by decide +kernel
theorem dX11_next_130 : decode cX11_next 130 = .ok (.iload 5, 2) := by decide +kernel
theorem dX11_next_132 : decode cX11_next 132 = .ok (.if_icmp .ge 11, 3) := by decide +kernel
theorem dX11_next_135 : decode cX11_next 135 = .ok (.iload 7, 2) := by decide +kernel
theorem dX11_next_137 : decode cX11_next 137 = .ok (.istore 4, 2) := by decide +kernel
theorem dX11_next_139 : decode cX11_next 139 = .ok (.iload 8, 2) := by decide +kernel
theorem dX11_next_141 : decode cX11_next 141 = .ok (.istore 5, 2) := by decide +kernel
theorem dX11_next_143 : decode cX11_next 143 = .ok (.iinc 7 1, 3) := by decide +kernel
theorem dX11_next_146 : decode cX11_next 146 = .ok (.goto (-75), 3) := by decide +kernel
theorem dX11_next_149 : decode cX11_next 149 = .ok (.iload 4, 2) := by decide +kernel
theorem dX11_next_151 : decode cX11_next 151 = .ok (.ireturn, 1) := by decide +kernel
set_option maxRecDepth 20000 in
theorem ggX11_worth_X11_within : GoodIn wsX11_worth wsX11_within := goodIn_r _ [6] rfl (by decide +kernel)
set_option maxRecDepth 20000 in
theorem gX11_worth_X11_within : GoodIn wsX11_worth (va_wsS RX11 72 yX11_within wsX11_within) := goodIn_app (goodIn_of _ (by decide +kernel)) ggX11_worth_X11_within
set_option maxRecDepth 20000 in
theorem ggX11_worth_X11_put : GoodIn wsX11_worth wsX11_put := goodIn_r _ [9] rfl (by decide +kernel)
set_option maxRecDepth 20000 in
theorem gX11_worth_X11_put : GoodIn wsX11_worth (va_wsS RX11 94 yX11_put wsX11_put) := goodIn_app (goodIn_of _ (by decide +kernel)) ggX11_worth_X11_put
theorem dX11_worth_0 : decode cX11_worth 0 = .ok (.iload_n 1, 1) := by decide +kernel
theorem dX11_worth_1 : decode cX11_worth 1 = .ok (.iconst 1, 1) := by decide +kernel
theorem dX11_worth_2 : decode cX11_worth 2 = .ok (.bipush 15, 2) := by decide +kernel
theorem dX11_worth_4 : decode cX11_worth 4 = .ok (.invokestatic 72, 3) := by decide +kernel
theorem dX11_worth_7 : decode cX11_worth 7 = .ok (.ifCond .eq 14, 3) := by decide +kernel
theorem dX11_worth_10 : decode cX11_worth 10 = .ok (.iload_n 2, 1) := by decide +kernel
theorem dX11_worth_11 : decode cX11_worth 11 = .ok (.iconst 0, 1) := by decide +kernel
theorem dX11_worth_12 : decode cX11_worth 12 = .ok (.sipush 999, 3) := by decide +kernel
theorem dX11_worth_15 : decode cX11_worth 15 = .ok (.invokestatic 72, 3) := by decide +kernel
theorem dX11_worth_18 : decode cX11_worth 18 = .ok (.ifCond .ne 5, 3) := by decide +kernel
theorem dX11_worth_21 : decode cX11_worth 21 = .ok (.iconst 0, 1) := by decide +kernel
theorem dX11_worth_22 : decode cX11_worth 22 = .ok (.ireturn, 1) := by decide +kernel
theorem dX11_worth_23 : decode cX11_worth 23 = .ok (.aload_n 0, 1) := by decide +kernel
theorem dX11_worth_24 : decode cX11_worth 24 = .ok (.getfield 10, 3) := by decide +kernel
theorem dX11_worth_27 : decode cX11_worth 27 = .ok (.getfield 309, 3) := by decide +kernel
theorem dX11_worth_30 : decode cX11_worth 30 = .ok (.iload_n 1, 1) := by decide +kernel
theorem dX11_worth_31 : decode cX11_worth 31 = .ok (.iload_n 2, 1) := by decide +kernel
theorem dX11_worth_32 : decode cX11_worth 32 = .ok (.invokestatic 94, 3) := by decide +kernel
theorem dX11_worth_35 : decode cX11_worth 35 = .ok (.iconst 1, 1) := by decide +kernel
theorem dX11_worth_36 : decode cX11_worth 36 = .ok (.ireturn, 1) := by decide +kernel
set_option maxRecDepth 20000 in
theorem ggX11_share_X11_within : GoodIn wsX11_share wsX11_within := goodIn_r _ [6] rfl (by decide +kernel)
set_option maxRecDepth 20000 in
theorem gX11_share_X11_within : GoodIn wsX11_share (va_wsS RX11 72 yX11_within wsX11_within) := goodIn_app (goodIn_of _ (by decide +kernel)) ggX11_share_X11_within
set_option maxRecDepth 20000 in
theorem ggX11_share_J6_bitCount_0f7a4 : GoodIn wsX11_share wsJ6_bitCount_0f7a4 := goodIn_r _ [10, 11, 12, 13] rfl (by decide +kernel)
set_option maxRecDepth 20000 in
theorem gX11_share_J6_bitCount_0f7a4 : GoodIn wsX11_share (va_wsS RX11 312 yJ6_bitCount_0f7a4 wsJ6_bitCount_0f7a4) := goodIn_app (goodIn_of _ (by decide +kernel)) ggX11_share_J6_bitCount_0f7a4
set_option maxRecDepth 20000 in
theorem ggX11_share_X11_at : GoodIn wsX11_share wsX11_at := goodIn_r _ [16] rfl (by decide +kernel)
set_option maxRecDepth 20000 in
theorem gX11_share_X11_at : GoodIn wsX11_share (va_wsS RX11 203 yX11_at wsX11_at) := goodIn_app (goodIn_of _ (by decide +kernel)) ggX11_share_X11_at
set_option maxRecDepth 20000 in
theorem ggX11_share_X11_factorial : GoodIn wsX11_share wsX11_factorial := goodIn_r _ [19] rfl (by decide +kernel)
set_option maxRecDepth 20000 in
theorem gX11_share_X11_factorial : GoodIn wsX11_share (va_wsS RX11 317 yX11_factorial wsX11_factorial) := goodIn_app (goodIn_of _ (by decide +kernel)) ggX11_share_X11_factorial
set_option maxRecDepth 20000 in
theorem ggX11_share_X11_inLowestTerms : GoodIn wsX11_share wsX11_inLowestTerms := goodIn_r _ [22, 23, 24, 25, 26] rfl (by decide +kernel)
set_option maxRecDepth 20000 in
theorem gX11_share_X11_inLowestTerms : GoodIn wsX11_share (va_wsS RX11 320 yX11_inLowestTerms wsX11_inLowestTerms) := goodIn_app (goodIn_of _ (by decide +kernel)) ggX11_share_X11_inLowestTerms
theorem dX11_share_0 : decode cX11_share 0 = .ok (.iload_n 2, 1) := by decide +kernel
theorem dX11_share_1 : decode cX11_share 1 = .ok (.iconst 1, 1) := by decide +kernel
theorem dX11_share_2 : decode cX11_share 2 = .ok (.iconst 4, 1) := by decide +kernel
theorem dX11_share_3 : decode cX11_share 3 = .ok (.invokestatic 72, 3) := by decide +kernel
theorem dX11_share_6 : decode cX11_share 6 = .ok (.ifCond .eq 14, 3) := by decide +kernel
theorem dX11_share_9 : decode cX11_share 9 = .ok (.iload_n 1, 1) := by decide +kernel
theorem dX11_share_10 : decode cX11_share 10 = .ok (.iconst 0, 1) := by decide +kernel
theorem dX11_share_11 : decode cX11_share 11 = .ok (.iload_n 2, 1) := by decide +kernel
theorem dX11_share_12 : decode cX11_share 12 = .ok (.iconst 1, 1) := by decide +kernel
theorem dX11_share_13 : decode cX11_share 13 = .ok (.isub, 1) := by decide +kernel
theorem dX11_share_14 : decode cX11_share 14 = .ok (.invokestatic 72, 3) := by decide +kernel
theorem dX11_share_17 : decode cX11_share 17 = .ok (.ifCond .ne 5, 3) := by decide +kernel
theorem dX11_share_20 : decode cX11_share 20 = .ok (.iconst (-1), 1) := by decide +kernel
theorem dX11_share_21 : decode cX11_share 21 = .ok (.ireturn, 1) := by decide +kernel
theorem dX11_share_22 : decode cX11_share 22 = .ok (.iconst 0, 1) := by decide +kernel
theorem dX11_share_23 : decode cX11_share 23 = .ok (.istore 4, 2) := by decide +kernel
theorem dX11_share_25 : decode cX11_share 25 = .ok (.iconst 0, 1) := by decide +kernel
theorem dX11_share_26 : decode cX11_share 26 = .ok (.istore 5, 2) := by decide +kernel
theorem dX11_share_28 : decode cX11_share 28 = .ok (.iload 5, 2) := by decide +kernel
theorem dX11_share_30 : decode cX11_share 30 = .ok (.iconst 1, 1) := by decide +kernel
theorem dX11_share_31 : decode cX11_share 31 = .ok (.iload_n 2, 1) := by decide +kernel
theorem dX11_share_32 : decode cX11_share 32 = .ok (.ishl, 1) := by decide +kernel
theorem dX11_share_33 : decode cX11_share 33 = .ok (.if_icmp .ge 79, 3) := by decide +kernel
theorem dX11_share_36 : decode cX11_share 36 = .ok (.iload 5, 2) := by decide +kernel
theorem dX11_share_38 : decode cX11_share 38 = .ok (.iload_n 1, 1) := by decide +kernel
theorem dX11_share_39 : decode cX11_share 39 = .ok (.ishr, 1) := by decide +kernel
theorem dX11_share_40 : decode cX11_share 40 = .ok (.iconst 1, 1) := by decide +kernel
theorem dX11_share_41 : decode cX11_share 41 = .ok (.iand, 1) := by decide +kernel
theorem dX11_share_42 : decode cX11_share 42 = .ok (.ifCond .ne 64, 3) := by decide +kernel
theorem dX11_share_45 : decode cX11_share 45 = .ok (.iload 5, 2) := by decide +kernel
theorem dX11_share_47 : decode cX11_share 47 = .ok (.invokestatic 312, 3) := by decide +kernel
theorem dX11_share_50 : decode cX11_share 50 = .ok (.istore 6, 2) := by decide +kernel
theorem dX11_share_52 : decode cX11_share 52 = .ok (.aload_n 0, 1) := by decide +kernel
theorem dX11_share_53 : decode cX11_share 53 = .ok (.getfield 10, 3) := by decide +kernel
theorem dX11_share_56 : decode cX11_share 56 = .ok (.getfield 309, 3) := by decide +kernel
theorem dX11_share_59 : decode cX11_share 59 = .ok (.iload 5, 2) := by decide +kernel
theorem dX11_share_61 : decode cX11_share 61 = .ok (.iconst 1, 1) := by decide +kernel
theorem dX11_share_62 : decode cX11_share 62 = .ok (.iload_n 1, 1) := by decide +kernel
theorem dX11_share_63 : decode cX11_share 63 = .ok (.ishl, 1) := by decide +kernel
theorem dX11_share_64 : decode cX11_share 64 = .ok (.ior, 1) := by decide +kernel
theorem dX11_share_65 : decode cX11_share 65 = .ok (.invokestatic 203, 3) := by decide +kernel
theorem dX11_share_68 : decode cX11_share 68 = .ok (.aload_n 0, 1) := by decide +kernel
theorem dX11_share_69 : decode cX11_share 69 = .ok (.getfield 10, 3) := by decide +kernel
theorem dX11_share_72 : decode cX11_share 72 = .ok (.getfield 309, 3) := by decide +kernel
theorem dX11_share_75 : decode cX11_share 75 = .ok (.iload 5, 2) := by decide +kernel
theorem dX11_share_77 : decode cX11_share 77 = .ok (.invokestatic 203, 3) := by decide +kernel
theorem dX11_share_80 : decode cX11_share 80 = .ok (.isub, 1) := by decide +kernel
theorem dX11_share_81 : decode cX11_share 81 = .ok (.istore 7, 2) := by decide +kernel
theorem dX11_share_83 : decode cX11_share 83 = .ok (.iload 4, 2) := by decide +kernel
theorem dX11_share_85 : decode cX11_share 85 = .ok (.iload 6, 2) := by decide +kernel
theorem dX11_share_87 : decode cX11_share 87 = .ok (.invokestatic 317, 3) := by decide +kernel
theorem dX11_share_90 : decode cX11_share 90 = .ok (.iload_n 2, 1) := by decide +kernel
theorem dX11_share_91 : decode cX11_share 91 = .ok (.iload 6, 2) := by decide +kernel
theorem dX11_share_93 : decode cX11_share 93 = .ok (.isub, 1) := by decide +kernel
theorem dX11_share_94 : decode cX11_share 94 = .ok (.iconst 1, 1) := by decide +kernel
theorem dX11_share_95 : decode cX11_share 95 = .ok (.isub, 1) := by decide +kernel
theorem dX11_share_96 : decode cX11_share 96 = .ok (.invokestatic 317, 3) := by decide +kernel
theorem dX11_share_99 : decode cX11_share 99 = .ok (.imul, 1) := by decide +kernel
theorem dX11_share_100 : decode cX11_share 100 = .ok (.iload 7, 2) := by decide +kernel
theorem dX11_share_102 : decode cX11_share 102 = .ok (.imul, 1) := by decide +kernel
theorem dX11_share_103 : decode cX11_share 103 = .ok (.iadd, 1) := by decide +kernel
theorem dX11_share_104 : decode cX11_share 104 = .ok (.istore 4, 2) := by decide +kernel
theorem dX11_share_106 : decode cX11_share 106 = .ok (.iinc 5 1, 3) := by decide +kernel
theorem dX11_share_109 : decode cX11_share 109 = .ok (.goto (-81), 3) := by decide +kernel
theorem dX11_share_112 : decode cX11_share 112 = .ok (.iload 4, 2) := by decide +kernel
theorem dX11_share_114 : decode cX11_share 114 = .ok (.iload_n 2, 1) := by decide +kernel
theorem dX11_share_115 : decode cX11_share 115 = .ok (.invokestatic 317, 3) := by decide +kernel
theorem dX11_share_118 : decode cX11_share 118 = .ok (.iload_n 3, 1) := by decide +kernel
theorem dX11_share_119 : decode cX11_share 119 = .ok (.invokestatic 320, 3) := by decide +kernel
theorem dX11_share_122 : decode cX11_share 122 = .ok (.ireturn, 1) := by decide +kernel
set_option maxRecDepth 20000 in
theorem ggX11_stays_X11_within : GoodIn wsX11_stays wsX11_within := goodIn_r _ [7] rfl (by decide +kernel)
set_option maxRecDepth 20000 in
theorem gX11_stays_X11_within : GoodIn wsX11_stays (va_wsS RX11 72 yX11_within wsX11_within) := goodIn_app (goodIn_of _ (by decide +kernel)) ggX11_stays_X11_within
set_option maxRecDepth 20000 in
theorem ggX11_stays_X11_inLowestTerms : GoodIn wsX11_stays wsX11_inLowestTerms := goodIn_r _ [10, 11, 12, 13, 14] rfl (by decide +kernel)
set_option maxRecDepth 20000 in
theorem gX11_stays_X11_inLowestTerms : GoodIn wsX11_stays (va_wsS RX11 320 yX11_inLowestTerms wsX11_inLowestTerms) := goodIn_app (goodIn_of _ (by decide +kernel)) ggX11_stays_X11_inLowestTerms
theorem dX11_stays_0 : decode cX11_stays 0 = .ok (.iload_n 1, 1) := by decide +kernel
theorem dX11_stays_1 : decode cX11_stays 1 = .ok (.iconst 0, 1) := by decide +kernel
theorem dX11_stays_2 : decode cX11_stays 2 = .ok (.bipush 10, 2) := by decide +kernel
theorem dX11_stays_4 : decode cX11_stays 4 = .ok (.invokestatic 72, 3) := by decide +kernel
theorem dX11_stays_7 : decode cX11_stays 7 = .ok (.ifCond .eq 34, 3) := by decide +kernel
theorem dX11_stays_10 : decode cX11_stays 10 = .ok (.iload_n 2, 1) := by decide +kernel
theorem dX11_stays_11 : decode cX11_stays 11 = .ok (.iconst 0, 1) := by decide +kernel
theorem dX11_stays_12 : decode cX11_stays 12 = .ok (.sipush 999, 3) := by decide +kernel
theorem dX11_stays_15 : decode cX11_stays 15 = .ok (.invokestatic 72, 3) := by decide +kernel
theorem dX11_stays_18 : decode cX11_stays 18 = .ok (.ifCond .eq 23, 3) := by decide +kernel
theorem dX11_stays_21 : decode cX11_stays 21 = .ok (.iload_n 3, 1) := by decide +kernel
theorem dX11_stays_22 : decode cX11_stays 22 = .ok (.iconst 0, 1) := by decide +kernel
theorem dX11_stays_23 : decode cX11_stays 23 = .ok (.bipush 99, 2) := by decide +kernel
theorem dX11_stays_25 : decode cX11_stays 25 = .ok (.invokestatic 72, 3) := by decide +kernel
theorem dX11_stays_28 : decode cX11_stays 28 = .ok (.ifCond .eq 13, 3) := by decide +kernel
theorem dX11_stays_31 : decode cX11_stays 31 = .ok (.iload 4, 2) := by decide +kernel
theorem dX11_stays_33 : decode cX11_stays 33 = .ok (.iconst 0, 1) := by decide +kernel
theorem dX11_stays_34 : decode cX11_stays 34 = .ok (.iconst 2, 1) := by decide +kernel
theorem dX11_stays_35 : decode cX11_stays 35 = .ok (.invokestatic 72, 3) := by decide +kernel
theorem dX11_stays_38 : decode cX11_stays 38 = .ok (.ifCond .ne 7, 3) := by decide +kernel
theorem dX11_stays_41 : decode cX11_stays 41 = .ok (.ldc_w 324, 3) := by decide +kernel
theorem dX11_stays_44 : decode cX11_stays 44 = .ok (.ireturn, 1) := by decide +kernel
theorem dX11_stays_45 : decode cX11_stays 45 = .ok (.iconst 0, 1) := by decide +kernel
theorem dX11_stays_46 : decode cX11_stays 46 = .ok (.istore 5, 2) := by decide +kernel
theorem dX11_stays_48 : decode cX11_stays 48 = .ok (.iconst 0, 1) := by decide +kernel
theorem dX11_stays_49 : decode cX11_stays 49 = .ok (.istore 6, 2) := by decide +kernel
theorem dX11_stays_51 : decode cX11_stays 51 = .ok (.iconst 0, 1) := by decide +kernel
theorem dX11_stays_52 : decode cX11_stays 52 = .ok (.istore 7, 2) := by decide +kernel
theorem dX11_stays_54 : decode cX11_stays 54 = .ok (.ldc_w 325, 3) := by decide +kernel
theorem dX11_stays_57 : decode cX11_stays 57 = .ok (.istore 8, 2) := by decide +kernel
theorem dX11_stays_59 : decode cX11_stays 59 = .ok (.iconst 1, 1) := by decide +kernel
theorem dX11_stays_60 : decode cX11_stays 60 = .ok (.istore 9, 2) := by decide +kernel
theorem dX11_stays_62 : decode cX11_stays 62 = .ok (.iload 9, 2) := by decide +kernel
theorem dX11_stays_64 : decode cX11_stays 64 = .ok (.bipush 6, 2) := by decide +kernel
theorem dX11_stays_66 : decode cX11_stays 66 = .ok (.if_icmp .gt 55, 3) := by decide +kernel
theorem dX11_stays_69 : decode cX11_stays 69 = .ok (.iload 7, 2) := by decide +kernel
theorem dX11_stays_71 : decode cX11_stays 71 = .ok (.iload 8, 2) := by decide +kernel
theorem dX11_stays_73 : decode cX11_stays 73 = .ok (.iload_n 1, 1) := by decide +kernel
theorem dX11_stays_74 : decode cX11_stays 74 = .ok (.iload_n 2, 1) := by decide +kernel
theorem dX11_stays_75 : decode cX11_stays 75 = .ok (.imul, 1) := by decide +kernel
theorem dX11_stays_76 : decode cX11_stays 76 = .ok (.bipush 10, 2) := by decide +kernel
theorem dX11_stays_78 : decode cX11_stays 78 = .ok (.iload 9, 2) := by decide +kernel
theorem dX11_stays_80 : decode cX11_stays 80 = .ok (.imul, 1) := by decide +kernel
theorem dX11_stays_81 : decode cX11_stays 81 = .ok (.iload_n 3, 1) := by decide +kernel
theorem dX11_stays_82 : decode cX11_stays 82 = .ok (.imul, 1) := by decide +kernel
theorem dX11_stays_83 : decode cX11_stays 83 = .ok (.isub, 1) := by decide +kernel
theorem dX11_stays_84 : decode cX11_stays 84 = .ok (.imul, 1) := by decide +kernel
theorem dX11_stays_85 : decode cX11_stays 85 = .ok (.iadd, 1) := by decide +kernel
theorem dX11_stays_86 : decode cX11_stays 86 = .ok (.istore 7, 2) := by decide +kernel
theorem dX11_stays_88 : decode cX11_stays 88 = .ok (.iload 7, 2) := by decide +kernel
theorem dX11_stays_90 : decode cX11_stays 90 = .ok (.iload 6, 2) := by decide +kernel
theorem dX11_stays_92 : decode cX11_stays 92 = .ok (.if_icmp .le 11, 3) := by decide +kernel
theorem dX11_stays_95 : decode cX11_stays 95 = .ok (.iload 7, 2) := by decide +kernel
theorem dX11_stays_97 : decode cX11_stays 97 = .ok (.istore 6, 2) := by decide +kernel
theorem dX11_stays_99 : decode cX11_stays 99 = .ok (.iload 9, 2) := by decide +kernel
theorem dX11_stays_101 : decode cX11_stays 101 = .ok (.istore 5, 2) := by decide +kernel
theorem dX11_stays_103 : decode cX11_stays 103 = .ok (.iload 8, 2) := by decide +kernel
theorem dX11_stays_105 : decode cX11_stays 105 = .ok (.bipush 10, 2) := by decide +kernel
theorem dX11_stays_107 : decode cX11_stays 107 = .ok (.iload_n 1, 1) := by decide +kernel
theorem dX11_stays_108 : decode cX11_stays 108 = .ok (.isub, 1) := by decide +kernel
theorem dX11_stays_109 : decode cX11_stays 109 = .ok (.imul, 1) := by decide +kernel
theorem dX11_stays_110 : decode cX11_stays 110 = .ok (.bipush 10, 2) := by decide +kernel
theorem dX11_stays_112 : decode cX11_stays 112 = .ok (.idiv, 1) := by decide +kernel
theorem dX11_stays_113 : decode cX11_stays 113 = .ok (.istore 8, 2) := by decide +kernel
theorem dX11_stays_115 : decode cX11_stays 115 = .ok (.iinc 9 1, 3) := by decide +kernel
theorem dX11_stays_118 : decode cX11_stays 118 = .ok (.goto (-56), 3) := by decide +kernel
theorem dX11_stays_121 : decode cX11_stays 121 = .ok (.iload 4, 2) := by decide +kernel
theorem dX11_stays_123 : decode cX11_stays 123 = .ok (.ifCond .ne 8, 3) := by decide +kernel
theorem dX11_stays_126 : decode cX11_stays 126 = .ok (.iload 5, 2) := by decide +kernel
theorem dX11_stays_128 : decode cX11_stays 128 = .ok (.goto 22, 3) := by decide +kernel
theorem dX11_stays_131 : decode cX11_stays 131 = .ok (.iload 6, 2) := by decide +kernel
theorem dX11_stays_133 : decode cX11_stays 133 = .ok (.ldc_w 326, 3) := by decide +kernel
theorem dX11_stays_136 : decode cX11_stays 136 = .ok (.iload 4, 2) := by decide +kernel
theorem dX11_stays_138 : decode cX11_stays 138 = .ok (.iconst 2, 1) := by decide +kernel
theorem dX11_stays_139 : decode cX11_stays 139 = .ok (.if_icmp .ne 7, 3) := by decide +kernel
theorem dX11_stays_142 : decode cX11_stays 142 = .ok (.iconst 1, 1) := by decide +kernel
theorem dX11_stays_143 : decode cX11_stays 143 = .ok (.goto 4, 3) := by decide +kernel
theorem dX11_stays_146 : decode cX11_stays 146 = .ok (.iconst 0, 1) := by decide +kernel
theorem dX11_stays_147 : decode cX11_stays 147 = .ok (.invokestatic 320, 3) := by decide +kernel
theorem dX11_stays_150 : decode cX11_stays 150 = .ok (.ireturn, 1) := by decide +kernel
set_option maxRecDepth 20000 in
theorem ggX11_behind_X11_isFall : GoodIn wsX11_behind wsX11_isFall := goodIn_r _ [6, 7, 8, 5, 9] rfl (by decide +kernel)
set_option maxRecDepth 20000 in
theorem gX11_behind_X11_isFall : GoodIn wsX11_behind (va_wsS RX11 83 yX11_isFall wsX11_isFall) := goodIn_app (goodIn_of _ (by decide +kernel)) ggX11_behind_X11_isFall
set_option maxRecDepth 20000 in
theorem ggX11_behind_X11_at : GoodIn wsX11_behind wsX11_at := goodIn_r _ [12] rfl (by decide +kernel)
set_option maxRecDepth 20000 in
theorem gX11_behind_X11_at : GoodIn wsX11_behind (va_wsS RX11 203 yX11_at wsX11_at) := goodIn_app (goodIn_of _ (by decide +kernel)) ggX11_behind_X11_at
set_option maxRecDepth 20000 in
theorem ggX11_behind_X11_put : GoodIn wsX11_behind wsX11_put := goodIn_r _ [15] rfl (by decide +kernel)
set_option maxRecDepth 20000 in
theorem gX11_behind_X11_put : GoodIn wsX11_behind (va_wsS RX11 94 yX11_put wsX11_put) := goodIn_app (goodIn_of _ (by decide +kernel)) ggX11_behind_X11_put
theorem dX11_behind_0 : decode cX11_behind 0 = .ok (.iload_n 1, 1) := by decide +kernel
theorem dX11_behind_1 : decode cX11_behind 1 = .ok (.invokestatic 83, 3) := by decide +kernel
theorem dX11_behind_4 : decode cX11_behind 4 = .ok (.ifCond .eq 15, 3) := by decide +kernel
theorem dX11_behind_7 : decode cX11_behind 7 = .ok (.iload_n 2, 1) := by decide +kernel
theorem dX11_behind_8 : decode cX11_behind 8 = .ok (.invokestatic 83, 3) := by decide +kernel
theorem dX11_behind_11 : decode cX11_behind 11 = .ok (.ifCond .eq 8, 3) := by decide +kernel
theorem dX11_behind_14 : decode cX11_behind 14 = .ok (.iload_n 1, 1) := by decide +kernel
theorem dX11_behind_15 : decode cX11_behind 15 = .ok (.iload_n 2, 1) := by decide +kernel
theorem dX11_behind_16 : decode cX11_behind 16 = .ok (.if_icmp .ne 5, 3) := by decide +kernel
theorem dX11_behind_19 : decode cX11_behind 19 = .ok (.iconst 0, 1) := by decide +kernel
theorem dX11_behind_20 : decode cX11_behind 20 = .ok (.ireturn, 1) := by decide +kernel
